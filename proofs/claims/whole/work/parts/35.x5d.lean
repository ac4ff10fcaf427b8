theorem fa_xorN (a b : Nat) : nI a ^^^ nI b = nI (a ^^^ b) := by
  apply Int32.toBitVec_inj.mp
  show (nI a).toBitVec ^^^ (nI b).toBitVec = (nI (a ^^^ b)).toBitVec
  apply BitVec.eq_of_toNat_eq
  rw [BitVec.toNat_xor]
  show (BitVec.ofNat 32 a).toNat ^^^ (BitVec.ofNat 32 b).toNat = (BitVec.ofNat 32 (a ^^^ b)).toNat
  rw [BitVec.toNat_ofNat, BitVec.toNat_ofNat, BitVec.toNat_ofNat]
  apply Nat.eq_of_testBit_eq
  intro i
  rw [Nat.testBit_xor, Nat.testBit_mod_two_pow, Nat.testBit_mod_two_pow, Nat.testBit_mod_two_pow, Nat.testBit_xor]
  cases decide (i < 32) <;> simp
theorem and_lt {a b k : Nat} (h : a < k) : a &&& b < k := Nat.lt_of_le_of_lt Nat.and_le_left h
theorem CR_keep {σ σ' : St} {A : Ab} {j : Nat} (hC : CR σ A) (hj : j < 2) (hp : PlanOK σ' (49 + 3 * j) A.P) (hf : Fr [49 + 3 * j, 49 + 3 * j + 1, 49 + 3 * j + 2] σ σ') : CR (up σ' 47 j (nI 1)) (A.P, A.t, A.m, A.hs, fun i => if i = j then some A.P else A.im i, A.sn) := by
  have e : ∀ a, a ≠ 47 → (a < 49 + 3 * j ∨ 51 + 3 * j < a) → up σ' 47 j (nI 1) a = σ a := fun a h1 h2 => (upR_n _ _ h1).trans (hf a (by simp only [List.mem_cons, List.not_mem_nil, or_false]; omega))
  have e1 : up σ' 47 j (nI 1) 47 = upd (σ 47) j (nI 1) := by
    rw [show up σ' 47 j (nI 1) 47 = upd (σ' 47) j (nI 1) from upR_s _ _ _, hf 47 (by simp only [List.mem_cons, List.not_mem_nil, or_false]; omega)]
  have hP' : PlanOK (up σ' 47 j (nI 1)) (49 + 3 * j) A.P := hp.frame (upR_n _ _ (by omega)) (upR_n _ _ (by omega)) (upR_n _ _ (by omega))
  refine ⟨hC.1.frame (e 1 (by decide) (by omega)) (e 2 (by decide) (by omega)) (e 3 (by decide) (by omega)), hC.2.1.eq (e 7 (by decide) (by omega)) (e 8 (by decide) (by omega)), hC.2.2.1.eq (fun a ha => e a (by omega) (by omega)), fun i hi => ?_, hC.2.2.2.2.eq (e 0 (by decide) (by omega)) (e 48 (by decide) (by omega))⟩
  rw [e1]
  by_cases q : i = j
  · subst q
    refine ⟨fun r => ?_, fun Q r => ?_⟩
    · change (if i = i then some A.P else A.im i) = none at r
      rw [if_pos rfl] at r
      cases r
    · change (if i = i then some A.P else A.im i) = some Q at r
      rw [if_pos rfl] at r
      cases r
      exact ⟨upd_s _ _ _, hP'⟩
  · rw [upd_n _ _ q]
    refine ⟨fun r => ?_, fun Q r => ?_⟩
    · change (if i = j then some A.P else A.im i) = none at r
      rw [if_neg q] at r
      exact (hC.2.2.2.1 i hi).1 r
    · change (if i = j then some A.P else A.im i) = some Q at r
      rw [if_neg q] at r
      have z := (hC.2.2.2.1 i hi).2 Q r
      exact ⟨z.1, z.2.frame (e _ (by omega) (by omega)) (e _ (by omega) (by omega)) (e _ (by omega) (by omega))⟩
theorem CR_back {σ σ' : St} {A : Ab} {Q : Pl} (hC : CR σ A) (hp : PlanOK σ' 1 Q) (hf : Fr [1, 2, 3] σ σ') : CR (up σ' 9 2 (nI 0)) (Q, A.t, A.m, [], A.im, A.sn) := by
  have e : ∀ a, a ≠ 9 → (a < 1 ∨ 3 < a) → up σ' 9 2 (nI 0) a = σ a := fun a h1 h2 => (upR_n _ _ h1).trans (hf a (by simp only [List.mem_cons, List.not_mem_nil, or_false]; omega))
  refine ⟨hp.frame (upR_n _ _ (by decide)) (upR_n _ _ (by decide)) (upR_n _ _ (by decide)), hC.2.1.eq (e 7 (by decide) (by omega)) (e 8 (by decide) (by omega)), hC.2.2.1.nil ?_ ?_, hC.2.2.2.1.eq (e 47 (by decide) (by omega)) (fun a h1 h2 => e a (by omega) (by omega)), hC.2.2.2.2.eq (e 0 (by decide) (by omega)) (e 48 (by decide) (by omega))⟩
  · rw [show up σ' 9 2 (nI 0) 9 = upd (σ' 9) 2 (nI 0) from upR_s _ _ _, hf 9 (by decide)]
    exact upd_n _ _ (by decide)
  · rw [show up σ' 9 2 (nI 0) 9 = upd (σ' 9) 2 (nI 0) from upR_s _ _ _]
    exact upd_s _ _ _
theorem CR_tell {σ σ' : St} {A : Ab} (hC : CR σ A) (h : σ' 7 1 = nI A.m) (hf : Fr [4, 5, 6, 7] σ σ') : CR σ' A :=
  ⟨hC.1.frame (hf 1 (by decide)) (hf 2 (by decide)) (hf 3 (by decide)), hC.2.1.fr h (hf 8 (by decide)), hC.2.2.1.eq (fun a ha => hf a (by simp only [List.mem_cons, List.not_mem_nil, or_false]; omega)), hC.2.2.2.1.eq (hf 47 (by decide)) (fun a h1 h2 => hf a (by simp only [List.mem_cons, List.not_mem_nil, or_false]; omega)), hC.2.2.2.2.eq (hf 0 (by decide)) (hf 48 (by decide))⟩
theorem CR_plan {σ σ' : St} {A : Ab} {Q : Pl} (hC : CR σ A) (hp : PlanOK σ' 1 Q) (hf : Fr [1, 2, 3, 4, 5, 6, 7] σ σ') : CR (up (up (up (up (up σ' 7 1 (nI 0)) 9 2 (nI 0)) 0 9 (nI 0)) 47 0 (nI 0)) 47 1 (nI 0)) (Q, A.t, 0, [], fun _ => none, []) := by
  have e : ∀ a, a ≠ 47 → a ≠ 0 → a ≠ 9 → a ≠ 7 → (up (up (up (up (up σ' 7 1 (nI 0)) 9 2 (nI 0)) 0 9 (nI 0)) 47 0 (nI 0)) 47 1 (nI 0)) a = σ' a := fun a h1 h2 h3 h4 => by
    rw [up, upR_n _ _ h1, up, upR_n _ _ h1, up, upR_n _ _ h2, up, upR_n _ _ h3, up, upR_n _ _ h4]
  have e7 : (up (up (up (up (up σ' 7 1 (nI 0)) 9 2 (nI 0)) 0 9 (nI 0)) 47 0 (nI 0)) 47 1 (nI 0)) 7 = upd (σ' 7) 1 (nI 0) := by
    rw [up, upR_n _ _ (by decide), up, upR_n _ _ (by decide), up, upR_n _ _ (by decide), up, upR_n _ _ (by decide), up, upR_s]
  have e9 : (up (up (up (up (up σ' 7 1 (nI 0)) 9 2 (nI 0)) 0 9 (nI 0)) 47 0 (nI 0)) 47 1 (nI 0)) 9 = upd (σ' 9) 2 (nI 0) := by
    rw [up, upR_n _ _ (by decide), up, upR_n _ _ (by decide), up, upR_n _ _ (by decide), up, upR_s, up, upR_n _ _ (by decide)]
  have e0 : (up (up (up (up (up σ' 7 1 (nI 0)) 9 2 (nI 0)) 0 9 (nI 0)) 47 0 (nI 0)) 47 1 (nI 0)) 0 = upd (σ' 0) 9 (nI 0) := by
    rw [up, upR_n _ _ (by decide), up, upR_n _ _ (by decide), up, upR_s, up, upR_n _ _ (by decide), up, upR_n _ _ (by decide)]
  have e47 : (up (up (up (up (up σ' 7 1 (nI 0)) 9 2 (nI 0)) 0 9 (nI 0)) 47 0 (nI 0)) 47 1 (nI 0)) 47 = upd (upd (σ' 47) 0 (nI 0)) 1 (nI 0) := by
    rw [up, upR_s, up, upR_s, up, upR_n _ _ (by decide), up, upR_n _ _ (by decide), up, upR_n _ _ (by decide)]
  refine ⟨hp.frame (e 1 (by decide) (by decide) (by decide) (by decide)) (e 2 (by decide) (by decide) (by decide) (by decide)) (e 3 (by decide) (by decide) (by decide) (by decide)), ⟨by rw [e7]; exact upd_s _ _ _, Nat.zero_le _, fun i hi => absurd hi (Nat.not_lt_zero i)⟩, hC.2.2.1.nil ?_ ?_, fun i hi => ⟨fun _ => ?_, fun Q r => by cases r⟩, ?_, fun i hi => absurd hi (Nat.not_lt_zero i)⟩
  · rw [e9, hf 9 (by decide)]; exact upd_n _ _ (by decide)
  · rw [e9]; exact upd_s _ _ _
  · rw [e47]
    rcases (show i = 0 ∨ i = 1 by omega) with rfl | rfl
    · rw [upd_n _ _ (by decide)]; exact upd_s _ _ _
    · exact upd_s _ _ _
  · rw [e0]; exact upd_s _ _ _
theorem m10_lt {s : Nat} (h : s ≤ 120) : (-10 : Int32) - nI s < 0 := by
  have h1 : ∀ s, s < 121 → (-10 : Int32) - nI s < 0 := by decide +kernel
  exact h1 s (by omega)
theorem tlR_cnt {t : Nat → Nat} {m : Nat} : ∀ (f : Nat) (P : Pl) (p i : Nat) (q : Nat × Pl), tlR t m f P p i = .inr q → q.1 ≤ i + f
  | 0, P, p, i, q, h => by rw [tlR] at h; cases h
  | f + 1, P, p, i, q, h => by
    rw [tlR] at h
    split at h
    · cases h; exact Nat.le_add_right _ _
    · split at h
      · cases h
      · have := tlR_cnt f _ _ (i + 1) q h
        omega
set_option maxRecDepth 10000 in
set_option maxHeartbeats 2000000 in
theorem c_X5_gain {l : Launch} {n : Nat} {E : Ev} {σ : St} {A : Ab} (hn : 55 ≤ n) (hA : AI A) (hC : CR σ A) (w : Int32) : Ct l yX5_gain cX5_gain 3 (some .int) 8 n E [.ref (E.1 + 0), .int (w)] σ (oC σ (o_gain A w)) := by
  refine Ct.of (lv0 := [some (.ref (E.1 + 0)), some (.int (w)), none]) (by decide) (Nat.le_of_ble_eq_true rfl) rfl ?_
  intro X hXn hXE hXl hXL F hRt
  subst hXn hXE hXl
  have hL : ∀ i, i < 3 → i < X.nL := fun i h => by rw [hXL]; exact h
  have hP := hC.1
  have hT := hC.2.1
  have hPa := hC.2.2.1
  have hG := hA.1
  have hBd := hG.1
  have hWl := hG.2.1
  have hLm := hG.2.2.1
  have hB0 := hBd
  obtain ⟨b1, b2, b3, b4, b5, b6, b7⟩ := hB0
  have hon : A.P.on < 256 := Bt_le b7
  refine j_aload_n F dX5_gain_0 rfl rfl ?_
  refine gX5_12 hn F dX5_gain_1 rfl ?_
  refine j_iload_n F dX5_gain_4 rfl rfl ?_
  refine kX5_134 (isPl_1 hn) F (As := [.int (w)]) (rest := []) (c_X2_hasInnerWall hn (isPl_1 hn) hP hBd w) (by decide) rfl rfl (Nat.le_of_ble_eq_true rfl) dX5_gain_5 rfl (ro_k ?_)
  refine j_if_neB F (x := in4 (w) A.P.nw) (tgt := 13) dX5_gain_8 (by decide) rfl (fun c_8 => ?_) (fun c_8 => ?_)
  · have hz := c_8
    refine j_aload_n F dX5_gain_13 rfl rfl ?_
    refine gX5_12 hn F dX5_gain_14 rfl ?_
    refine kX5_154 (isPl_1 hn) F (As := []) (rest := []) (c_X2_lampsOn hn (isPl_1 hn) hP hBd hLm) (by decide) rfl rfl (Nat.le_of_ble_eq_true rfl) dX5_gain_17 rfl (ro_k ?_)
    refine j_istore_n (lv' := [some (.ref (X.E.1 + 0)), some (.int (w)), some (.int (nI (A.P.on)))]) F dX5_gain_20 rfl (hL _ (by decide)) rfl rfl ?_
    refine j_aload_n F dX5_gain_21 rfl rfl ?_
    refine gX5_36 hn F dX5_gain_22 rfl ?_
    refine j_aload_n F dX5_gain_25 rfl rfl ?_
    refine gX5_12 hn F dX5_gain_26 rfl ?_
    refine j_iload_n F dX5_gain_29 rfl rfl ?_
    refine j_iload_n F dX5_gain_30 rfl rfl ?_
    refine kX5_151 hn F (As := [.ref (X.E.1 + 1), .int (nI (A.P.on)), .int (w)]) (rest := []) (c_X0_spotsLitBy hn hP hBd hWl hLm A.P.on w (by omega)) (by decide) rfl rfl (Nat.le_of_ble_eq_true rfl) dX5_gain_31 rfl (fun v_31 σ_31 q_31 => ?_)
    obtain ⟨rfl, f_31⟩ := q_31
    have hC_31 := CR_scr hC (f_31.sub (by decide))
    have fc_31 := FrC.of f_31 (by decide)
    refine j_aload_n F dX5_gain_34 rfl rfl ?_
    refine gX5_36 hn F dX5_gain_35 rfl ?_
    refine j_aload_n F dX5_gain_38 rfl rfl ?_
    refine gX5_12 hn F dX5_gain_39 rfl ?_
    refine j_iload_n F dX5_gain_42 rfl rfl ?_
    refine j_bipush (v := (-9 : Int32)) F dX5_gain_43 rfl (by decide) ?_
    refine kX5_151 hn F (As := [.ref (X.E.1 + 1), .int (nI (A.P.on)), .int ((-9 : Int32))]) (rest := [.int (nI (A.P.cL A.P.on w))]) (c_X0_spotsLitBy hn hC_31.1 hBd hWl hLm A.P.on (-9 : Int32) (by omega)) (by decide) rfl rfl (Nat.le_of_ble_eq_true rfl) dX5_gain_45 rfl (fun v_45 σ_45 q_45 => ?_)
    obtain ⟨rfl, f_45⟩ := q_45
    have hC_45 := CR_scr hC_31 (f_45.sub (by decide))
    have fc_45 := fc_31.tr (FrC.of f_45 (by decide))
    refine j_isub F dX5_gain_48 rfl ?_
    exact j_iret F hRt rfl (oC_q (by rw [if_pos hz]) hC_45 fc_45) dX5_gain_49
  · have hz : ¬ in4 w A.P.nw = true := by rw [c_8]; decide
    refine j_iconst (v := (-1 : Int32)) F dX5_gain_11 rfl (by decide) ?_
    exact j_iret F hRt rfl (oC_q (if_neg hz) hC FrC.rf) dX5_gain_12

set_option maxRecDepth 10000 in
set_option maxHeartbeats 2000000 in
theorem c_X5_worst {l : Launch} {n : Nat} {E : Ev} {σ : St} {A : Ab} (hn : 55 ≤ n) (hA : AI A) (hC : CR σ A) : Ct l yX5_worst cX5_worst 5 (some .int) 8 n E [.ref (E.1 + 0)] σ (oC σ (o_worst A)) := by
  refine Ct.of (lv0 := [some (.ref (E.1 + 0)), none, none, none, none]) (by decide) (Nat.le_of_ble_eq_true rfl) rfl ?_
  intro X hXn hXE hXl hXL F hRt
  subst hXn hXE hXl
  have hL : ∀ i, i < 5 → i < X.nL := fun i h => by rw [hXL]; exact h
  have hP := hC.1
  have hT := hC.2.1
  have hPa := hC.2.2.1
  have hG := hA.1
  have hBd := hG.1
  have hWl := hG.2.1
  have hLm := hG.2.2.1
  have hB0 := hBd
  obtain ⟨b1, b2, b3, b4, b5, b6, b7⟩ := hB0
  have hon : A.P.on < 256 := Bt_le b7
  refine j_bipush (v := (-9 : Int32)) F dX5_worst_0 rfl (by decide) ?_
  refine j_istore_n (lv' := [some (.ref (X.E.1 + 0)), some (.int ((-9 : Int32))), none, none, none]) F dX5_worst_2 rfl (hL _ (by decide)) rfl rfl ?_
  refine j_iconst (v := nI (0)) F dX5_worst_3 rfl (by decide) ?_
  refine j_istore_n (lv' := [some (.ref (X.E.1 + 0)), some (.int ((-9 : Int32))), some (.int (nI (0))), none, none]) F dX5_worst_4 rfl (hL _ (by decide)) rfl rfl ?_
  refine j_iconst (v := nI (4)) F dX5_worst_5 rfl (by decide) ?_
  refine j_istore_n (lv' := [some (.ref (X.E.1 + 0)), some (.int ((-9 : Int32))), some (.int (nI (0))), some (.int (nI (4))), none]) F dX5_worst_6 rfl (hL _ (by decide)) rfl rfl ?_
  have loop_7 : ∀ (ii : Nat), ii ≤ A.P.nw → ∀ (L1 : Int32) (L2 : Int32) (τ : St), (4 ≤ ii) → (CR τ A) → (FrC σ τ) → (wI2 (wrsC A.P ii) L1 L2) → J X 7 [some (.ref (X.E.1 + 0)), some (.int (L1)), some (.int (L2)), some (.int (nI (ii))), none] [] τ := by
    refine dnL (fun ii hii ih_7 => ?_)
    intro L1 L2 τ h4 hτ fτ hI
    refine j_iload_n F dX5_worst_7 rfl rfl ?_
    refine j_aload_n F dX5_worst_8 rfl rfl ?_
    refine gX5_12 hn F dX5_worst_9 rfl ?_
    refine gX5_127 (isPl_1 hn) F dX5_worst_12 rfl ?_
    refine j_int (y := nI (A.P.nw)) (hτ.1.nw) ?_
    refine j_icmp_geN (a := ii) (b := A.P.nw) F (by omega) (by omega) (tgt := 62) dX5_worst_15 (by decide) rfl (fun c_15 => ?_) (fun c_15 => ?_)
    · have hiN : ii = A.P.nw := by omega
      refine j_iload_n F dX5_worst_62 rfl rfl ?_
      exact j_iret F hRt rfl (oC_q (by rw [← hiN]; exact wI2_end hI) hτ fτ) dX5_worst_63
    · refine j_aload_n F dX5_worst_18 rfl rfl ?_
      refine gX5_36 hn F dX5_worst_19 rfl ?_
      refine j_aload_n F dX5_worst_22 rfl rfl ?_
      refine gX5_12 hn F dX5_worst_23 rfl ?_
      refine j_aload_n F dX5_worst_26 rfl rfl ?_
      refine gX5_12 hn F dX5_worst_27 rfl ?_
      refine kX5_154 (isPl_1 hn) F (As := []) (rest := [.ref (X.E.1 + 1), .ref (X.E.1 + 41)]) (c_X2_lampsOn hn (isPl_1 hn) hτ.1 hBd hLm) (by decide) rfl rfl (Nat.le_of_ble_eq_true rfl) dX5_worst_30 rfl (ro_k ?_)
      refine j_iload_n F dX5_worst_33 rfl rfl ?_
      refine kX5_151 hn F (As := [.ref (X.E.1 + 1), .int (nI (A.P.on)), .int (nI (ii))]) (rest := []) (c_X0_spotsLitBy hn hτ.1 hBd hWl hLm A.P.on (nI (ii)) (by omega)) (by decide) rfl rfl (Nat.le_of_ble_eq_true rfl) dX5_worst_34 rfl (fun v_34 σ_34 q_34 => ?_)
      obtain ⟨rfl, f_34⟩ := q_34
      have hC_34 := CR_scr hτ (f_34.sub (by decide))
      have fc_34 := FrC.of f_34 (by decide)
      refine j_istore (lv' := [some (.ref (X.E.1 + 0)), some (.int (L1)), some (.int (L2)), some (.int (nI (ii))), some (.int (nI (A.P.cL A.P.on (nI (ii)))))]) F dX5_worst_37 rfl (hL _ (by decide)) rfl rfl ?_
      refine j_iload_n F dX5_worst_39 rfl rfl ?_
      refine j_bipush (v := (-9 : Int32)) F dX5_worst_40 rfl (by decide) ?_
      refine j_icmp_eq F (tgt := 51) dX5_worst_42 (by decide) rfl (fun c_42 => ?_) (fun c_42 => ?_)
      · have hnx : wI2 (wrsC A.P (ii + 1)) (nI ii) (nI (A.P.cL A.P.on (nI ii))) := wI2_new hI h4 (by omega) hBd c_42
        refine j_iload_n F dX5_worst_51 rfl rfl ?_
        refine j_istore_n (lv' := [some (.ref (X.E.1 + 0)), some (.int (nI (ii))), some (.int (L2)), some (.int (nI (ii))), some (.int (nI (A.P.cL A.P.on (nI (ii)))))]) F dX5_worst_52 rfl (hL _ (by decide)) rfl rfl ?_
        refine j_iload F dX5_worst_53 rfl rfl ?_
        refine j_istore_n (lv' := [some (.ref (X.E.1 + 0)), some (.int (nI (ii))), some (.int (nI (A.P.cL A.P.on (nI (ii))))), some (.int (nI (ii))), some (.int (nI (A.P.cL A.P.on (nI (ii)))))]) F dX5_worst_55 rfl (hL _ (by decide)) rfl rfl ?_
        refine j_iincN (a := ii) (c := 1) (lv' := [some (.ref (X.E.1 + 0)), some (.int (nI (ii))), some (.int (nI (A.P.cL A.P.on (nI (ii))))), some (.int (nI (ii + 1))), some (.int (nI (A.P.cL A.P.on (nI (ii)))))]) F dX5_worst_56 rfl rfl (by decide) (hL _ (by decide)) rfl rfl ?_
        refine j_goto (pc' := 7) F dX5_worst_59 (by decide) ?_
        refine j_lv (lv' := [some (.ref (X.E.1 + 0)), some (.int (nI (ii))), some (.int (nI (A.P.cL A.P.on (nI (ii))))), some (.int (nI (ii + 1))), none]) (sbl (ks := [0, 1, 2, 3]) rfl) ?_
        exact ih_7 (by omega) (nI (ii)) (nI (A.P.cL A.P.on (nI (ii)))) σ_34 (by omega) hC_34 (fτ.tr fc_34) hnx
      · refine j_iload F dX5_worst_45 rfl rfl ?_
        refine j_iload_n F dX5_worst_47 rfl rfl ?_
        refine j_icmp_le F (tgt := 56) dX5_worst_48 (by decide) rfl (fun c_48 => ?_) (fun c_48 => ?_)
        · have hnx := wI2_le hI h4 hBd c_42 c_48
          refine j_iincN (a := ii) (c := 1) (lv' := [some (.ref (X.E.1 + 0)), some (.int (L1)), some (.int (L2)), some (.int (nI (ii + 1))), some (.int (nI (A.P.cL A.P.on (nI (ii)))))]) F dX5_worst_56 rfl rfl (by decide) (hL _ (by decide)) rfl rfl ?_
          refine j_goto (pc' := 7) F dX5_worst_59 (by decide) ?_
          refine j_lv (lv' := [some (.ref (X.E.1 + 0)), some (.int (L1)), some (.int (L2)), some (.int (nI (ii + 1))), none]) (sbl (ks := [0, 1, 2, 3]) rfl) ?_
          exact ih_7 (by omega) L1 L2 σ_34 (by omega) hC_34 (fτ.tr fc_34) hnx
        · have hnx := wI2_gt hI h4 (by omega) hBd c_42 c_48
          refine j_iload_n F dX5_worst_51 rfl rfl ?_
          refine j_istore_n (lv' := [some (.ref (X.E.1 + 0)), some (.int (nI (ii))), some (.int (L2)), some (.int (nI (ii))), some (.int (nI (A.P.cL A.P.on (nI (ii)))))]) F dX5_worst_52 rfl (hL _ (by decide)) rfl rfl ?_
          refine j_iload F dX5_worst_53 rfl rfl ?_
          refine j_istore_n (lv' := [some (.ref (X.E.1 + 0)), some (.int (nI (ii))), some (.int (nI (A.P.cL A.P.on (nI (ii))))), some (.int (nI (ii))), some (.int (nI (A.P.cL A.P.on (nI (ii)))))]) F dX5_worst_55 rfl (hL _ (by decide)) rfl rfl ?_
          refine j_iincN (a := ii) (c := 1) (lv' := [some (.ref (X.E.1 + 0)), some (.int (nI (ii))), some (.int (nI (A.P.cL A.P.on (nI (ii))))), some (.int (nI (ii + 1))), some (.int (nI (A.P.cL A.P.on (nI (ii)))))]) F dX5_worst_56 rfl rfl (by decide) (hL _ (by decide)) rfl rfl ?_
          refine j_goto (pc' := 7) F dX5_worst_59 (by decide) ?_
          refine j_lv (lv' := [some (.ref (X.E.1 + 0)), some (.int (nI (ii))), some (.int (nI (A.P.cL A.P.on (nI (ii))))), some (.int (nI (ii + 1))), none]) (sbl (ks := [0, 1, 2, 3]) rfl) ?_
          exact ih_7 (by omega) (nI (ii)) (nI (A.P.cL A.P.on (nI (ii)))) σ_34 (by omega) hC_34 (fτ.tr fc_34) hnx
  exact loop_7 4 (by omega) (-9) (nI 0) σ (Nat.le_refl 4) hC FrC.rf (Or.inl ⟨rfl, rfl⟩)

set_option maxRecDepth 10000 in
set_option maxHeartbeats 2000000 in
theorem c_X5_sees {l : Launch} {n : Nat} {E : Ev} {σ : St} {A : Ab} (hn : 55 ≤ n) (hA : AI A) (hC : CR σ A) (x y z : Int32) : Ct l yX5_sees cX5_sees 5 (some .int) 1 n E [.ref (E.1 + 0), .int (x), .int (y), .int (z)] σ (oC σ (o_sees A x y z)) := by
  refine Ct.of (lv0 := [some (.ref (E.1 + 0)), some (.int (x)), some (.int (y)), some (.int (z)), none]) (by decide) (Nat.le_of_ble_eq_true rfl) rfl ?_
  intro X hXn hXE hXl hXL F hRt
  subst hXn hXE hXl
  have hL : ∀ i, i < 5 → i < X.nL := fun i h => by rw [hXL]; exact h
  have hP := hC.1
  have hT := hC.2.1
  have hPa := hC.2.2.1
  have hG := hA.1
  have hBd := hG.1
  have hWl := hG.2.1
  have hLm := hG.2.2.1
  have hB0 := hBd
  obtain ⟨b1, b2, b3, b4, b5, b6, b7⟩ := hB0
  refine j_aload_n F dX5_sees_0 rfl rfl ?_
  refine gX5_12 hn F dX5_sees_1 rfl ?_
  refine j_iload_n F dX5_sees_4 rfl rfl ?_
  refine j_iload_n F dX5_sees_5 rfl rfl ?_
  refine kX5_99 (isPl_1 hn) F (As := [.int (x), .int (y)]) (rest := []) (c_X2_hasSpot hn (isPl_1 hn) hP hBd x y) (by decide) rfl rfl (Nat.le_of_ble_eq_true rfl) dX5_sees_6 rfl (ro_k ?_)
  refine j_if_eqB F (x := inR (x) A.P.W && inR (y) A.P.H) (tgt := 21) dX5_sees_9 (by decide) rfl (fun c_9 => ?_) (fun c_9 => ?_)
  · have hz : ¬ ((inR x A.P.W && inR y A.P.H) = true ∧ ¬ z < 0 ∧ z ≤ nI 1) := fun q => by rw [c_9] at q; exact absurd q.1 (by decide)
    refine j_iconst (v := (-1 : Int32)) F dX5_sees_21 rfl (by decide) ?_
    exact j_iret F hRt rfl (oC_e (if_pos hz) hC FrC.rf) dX5_sees_22
  · refine j_iload_n F dX5_sees_12 rfl rfl ?_
    refine j_if_lt F (tgt := 21) dX5_sees_13 (by decide) rfl (fun c_13 => ?_) (fun c_13 => ?_)
    · have hz : ¬ ((inR x A.P.W && inR y A.P.H) = true ∧ ¬ z < 0 ∧ z ≤ nI 1) := fun q => q.2.1 c_13
      refine j_iconst (v := (-1 : Int32)) F dX5_sees_21 rfl (by decide) ?_
      exact j_iret F hRt rfl (oC_e (if_pos hz) hC FrC.rf) dX5_sees_22
    · refine j_iload_n F dX5_sees_16 rfl rfl ?_
      refine j_iconst (v := nI (1)) F dX5_sees_17 rfl (by decide) ?_
      refine j_icmp_le F (tgt := 23) dX5_sees_18 (by decide) rfl (fun c_18 => ?_) (fun c_18 => ?_)
      · have hz : (inR x A.P.W && inR y A.P.H) = true ∧ ¬ z < 0 ∧ z ≤ nI 1 := ⟨c_9, c_13, c_18⟩
        obtain ⟨hsx, hsy⟩ := and_t c_9
        obtain ⟨j, hj, rfl⟩ := inR_t hsx (by omega)
        obtain ⟨i, hi, rfl⟩ := inR_t hsy (by omega)
        obtain ⟨k, hk, rfl⟩ := rg_le c_13 c_18 (by decide)
        have hs6 := hA.2.2.2.1
        refine j_aload_n F dX5_sees_23 rfl rfl ?_
        refine gX5_82 hn F dX5_sees_24 rfl ?_
        refine j_int (y := nI (A.sn.length)) (hC.2.2.2.2.1) ?_
        refine j_bipush (v := nI (6)) F dX5_sees_27 rfl (by decide) ?_
        refine j_icmp_ltN (a := A.sn.length) (b := 6) F (by omega) (by omega) (tgt := 35) dX5_sees_29 (by decide) rfl (fun c_29 => ?_) (fun c_29 => ?_)
        · refine j_aload_n F dX5_sees_35 rfl rfl ?_
          refine gX5_82 hn F dX5_sees_36 rfl ?_
          refine j_int (y := nI (A.sn.length)) (hC.2.2.2.2.1) ?_
          refine j_iconst (v := nI (3)) F dX5_sees_39 rfl (by decide) ?_
          refine j_imulN (a := A.sn.length) (b := 3) F dX5_sees_40 rfl ?_
          refine j_istore (lv' := [some (.ref (X.E.1 + 0)), some (.int (nI (j))), some (.int (nI (i))), some (.int (nI (k))), some (.int (nI (A.sn.length * 3)))]) F dX5_sees_41 rfl (hL _ (by decide)) rfl rfl ?_
          refine j_aload_n F dX5_sees_43 rfl rfl ?_
          refine gX5_55 hn F dX5_sees_44 rfl ?_
          refine j_iload F dX5_sees_47 rfl rfl ?_
          refine j_iconst (v := nI (0)) F dX5_sees_49 rfl (by decide) ?_
          refine j_iaddN (a := A.sn.length * 3) (b := 0) F dX5_sees_50 rfl ?_
          refine j_iload_n F dX5_sees_51 rfl rfl ?_
          refine j_iastore (a := (A.sn.length * 3) + 0) F (by omega) rfl rfl (by omega) (by decide) dX5_sees_52 rfl ?_
          refine j_aload_n F dX5_sees_53 rfl rfl ?_
          refine gX5_55 hn F dX5_sees_54 rfl ?_
          refine j_iload F dX5_sees_57 rfl rfl ?_
          refine j_iconst (v := nI (1)) F dX5_sees_59 rfl (by decide) ?_
          refine j_iaddN (a := A.sn.length * 3) (b := 1) F dX5_sees_60 rfl ?_
          refine j_iload_n F dX5_sees_61 rfl rfl ?_
          refine j_iastore (a := (A.sn.length * 3) + 1) F (by omega) rfl rfl (by omega) (by decide) dX5_sees_62 rfl ?_
          refine j_aload_n F dX5_sees_63 rfl rfl ?_
          refine gX5_55 hn F dX5_sees_64 rfl ?_
          refine j_iload F dX5_sees_67 rfl rfl ?_
          refine j_iconst (v := nI (2)) F dX5_sees_69 rfl (by decide) ?_
          refine j_iaddN (a := A.sn.length * 3) (b := 2) F dX5_sees_70 rfl ?_
          refine j_iload_n F dX5_sees_71 rfl rfl ?_
          refine j_iastore (a := (A.sn.length * 3) + 2) F (by omega) rfl rfl (by omega) (by decide) dX5_sees_72 rfl ?_
          refine j_aload_n F dX5_sees_73 rfl rfl ?_
          refine j_dup F dX5_sees_74 rfl rfl ?_
          refine gX5_82 hn F dX5_sees_75 rfl ?_
          refine j_int (y := nI (A.sn.length)) (by simp only [up, upR_n _ _ (show (0 : Nat) ≠ 48 by decide)]; exact hC.2.2.2.2.1) ?_
          refine j_iconst (v := nI (1)) F dX5_sees_78 rfl (by decide) ?_
          refine j_iaddN (a := A.sn.length) (b := 1) F dX5_sees_79 rfl ?_
          refine pX5_82 hn F dX5_sees_80 rfl ?_
          refine j_aload_n F dX5_sees_83 rfl rfl ?_
          refine gX5_82 hn F dX5_sees_84 rfl ?_
          refine j_int (y := nI (A.sn.length + 1)) (by simp only [up, upR_s, upd_s]) ?_
          exact j_iret F hRt rfl (oC_e (show o_sees A (nI j) (nI i) (nI k) = (nI (A.sn.length + 1), (A.P, A.t, A.m, A.hs, A.im, A.sn ++ [(j, i, k)])) by unfold o_sees; rw [if_neg (fun q => q hz), if_neg (by omega), tn_n (by omega), tn_n (by omega), tn_n (by omega)]) (CR_S hC (Fr.put (Fr.put (Fr.put (Fr.put Fr.rf (by simp)) (by simp)) (by simp)) (by simp)) (sn_push hC.2.2.2.2)) (FrC.put (FrC.put (FrC.put (FrC.put FrC.rf (by decide)) (by decide)) (by decide)) (by decide))) dX5_sees_87
        · refine j_bipush (v := (-3 : Int32)) F dX5_sees_32 rfl (by decide) ?_
          exact j_iret F hRt rfl (oC_e (show o_sees A (nI j) (nI i) (nI k) = (-3, A) by unfold o_sees; rw [if_neg (fun q => q hz), if_pos (by omega)]) hC FrC.rf) dX5_sees_34
      · have hz : ¬ ((inR x A.P.W && inR y A.P.H) = true ∧ ¬ z < 0 ∧ z ≤ nI 1) := fun q => c_18 q.2.2
        refine j_iconst (v := (-1 : Int32)) F dX5_sees_21 rfl (by decide) ?_
        exact j_iret F hRt rfl (oC_e (if_pos hz) hC FrC.rf) dX5_sees_22

set_option maxRecDepth 10000 in
set_option maxHeartbeats 2000000 in
theorem c_X5_lampsThatMayBeOut {l : Launch} {n : Nat} {E : Ev} {σ : St} {A : Ab} (hn : 55 ≤ n) (hA : AI A) (hC : CR σ A) (s : Nat) (hs : s < A.sn.length) : Ct l yX5_lampsThatMayBeOut cX5_lampsThatMayBeOut 6 (some .int) 6 n E [.ref (E.1 + 0), .int (nI (s * 3))] σ (ro (.int (nI (outB A.P (A.sn.getD s (0, 0, 0))))) σ) := by
  refine Ct.of (lv0 := [some (.ref (E.1 + 0)), some (.int (nI (s * 3))), none, none, none, none]) (by decide) (Nat.le_of_ble_eq_true rfl) rfl ?_
  intro X hXn hXE hXl hXL F hRt
  subst hXn hXE hXl
  have hL : ∀ i, i < 6 → i < X.nL := fun i h => by rw [hXL]; exact h
  have hP := hC.1
  have hT := hC.2.1
  have hPa := hC.2.2.1
  have hG := hA.1
  have hBd := hG.1
  have hWl := hG.2.1
  have hLm := hG.2.2.1
  have hB0 := hBd
  obtain ⟨b1, b2, b3, b4, b5, b6, b7⟩ := hB0
  have hs6 := hA.2.2.2.1
  obtain ⟨sx, sy, sz⟩ := hC.2.2.2.2.2 s hs
  have hmem : (A.sn.getD s (0, 0, 0)) ∈ A.sn := by rw [List.getD_eq_getElem?_getD, List.getElem?_eq_getElem hs]; exact List.getElem_mem hs
  obtain ⟨hq1, hq2, hq3⟩ := hA.2.2.2.2 _ hmem
  have hla : A.P.LA (A.sn.getD s (0, 0, 0)).1 (A.sn.getD s (0, 0, 0)).2.1 A.P.on (-9) < 256 := Bt_le b7
  refine j_aload_n F dX5_lampsThatMayBeOut_0 rfl rfl ?_
  refine gX5_12 hn F dX5_lampsThatMayBeOut_1 rfl ?_
  refine j_aload_n F dX5_lampsThatMayBeOut_4 rfl rfl ?_
  refine gX5_55 hn F dX5_lampsThatMayBeOut_5 rfl ?_
  refine j_iload_n F dX5_lampsThatMayBeOut_8 rfl rfl ?_
  refine j_iconst (v := nI (0)) F dX5_lampsThatMayBeOut_9 rfl (by decide) ?_
  refine j_iaddN (a := s * 3) (b := 0) F dX5_lampsThatMayBeOut_10 rfl ?_
  refine j_iaload (a := (s * 3) + 0) F (by omega) rfl rfl (by omega) (by decide) dX5_lampsThatMayBeOut_11 rfl ?_
  refine j_int (y := nI ((A.sn.getD s (0, 0, 0)).1)) (sx) ?_
  refine j_aload_n F dX5_lampsThatMayBeOut_12 rfl rfl ?_
  refine gX5_55 hn F dX5_lampsThatMayBeOut_13 rfl ?_
  refine j_iload_n F dX5_lampsThatMayBeOut_16 rfl rfl ?_
  refine j_iconst (v := nI (1)) F dX5_lampsThatMayBeOut_17 rfl (by decide) ?_
  refine j_iaddN (a := s * 3) (b := 1) F dX5_lampsThatMayBeOut_18 rfl ?_
  refine j_iaload (a := (s * 3) + 1) F (by omega) rfl rfl (by omega) (by decide) dX5_lampsThatMayBeOut_19 rfl ?_
  refine j_int (y := nI ((A.sn.getD s (0, 0, 0)).2.1)) (sy) ?_
  refine kX5_147 F (As := [.ref (X.E.1 + 1), .int (nI ((A.sn.getD s (0, 0, 0)).1)), .int (nI ((A.sn.getD s (0, 0, 0)).2.1))]) (rest := []) (c_X0_lampsOnAt hn (isPl_1 hn) hP hBd hWl hLm ((A.sn.getD s (0, 0, 0)).1) ((A.sn.getD s (0, 0, 0)).2.1) (by omega) (by omega)) (by decide) rfl rfl (Nat.le_of_ble_eq_true rfl) dX5_lampsThatMayBeOut_20 rfl (ro_k ?_)
  refine j_istore_n (lv' := [some (.ref (X.E.1 + 0)), some (.int (nI (s * 3))), some (.int (nI (A.P.LA ((A.sn.getD s (0, 0, 0)).1) ((A.sn.getD s (0, 0, 0)).2.1) A.P.on (-9)))), none, none, none]) F dX5_lampsThatMayBeOut_23 rfl (hL _ (by decide)) rfl rfl ?_
  refine j_iconst (v := nI (0)) F dX5_lampsThatMayBeOut_24 rfl (by decide) ?_
  refine j_istore_n (lv' := [some (.ref (X.E.1 + 0)), some (.int (nI (s * 3))), some (.int (nI (A.P.LA ((A.sn.getD s (0, 0, 0)).1) ((A.sn.getD s (0, 0, 0)).2.1) A.P.on (-9)))), some (.int (nI (0))), none, none]) F dX5_lampsThatMayBeOut_25 rfl (hL _ (by decide)) rfl rfl ?_
  refine j_iconst (v := nI (0)) F dX5_lampsThatMayBeOut_26 rfl (by decide) ?_
  refine j_istore (lv' := [some (.ref (X.E.1 + 0)), some (.int (nI (s * 3))), some (.int (nI (A.P.LA ((A.sn.getD s (0, 0, 0)).1) ((A.sn.getD s (0, 0, 0)).2.1) A.P.on (-9)))), some (.int (nI (0))), some (.int (nI (0))), none]) F dX5_lampsThatMayBeOut_27 rfl (hL _ (by decide)) rfl rfl ?_
  have loop_29 : ∀ (ii : Nat), ii ≤ A.P.nl → J X 29 [some (.ref (X.E.1 + 0)), some (.int (nI (s * 3))), some (.int (nI (A.P.LA (A.sn.getD s (0, 0, 0)).1 (A.sn.getD s (0, 0, 0)).2.1 A.P.on (-9)))), some (.int (nI (Bt (fun l => (decide (¬ (A.P.LA (A.sn.getD s (0, 0, 0)).1 (A.sn.getD s (0, 0, 0)).2.1 A.P.on (-9) &&& (2 ^ l ^^^ 4294967295)) = 0)).toNat == (A.sn.getD s (0, 0, 0)).2.2) ii))), some (.int (nI (ii))), none] [] σ := by
    refine dnL (fun ii hii ih_29 => ?_)
    refine j_iload F dX5_lampsThatMayBeOut_29 rfl rfl ?_
    refine j_aload_n F dX5_lampsThatMayBeOut_31 rfl rfl ?_
    refine gX5_12 hn F dX5_lampsThatMayBeOut_32 rfl ?_
    refine gX5_106 (isPl_1 hn) F dX5_lampsThatMayBeOut_35 rfl ?_
    refine j_int (y := nI (A.P.nl)) (hP.nl) ?_
    refine j_icmp_geN (a := ii) (b := A.P.nl) F (by omega) (by omega) (tgt := 85) dX5_lampsThatMayBeOut_38 (by decide) rfl (fun c_38 => ?_) (fun c_38 => ?_)
    · have hiN : ii = A.P.nl := by omega
      refine j_iload_n F dX5_lampsThatMayBeOut_85 rfl rfl ?_
      exact j_iret F hRt rfl (roI (by unfold outB; rw [hiN])) dX5_lampsThatMayBeOut_86
    · refine j_iload_n F dX5_lampsThatMayBeOut_41 rfl rfl ?_
      refine j_iconst (v := nI (1)) F dX5_lampsThatMayBeOut_42 rfl (by decide) ?_
      refine j_iload F dX5_lampsThatMayBeOut_43 rfl rfl ?_
      refine j_ishl F dX5_lampsThatMayBeOut_45 rfl ?_
      refine j_int (y := nI (2 ^ ii)) (sh_n (Nat.le_refl 1) (by omega)) ?_
      refine j_iconst (v := (-1 : Int32)) F dX5_lampsThatMayBeOut_46 rfl (by decide) ?_
      refine j_ixor F dX5_lampsThatMayBeOut_47 rfl ?_
      refine j_int (y := nI (2 ^ ii ^^^ 4294967295)) (by rw [m1_n]; exact fa_xorN _ _) ?_
      refine j_iand F dX5_lampsThatMayBeOut_48 rfl ?_
      refine j_int (y := nI (A.P.LA (A.sn.getD s (0, 0, 0)).1 (A.sn.getD s (0, 0, 0)).2.1 A.P.on (-9) &&& (2 ^ ii ^^^ 4294967295))) (fa_and _ _) ?_
      refine j_if_eqN (a := A.P.LA (A.sn.getD s (0, 0, 0)).1 (A.sn.getD s (0, 0, 0)).2.1 A.P.on (-9) &&& (2 ^ ii ^^^ 4294967295)) F (Nat.lt_of_lt_of_le (and_lt hla) (by decide)) (tgt := 56) dX5_lampsThatMayBeOut_49 (by decide) rfl (fun c_49 => ?_) (fun c_49 => ?_)
      · have hdc : (decide (¬ (A.P.LA (A.sn.getD s (0, 0, 0)).1 (A.sn.getD s (0, 0, 0)).2.1 A.P.on (-9) &&& (2 ^ ii ^^^ 4294967295)) = 0)).toNat = 0 := by rw [decide_eq_false (fun q => q c_49)]; rfl
        refine j_iconst (v := nI (0)) F dX5_lampsThatMayBeOut_56 rfl (by decide) ?_
        refine j_istore (lv' := [some (.ref (X.E.1 + 0)), some (.int (nI (s * 3))), some (.int (nI (A.P.LA (A.sn.getD s (0, 0, 0)).1 (A.sn.getD s (0, 0, 0)).2.1 A.P.on (-9)))), some (.int (nI (Bt (fun l => (decide (¬ (A.P.LA (A.sn.getD s (0, 0, 0)).1 (A.sn.getD s (0, 0, 0)).2.1 A.P.on (-9) &&& (2 ^ l ^^^ 4294967295)) = 0)).toNat == (A.sn.getD s (0, 0, 0)).2.2) ii))), some (.int (nI (ii))), some (.int (nI (0)))]) F dX5_lampsThatMayBeOut_57 rfl (hL _ (by decide)) rfl rfl ?_
        refine j_iload F dX5_lampsThatMayBeOut_59 rfl rfl ?_
        refine j_aload_n F dX5_lampsThatMayBeOut_61 rfl rfl ?_
        refine gX5_55 hn F dX5_lampsThatMayBeOut_62 rfl ?_
        refine j_iload_n F dX5_lampsThatMayBeOut_65 rfl rfl ?_
        refine j_iconst (v := nI (2)) F dX5_lampsThatMayBeOut_66 rfl (by decide) ?_
        refine j_iaddN (a := s * 3) (b := 2) F dX5_lampsThatMayBeOut_67 rfl ?_
        refine j_iaload (a := (s * 3) + 2) F (by omega) rfl rfl (by omega) (by decide) dX5_lampsThatMayBeOut_68 rfl ?_
        refine j_int (y := nI ((A.sn.getD s (0, 0, 0)).2.2)) (sz) ?_
        refine j_icmp_neN (a := 0) (b := (A.sn.getD s (0, 0, 0)).2.2) F (by omega) (by omega) (tgt := 79) dX5_lampsThatMayBeOut_69 (by decide) rfl (fun c_69 => ?_) (fun c_69 => ?_)
        · have hnx : Bt (fun l => (decide (¬ (A.P.LA (A.sn.getD s (0, 0, 0)).1 (A.sn.getD s (0, 0, 0)).2.1 A.P.on (-9) &&& (2 ^ l ^^^ 4294967295)) = 0)).toNat == (A.sn.getD s (0, 0, 0)).2.2) (ii + 1) = Bt (fun l => (decide (¬ (A.P.LA (A.sn.getD s (0, 0, 0)).1 (A.sn.getD s (0, 0, 0)).2.1 A.P.on (-9) &&& (2 ^ l ^^^ 4294967295)) = 0)).toNat == (A.sn.getD s (0, 0, 0)).2.2) ii := by rw [Bt, if_neg (by rw [hdc]; intro q; exact c_69 (of_decide_eq_true q)), Nat.or_zero]
          refine j_iincN (a := ii) (c := 1) (lv' := [some (.ref (X.E.1 + 0)), some (.int (nI (s * 3))), some (.int (nI (A.P.LA (A.sn.getD s (0, 0, 0)).1 (A.sn.getD s (0, 0, 0)).2.1 A.P.on (-9)))), some (.int (nI (Bt (fun l => (decide (¬ (A.P.LA (A.sn.getD s (0, 0, 0)).1 (A.sn.getD s (0, 0, 0)).2.1 A.P.on (-9) &&& (2 ^ l ^^^ 4294967295)) = 0)).toNat == (A.sn.getD s (0, 0, 0)).2.2) ii))), some (.int (nI (ii + 1))), some (.int (nI (0)))]) F dX5_lampsThatMayBeOut_79 rfl rfl (by decide) (hL _ (by decide)) rfl rfl ?_
          refine j_goto (pc' := 29) F dX5_lampsThatMayBeOut_82 (by decide) ?_
          refine j_lv (lv' := [some (.ref (X.E.1 + 0)), some (.int (nI (s * 3))), some (.int (nI (A.P.LA (A.sn.getD s (0, 0, 0)).1 (A.sn.getD s (0, 0, 0)).2.1 A.P.on (-9)))), some (.int (nI (Bt (fun l => (decide (¬ (A.P.LA (A.sn.getD s (0, 0, 0)).1 (A.sn.getD s (0, 0, 0)).2.1 A.P.on (-9) &&& (2 ^ l ^^^ 4294967295)) = 0)).toNat == (A.sn.getD s (0, 0, 0)).2.2) ii))), some (.int (nI (ii + 1))), none]) (sbl (ks := [0, 1, 2, 3, 4]) rfl) ?_
          refine j_lvq (lv' := [some (.ref (X.E.1 + 0)), some (.int (nI (s * 3))), some (.int (nI (A.P.LA (A.sn.getD s (0, 0, 0)).1 (A.sn.getD s (0, 0, 0)).2.1 A.P.on (-9)))), some (.int (nI (Bt (fun l => (decide (¬ (A.P.LA (A.sn.getD s (0, 0, 0)).1 (A.sn.getD s (0, 0, 0)).2.1 A.P.on (-9) &&& (2 ^ l ^^^ 4294967295)) = 0)).toNat == (A.sn.getD s (0, 0, 0)).2.2) (ii + 1)))), some (.int (nI (ii + 1))), none]) (by rw [hnx]) ?_
          exact ih_29 (by omega)
        · have hnx : Bt (fun l => (decide (¬ (A.P.LA (A.sn.getD s (0, 0, 0)).1 (A.sn.getD s (0, 0, 0)).2.1 A.P.on (-9) &&& (2 ^ l ^^^ 4294967295)) = 0)).toNat == (A.sn.getD s (0, 0, 0)).2.2) (ii + 1) = Bt (fun l => (decide (¬ (A.P.LA (A.sn.getD s (0, 0, 0)).1 (A.sn.getD s (0, 0, 0)).2.1 A.P.on (-9) &&& (2 ^ l ^^^ 4294967295)) = 0)).toNat == (A.sn.getD s (0, 0, 0)).2.2) ii ||| 2 ^ ii := by rw [Bt, if_pos (by rw [hdc]; exact decide_eq_true (by omega))]
          refine j_iload_n F dX5_lampsThatMayBeOut_72 rfl rfl ?_
          refine j_iconst (v := nI (1)) F dX5_lampsThatMayBeOut_73 rfl (by decide) ?_
          refine j_iload F dX5_lampsThatMayBeOut_74 rfl rfl ?_
          refine j_ishl F dX5_lampsThatMayBeOut_76 rfl ?_
          refine j_ior F dX5_lampsThatMayBeOut_77 rfl ?_
          refine j_int (y := nI (Bt (fun l => (decide (¬ (A.P.LA (A.sn.getD s (0, 0, 0)).1 (A.sn.getD s (0, 0, 0)).2.1 A.P.on (-9) &&& (2 ^ l ^^^ 4294967295)) = 0)).toNat == (A.sn.getD s (0, 0, 0)).2.2) ii ||| 2 ^ ii)) (or_1 (by omega)) ?_
          refine j_istore_n (lv' := [some (.ref (X.E.1 + 0)), some (.int (nI (s * 3))), some (.int (nI (A.P.LA (A.sn.getD s (0, 0, 0)).1 (A.sn.getD s (0, 0, 0)).2.1 A.P.on (-9)))), some (.int (nI (Bt (fun l => (decide (¬ (A.P.LA (A.sn.getD s (0, 0, 0)).1 (A.sn.getD s (0, 0, 0)).2.1 A.P.on (-9) &&& (2 ^ l ^^^ 4294967295)) = 0)).toNat == (A.sn.getD s (0, 0, 0)).2.2) ii ||| 2 ^ ii))), some (.int (nI (ii))), some (.int (nI (0)))]) F dX5_lampsThatMayBeOut_78 rfl (hL _ (by decide)) rfl rfl ?_
          refine j_iincN (a := ii) (c := 1) (lv' := [some (.ref (X.E.1 + 0)), some (.int (nI (s * 3))), some (.int (nI (A.P.LA (A.sn.getD s (0, 0, 0)).1 (A.sn.getD s (0, 0, 0)).2.1 A.P.on (-9)))), some (.int (nI (Bt (fun l => (decide (¬ (A.P.LA (A.sn.getD s (0, 0, 0)).1 (A.sn.getD s (0, 0, 0)).2.1 A.P.on (-9) &&& (2 ^ l ^^^ 4294967295)) = 0)).toNat == (A.sn.getD s (0, 0, 0)).2.2) ii ||| 2 ^ ii))), some (.int (nI (ii + 1))), some (.int (nI (0)))]) F dX5_lampsThatMayBeOut_79 rfl rfl (by decide) (hL _ (by decide)) rfl rfl ?_
          refine j_goto (pc' := 29) F dX5_lampsThatMayBeOut_82 (by decide) ?_
          refine j_lv (lv' := [some (.ref (X.E.1 + 0)), some (.int (nI (s * 3))), some (.int (nI (A.P.LA (A.sn.getD s (0, 0, 0)).1 (A.sn.getD s (0, 0, 0)).2.1 A.P.on (-9)))), some (.int (nI (Bt (fun l => (decide (¬ (A.P.LA (A.sn.getD s (0, 0, 0)).1 (A.sn.getD s (0, 0, 0)).2.1 A.P.on (-9) &&& (2 ^ l ^^^ 4294967295)) = 0)).toNat == (A.sn.getD s (0, 0, 0)).2.2) ii ||| 2 ^ ii))), some (.int (nI (ii + 1))), none]) (sbl (ks := [0, 1, 2, 3, 4]) rfl) ?_
          refine j_lvq (lv' := [some (.ref (X.E.1 + 0)), some (.int (nI (s * 3))), some (.int (nI (A.P.LA (A.sn.getD s (0, 0, 0)).1 (A.sn.getD s (0, 0, 0)).2.1 A.P.on (-9)))), some (.int (nI (Bt (fun l => (decide (¬ (A.P.LA (A.sn.getD s (0, 0, 0)).1 (A.sn.getD s (0, 0, 0)).2.1 A.P.on (-9) &&& (2 ^ l ^^^ 4294967295)) = 0)).toNat == (A.sn.getD s (0, 0, 0)).2.2) (ii + 1)))), some (.int (nI (ii + 1))), none]) (by rw [hnx]) ?_
          exact ih_29 (by omega)
      · have hdc : (decide (¬ (A.P.LA (A.sn.getD s (0, 0, 0)).1 (A.sn.getD s (0, 0, 0)).2.1 A.P.on (-9) &&& (2 ^ ii ^^^ 4294967295)) = 0)).toNat = 1 := by rw [decide_eq_true c_49]; rfl
        refine j_iconst (v := nI (1)) F dX5_lampsThatMayBeOut_52 rfl (by decide) ?_
        refine j_goto (pc' := 57) F dX5_lampsThatMayBeOut_53 (by decide) ?_
        refine j_istore (lv' := [some (.ref (X.E.1 + 0)), some (.int (nI (s * 3))), some (.int (nI (A.P.LA (A.sn.getD s (0, 0, 0)).1 (A.sn.getD s (0, 0, 0)).2.1 A.P.on (-9)))), some (.int (nI (Bt (fun l => (decide (¬ (A.P.LA (A.sn.getD s (0, 0, 0)).1 (A.sn.getD s (0, 0, 0)).2.1 A.P.on (-9) &&& (2 ^ l ^^^ 4294967295)) = 0)).toNat == (A.sn.getD s (0, 0, 0)).2.2) ii))), some (.int (nI (ii))), some (.int (nI (1)))]) F dX5_lampsThatMayBeOut_57 rfl (hL _ (by decide)) rfl rfl ?_
        refine j_iload F dX5_lampsThatMayBeOut_59 rfl rfl ?_
        refine j_aload_n F dX5_lampsThatMayBeOut_61 rfl rfl ?_
        refine gX5_55 hn F dX5_lampsThatMayBeOut_62 rfl ?_
        refine j_iload_n F dX5_lampsThatMayBeOut_65 rfl rfl ?_
        refine j_iconst (v := nI (2)) F dX5_lampsThatMayBeOut_66 rfl (by decide) ?_
        refine j_iaddN (a := s * 3) (b := 2) F dX5_lampsThatMayBeOut_67 rfl ?_
        refine j_iaload (a := (s * 3) + 2) F (by omega) rfl rfl (by omega) (by decide) dX5_lampsThatMayBeOut_68 rfl ?_
        refine j_int (y := nI ((A.sn.getD s (0, 0, 0)).2.2)) (sz) ?_
        refine j_icmp_neN (a := 1) (b := (A.sn.getD s (0, 0, 0)).2.2) F (by omega) (by omega) (tgt := 79) dX5_lampsThatMayBeOut_69 (by decide) rfl (fun c_69 => ?_) (fun c_69 => ?_)
        · have hnx : Bt (fun l => (decide (¬ (A.P.LA (A.sn.getD s (0, 0, 0)).1 (A.sn.getD s (0, 0, 0)).2.1 A.P.on (-9) &&& (2 ^ l ^^^ 4294967295)) = 0)).toNat == (A.sn.getD s (0, 0, 0)).2.2) (ii + 1) = Bt (fun l => (decide (¬ (A.P.LA (A.sn.getD s (0, 0, 0)).1 (A.sn.getD s (0, 0, 0)).2.1 A.P.on (-9) &&& (2 ^ l ^^^ 4294967295)) = 0)).toNat == (A.sn.getD s (0, 0, 0)).2.2) ii := by rw [Bt, if_neg (by rw [hdc]; intro q; exact c_69 (of_decide_eq_true q)), Nat.or_zero]
          refine j_iincN (a := ii) (c := 1) (lv' := [some (.ref (X.E.1 + 0)), some (.int (nI (s * 3))), some (.int (nI (A.P.LA (A.sn.getD s (0, 0, 0)).1 (A.sn.getD s (0, 0, 0)).2.1 A.P.on (-9)))), some (.int (nI (Bt (fun l => (decide (¬ (A.P.LA (A.sn.getD s (0, 0, 0)).1 (A.sn.getD s (0, 0, 0)).2.1 A.P.on (-9) &&& (2 ^ l ^^^ 4294967295)) = 0)).toNat == (A.sn.getD s (0, 0, 0)).2.2) ii))), some (.int (nI (ii + 1))), some (.int (nI (1)))]) F dX5_lampsThatMayBeOut_79 rfl rfl (by decide) (hL _ (by decide)) rfl rfl ?_
          refine j_goto (pc' := 29) F dX5_lampsThatMayBeOut_82 (by decide) ?_
          refine j_lv (lv' := [some (.ref (X.E.1 + 0)), some (.int (nI (s * 3))), some (.int (nI (A.P.LA (A.sn.getD s (0, 0, 0)).1 (A.sn.getD s (0, 0, 0)).2.1 A.P.on (-9)))), some (.int (nI (Bt (fun l => (decide (¬ (A.P.LA (A.sn.getD s (0, 0, 0)).1 (A.sn.getD s (0, 0, 0)).2.1 A.P.on (-9) &&& (2 ^ l ^^^ 4294967295)) = 0)).toNat == (A.sn.getD s (0, 0, 0)).2.2) ii))), some (.int (nI (ii + 1))), none]) (sbl (ks := [0, 1, 2, 3, 4]) rfl) ?_
          refine j_lvq (lv' := [some (.ref (X.E.1 + 0)), some (.int (nI (s * 3))), some (.int (nI (A.P.LA (A.sn.getD s (0, 0, 0)).1 (A.sn.getD s (0, 0, 0)).2.1 A.P.on (-9)))), some (.int (nI (Bt (fun l => (decide (¬ (A.P.LA (A.sn.getD s (0, 0, 0)).1 (A.sn.getD s (0, 0, 0)).2.1 A.P.on (-9) &&& (2 ^ l ^^^ 4294967295)) = 0)).toNat == (A.sn.getD s (0, 0, 0)).2.2) (ii + 1)))), some (.int (nI (ii + 1))), none]) (by rw [hnx]) ?_
          exact ih_29 (by omega)
        · have hnx : Bt (fun l => (decide (¬ (A.P.LA (A.sn.getD s (0, 0, 0)).1 (A.sn.getD s (0, 0, 0)).2.1 A.P.on (-9) &&& (2 ^ l ^^^ 4294967295)) = 0)).toNat == (A.sn.getD s (0, 0, 0)).2.2) (ii + 1) = Bt (fun l => (decide (¬ (A.P.LA (A.sn.getD s (0, 0, 0)).1 (A.sn.getD s (0, 0, 0)).2.1 A.P.on (-9) &&& (2 ^ l ^^^ 4294967295)) = 0)).toNat == (A.sn.getD s (0, 0, 0)).2.2) ii ||| 2 ^ ii := by rw [Bt, if_pos (by rw [hdc]; exact decide_eq_true (by omega))]
          refine j_iload_n F dX5_lampsThatMayBeOut_72 rfl rfl ?_
          refine j_iconst (v := nI (1)) F dX5_lampsThatMayBeOut_73 rfl (by decide) ?_
          refine j_iload F dX5_lampsThatMayBeOut_74 rfl rfl ?_
          refine j_ishl F dX5_lampsThatMayBeOut_76 rfl ?_
          refine j_ior F dX5_lampsThatMayBeOut_77 rfl ?_
          refine j_int (y := nI (Bt (fun l => (decide (¬ (A.P.LA (A.sn.getD s (0, 0, 0)).1 (A.sn.getD s (0, 0, 0)).2.1 A.P.on (-9) &&& (2 ^ l ^^^ 4294967295)) = 0)).toNat == (A.sn.getD s (0, 0, 0)).2.2) ii ||| 2 ^ ii)) (or_1 (by omega)) ?_
          refine j_istore_n (lv' := [some (.ref (X.E.1 + 0)), some (.int (nI (s * 3))), some (.int (nI (A.P.LA (A.sn.getD s (0, 0, 0)).1 (A.sn.getD s (0, 0, 0)).2.1 A.P.on (-9)))), some (.int (nI (Bt (fun l => (decide (¬ (A.P.LA (A.sn.getD s (0, 0, 0)).1 (A.sn.getD s (0, 0, 0)).2.1 A.P.on (-9) &&& (2 ^ l ^^^ 4294967295)) = 0)).toNat == (A.sn.getD s (0, 0, 0)).2.2) ii ||| 2 ^ ii))), some (.int (nI (ii))), some (.int (nI (1)))]) F dX5_lampsThatMayBeOut_78 rfl (hL _ (by decide)) rfl rfl ?_
          refine j_iincN (a := ii) (c := 1) (lv' := [some (.ref (X.E.1 + 0)), some (.int (nI (s * 3))), some (.int (nI (A.P.LA (A.sn.getD s (0, 0, 0)).1 (A.sn.getD s (0, 0, 0)).2.1 A.P.on (-9)))), some (.int (nI (Bt (fun l => (decide (¬ (A.P.LA (A.sn.getD s (0, 0, 0)).1 (A.sn.getD s (0, 0, 0)).2.1 A.P.on (-9) &&& (2 ^ l ^^^ 4294967295)) = 0)).toNat == (A.sn.getD s (0, 0, 0)).2.2) ii ||| 2 ^ ii))), some (.int (nI (ii + 1))), some (.int (nI (1)))]) F dX5_lampsThatMayBeOut_79 rfl rfl (by decide) (hL _ (by decide)) rfl rfl ?_
          refine j_goto (pc' := 29) F dX5_lampsThatMayBeOut_82 (by decide) ?_
          refine j_lv (lv' := [some (.ref (X.E.1 + 0)), some (.int (nI (s * 3))), some (.int (nI (A.P.LA (A.sn.getD s (0, 0, 0)).1 (A.sn.getD s (0, 0, 0)).2.1 A.P.on (-9)))), some (.int (nI (Bt (fun l => (decide (¬ (A.P.LA (A.sn.getD s (0, 0, 0)).1 (A.sn.getD s (0, 0, 0)).2.1 A.P.on (-9) &&& (2 ^ l ^^^ 4294967295)) = 0)).toNat == (A.sn.getD s (0, 0, 0)).2.2) ii ||| 2 ^ ii))), some (.int (nI (ii + 1))), none]) (sbl (ks := [0, 1, 2, 3, 4]) rfl) ?_
          refine j_lvq (lv' := [some (.ref (X.E.1 + 0)), some (.int (nI (s * 3))), some (.int (nI (A.P.LA (A.sn.getD s (0, 0, 0)).1 (A.sn.getD s (0, 0, 0)).2.1 A.P.on (-9)))), some (.int (nI (Bt (fun l => (decide (¬ (A.P.LA (A.sn.getD s (0, 0, 0)).1 (A.sn.getD s (0, 0, 0)).2.1 A.P.on (-9) &&& (2 ^ l ^^^ 4294967295)) = 0)).toNat == (A.sn.getD s (0, 0, 0)).2.2) (ii + 1)))), some (.int (nI (ii + 1))), none]) (by rw [hnx]) ?_
          exact ih_29 (by omega)
  exact loop_29 0 (by omega)  

set_option maxRecDepth 10000 in
set_option maxHeartbeats 2000000 in
theorem c_X5_unseen {l : Launch} {n : Nat} {E : Ev} {σ : St} {A : Ab} (hn : 55 ≤ n) (hA : AI A) (hC : CR σ A) : Ct l yX5_unseen cX5_unseen 3 (some .int) 7 n E [.ref (E.1 + 0)] σ (oC σ (o_unseen A)) := by
  refine Ct.of (lv0 := [some (.ref (E.1 + 0)), none, none]) (by decide) (Nat.le_of_ble_eq_true rfl) rfl ?_
  intro X hXn hXE hXl hXL F hRt
  subst hXn hXE hXl
  have hL : ∀ i, i < 3 → i < X.nL := fun i h => by rw [hXL]; exact h
  have hP := hC.1
  have hT := hC.2.1
  have hPa := hC.2.2.1
  have hG := hA.1
  have hBd := hG.1
  have hWl := hG.2.1
  have hLm := hG.2.2.1
  have hB0 := hBd
  obtain ⟨b1, b2, b3, b4, b5, b6, b7⟩ := hB0
  have hon : A.P.on < 256 := Bt_le b7
  have hs6 := hA.2.2.2.1
  refine j_aload_n F dX5_unseen_0 rfl rfl ?_
  refine gX5_12 hn F dX5_unseen_1 rfl ?_
  refine kX5_154 (isPl_1 hn) F (As := []) (rest := []) (c_X2_lampsOn hn (isPl_1 hn) hP hBd hLm) (by decide) rfl rfl (Nat.le_of_ble_eq_true rfl) dX5_unseen_4 rfl (ro_k ?_)
  refine j_istore_n (lv' := [some (.ref (X.E.1 + 0)), some (.int (nI (A.P.on))), none]) F dX5_unseen_7 rfl (hL _ (by decide)) rfl rfl ?_
  refine j_iconst (v := nI (0)) F dX5_unseen_8 rfl (by decide) ?_
  refine j_istore_n (lv' := [some (.ref (X.E.1 + 0)), some (.int (nI (A.P.on))), some (.int (nI (0)))]) F dX5_unseen_9 rfl (hL _ (by decide)) rfl rfl ?_
  have loop_10 : ∀ (ii : Nat), ii ≤ A.sn.length → J X 10 [some (.ref (X.E.1 + 0)), some (.int (nI (unsC A.P A.sn ii))), some (.int (nI (ii)))] [] σ := by
    refine dnL (fun ii hii ih_10 => ?_)
    refine j_iload_n F dX5_unseen_10 rfl rfl ?_
    refine j_aload_n F dX5_unseen_11 rfl rfl ?_
    refine gX5_82 hn F dX5_unseen_12 rfl ?_
    refine j_int (y := nI (A.sn.length)) (hC.2.2.2.2.1) ?_
    refine j_icmp_geN (a := ii) (b := A.sn.length) F (by omega) (by omega) (tgt := 34) dX5_unseen_15 (by decide) rfl (fun c_15 => ?_) (fun c_15 => ?_)
    · have hiN : ii = A.sn.length := by omega
      refine j_iload_n F dX5_unseen_34 rfl rfl ?_
      exact j_iret F hRt rfl (oC_q (by rw [hiN]) hC FrC.rf) dX5_unseen_35
    · refine j_iload_n F dX5_unseen_18 rfl rfl ?_
      refine j_aload_n F dX5_unseen_19 rfl rfl ?_
      refine j_iload_n F dX5_unseen_20 rfl rfl ?_
      refine j_iconst (v := nI (3)) F dX5_unseen_21 rfl (by decide) ?_
      refine j_imulN (a := ii) (b := 3) F dX5_unseen_22 rfl ?_
      refine kX5_204 hn F (As := [.int (nI (ii * 3))]) (rest := [.int (nI (unsC A.P A.sn ii))]) (c_X5_lampsThatMayBeOut hn hA hC ii (by omega)) (by decide) rfl rfl (Nat.le_of_ble_eq_true rfl) dX5_unseen_23 rfl (ro_k ?_)
      refine j_iand F dX5_unseen_26 rfl ?_
      refine j_int (y := nI (unsC A.P A.sn (ii + 1))) (fa_and _ _) ?_
      refine j_istore_n (lv' := [some (.ref (X.E.1 + 0)), some (.int (nI (unsC A.P A.sn (ii + 1)))), some (.int (nI (ii)))]) F dX5_unseen_27 rfl (hL _ (by decide)) rfl rfl ?_
      refine j_iincN (a := ii) (c := 1) (lv' := [some (.ref (X.E.1 + 0)), some (.int (nI (unsC A.P A.sn (ii + 1)))), some (.int (nI (ii + 1)))]) F dX5_unseen_28 rfl rfl (by decide) (hL _ (by decide)) rfl rfl ?_
      refine j_goto (pc' := 10) F dX5_unseen_31 (by decide) ?_
      exact ih_10 (by omega)  
  exact loop_10 0 (by omega)  

set_option maxRecDepth 10000 in
set_option maxHeartbeats 2000000 in
theorem c_X5_keep {l : Launch} {n : Nat} {E : Ev} {σ : St} {A : Ab} (hn : 55 ≤ n) (hA : AI A) (hC : CR σ A) (x : Int32) : Ct l yX5_keep cX5_keep 2 (some .int) 2 n E [.ref (E.1 + 0), .int (x)] σ (oC σ (o_keep A x)) := by
  refine Ct.of (lv0 := [some (.ref (E.1 + 0)), some (.int (x))]) (by decide) (Nat.le_of_ble_eq_true rfl) rfl ?_
  intro X hXn hXE hXl hXL F hRt
  subst hXn hXE hXl
  have hL : ∀ i, i < 2 → i < X.nL := fun i h => by rw [hXL]; exact h
  have hP := hC.1
  have hT := hC.2.1
  have hPa := hC.2.2.1
  have hG := hA.1
  have hBd := hG.1
  have hWl := hG.2.1
  have hLm := hG.2.2.1
  have hB0 := hBd
  obtain ⟨b1, b2, b3, b4, b5, b6, b7⟩ := hB0
  refine j_iload_n F dX5_keep_0 rfl rfl ?_
  refine j_if_lt F (tgt := 9) dX5_keep_1 (by decide) rfl (fun c_1 => ?_) (fun c_1 => ?_)
  · have hz : ¬ (¬ x < 0 ∧ x < nI 2) := fun q => q.1 c_1
    refine j_iconst (v := (-1 : Int32)) F dX5_keep_9 rfl (by decide) ?_
    exact j_iret F hRt rfl (oC_e (if_pos hz) hC FrC.rf) dX5_keep_10
  · refine j_iload_n F dX5_keep_4 rfl rfl ?_
    refine j_iconst (v := nI (2)) F dX5_keep_5 rfl (by decide) ?_
    refine j_icmp_lt F (tgt := 11) dX5_keep_6 (by decide) rfl (fun c_6 => ?_) (fun c_6 => ?_)
    · have hz : ¬ x < 0 ∧ x < nI 2 := ⟨c_1, c_6⟩
      obtain ⟨j, hj, rfl⟩ := rg_lt c_1 c_6 (by decide)
      have hk_im := isPl_i hn hj
      refine j_aload_n F dX5_keep_11 rfl rfl ?_
      refine gX5_47 hn F dX5_keep_12 rfl ?_
      refine j_iload_n F dX5_keep_15 rfl rfl ?_
      refine j_aaload (a := j) F (by omega) rfl rfl (by omega) (by decide) dX5_keep_16 rfl ?_
      refine j_aload_n F dX5_keep_17 rfl rfl ?_
      refine gX5_12 hn F dX5_keep_18 rfl ?_
      refine kX5_75 hk_im F (As := [.ref (X.E.1 + 1)]) (rest := []) (c_X2_copyFrom hn hk_im (isPl_1 hn) hP (by omega) b6 b7) (by decide) rfl rfl (Nat.le_of_ble_eq_true rfl) dX5_keep_21 rfl (fun v_21 σ_21 q_21 => ?_)
      obtain ⟨rfl, p_21, f_21⟩ := q_21
      have hP_21 : PlanOK σ_21 1 A.P := hP.frame (f_21 1 (by simp only [List.mem_cons, List.not_mem_nil, or_false]; omega)) (f_21 2 (by simp only [List.mem_cons, List.not_mem_nil, or_false]; omega)) (f_21 3 (by simp only [List.mem_cons, List.not_mem_nil, or_false]; omega))
      refine j_aload_n F dX5_keep_24 rfl rfl ?_
      refine gX5_51 hn F dX5_keep_25 rfl ?_
      refine j_iload_n F dX5_keep_28 rfl rfl ?_
      refine j_iconst (v := nI (1)) F dX5_keep_29 rfl (by decide) ?_
      refine j_bastore (a := j) F (by omega) rfl rfl (by omega) (by decide) rfl dX5_keep_30 rfl ?_
      refine j_aload_n F dX5_keep_31 rfl rfl ?_
      refine gX5_12 hn F dX5_keep_32 rfl ?_
      refine gX5_106 (isPl_1 hn) F dX5_keep_35 rfl ?_
      refine j_int (y := nI (A.P.nl)) (by rw [show up σ_21 47 j (nI 1) 1 = σ_21 1 from upR_n _ _ (by decide)]; exact hP_21.nl) ?_
      exact j_iret F hRt rfl (oC_e (show o_keep A (nI j) = (nI A.P.nl, (A.P, A.t, A.m, A.hs, fun i => if i = j then some A.P else A.im i, A.sn)) by unfold o_keep; rw [if_neg (fun q => q hz), tn_n (by omega)]) (CR_keep hC hj p_21 f_21) (FrC.put (fun a ha => f_21 a (by simp only [List.mem_cons, List.not_mem_nil, or_false]; omega)) (by decide))) dX5_keep_38
    · have hz : ¬ (¬ x < 0 ∧ x < nI 2) := fun q => c_6 q.2
      refine j_iconst (v := (-1 : Int32)) F dX5_keep_9 rfl (by decide) ?_
      exact j_iret F hRt rfl (oC_e (if_pos hz) hC FrC.rf) dX5_keep_10

set_option maxRecDepth 10000 in
set_option maxHeartbeats 2000000 in
theorem c_X5_back {l : Launch} {n : Nat} {E : Ev} {σ : St} {A : Ab} (hn : 55 ≤ n) (hA : AI A) (hC : CR σ A) (x : Int32) : Ct l yX5_back cX5_back 2 (some .int) 2 n E [.ref (E.1 + 0), .int (x)] σ (oC σ (o_back A x)) := by
  refine Ct.of (lv0 := [some (.ref (E.1 + 0)), some (.int (x))]) (by decide) (Nat.le_of_ble_eq_true rfl) rfl ?_
  intro X hXn hXE hXl hXL F hRt
  subst hXn hXE hXl
  have hL : ∀ i, i < 2 → i < X.nL := fun i h => by rw [hXL]; exact h
  have hP := hC.1
  have hT := hC.2.1
  have hPa := hC.2.2.1
  have hG := hA.1
  have hBd := hG.1
  have hWl := hG.2.1
  have hLm := hG.2.2.1
  have hB0 := hBd
  obtain ⟨b1, b2, b3, b4, b5, b6, b7⟩ := hB0
  refine j_iload_n F dX5_back_0 rfl rfl ?_
  refine j_if_lt F (tgt := 9) dX5_back_1 (by decide) rfl (fun c_1 => ?_) (fun c_1 => ?_)
  · have hz : ¬ (¬ x < 0 ∧ x < nI 2) := fun q => q.1 c_1
    refine j_iconst (v := (-1 : Int32)) F dX5_back_9 rfl (by decide) ?_
    exact j_iret F hRt rfl (oC_e (if_pos hz) hC FrC.rf) dX5_back_10
  · refine j_iload_n F dX5_back_4 rfl rfl ?_
    refine j_iconst (v := nI (2)) F dX5_back_5 rfl (by decide) ?_
    refine j_icmp_lt F (tgt := 11) dX5_back_6 (by decide) rfl (fun c_6 => ?_) (fun c_6 => ?_)
    · have hz : ¬ x < 0 ∧ x < nI 2 := ⟨c_1, c_6⟩
      obtain ⟨j, hj, rfl⟩ := rg_lt c_1 c_6 (by decide)
      have hk_im := isPl_i hn hj
      refine j_aload_n F dX5_back_11 rfl rfl ?_
      refine gX5_51 hn F dX5_back_12 rfl ?_
      refine j_iload_n F dX5_back_15 rfl rfl ?_
      refine j_baload (a := j) F (by omega) rfl rfl (by omega) (by decide) dX5_back_16 rfl ?_
      rcases hm : A.im j with _ | Q
      · refine j_int (y := nI (0)) ((hC.2.2.2.1 j hj).1 hm) ?_
        refine j_if_neN (a := 0) F (by omega) (tgt := 23) dX5_back_17 (by decide) rfl (fun c_17 => False.elim (by revert c_17; decide)) (fun c_17 => ?_)
        refine j_bipush (v := (-2 : Int32)) F dX5_back_20 rfl (by decide) ?_
        exact j_iret F hRt rfl (oC_e (show o_back A (nI j) = (-2, A) by unfold o_back; rw [if_neg (fun q => q hz), tn_n (by omega), hm]) hC FrC.rf) dX5_back_22
      · have hQ := ((hC.2.2.2.1 j hj).2 Q hm).2
        have hQB := (hA.2.2.1 j Q hm).1.1
        refine j_int (y := nI (1)) (((hC.2.2.2.1 j hj).2 Q hm).1) ?_
        refine j_if_neN (a := 1) F (by omega) (tgt := 23) dX5_back_17 (by decide) rfl (fun c_17 => ?_) (fun c_17 => False.elim (by revert c_17; decide))
        refine j_aload_n F dX5_back_23 rfl rfl ?_
        refine gX5_12 hn F dX5_back_24 rfl ?_
        refine j_aload_n F dX5_back_27 rfl rfl ?_
        refine gX5_47 hn F dX5_back_28 rfl ?_
        refine j_iload_n F dX5_back_31 rfl rfl ?_
        refine j_aaload (a := j) F (by omega) rfl rfl (by omega) (by decide) dX5_back_32 rfl ?_
        refine kX5_75 (isPl_1 hn) F (As := [.ref (X.E.1 + (49 + 3 * j))]) (rest := []) (c_X2_copyFrom hn (isPl_1 hn) hk_im hQ (by omega) hQB.2.2.2.2.2.1 hQB.2.2.2.2.2.2) (by decide) rfl rfl (Nat.le_of_ble_eq_true rfl) dX5_back_33 rfl (fun v_33 σ_33 q_33 => ?_)
        obtain ⟨rfl, p_33, f_33⟩ := q_33
        refine j_aload_n F dX5_back_36 rfl rfl ?_
        refine gX5_29 hn F dX5_back_37 rfl ?_
        refine j_iconst (v := nI (0)) F dX5_back_40 rfl (by decide) ?_
        refine pX5_79 hn F dX5_back_41 rfl ?_
        refine j_aload_n F dX5_back_44 rfl rfl ?_
        refine gX5_12 hn F dX5_back_45 rfl ?_
        refine gX5_106 (isPl_1 hn) F dX5_back_48 rfl ?_
        refine j_int (y := nI (Q.nl)) (by rw [show up σ_33 9 2 (nI 0) 1 = σ_33 1 from upR_n _ _ (by decide)]; exact p_33.nl) ?_
        exact j_iret F hRt rfl (oC_e (show o_back A (nI j) = (nI Q.nl, (Q, A.t, A.m, [], A.im, A.sn)) by unfold o_back; rw [if_neg (fun q => q hz), tn_n (by omega), hm]) (CR_back hC p_33 f_33) (FrC.put (FrC.of f_33 (by decide)) (by decide))) dX5_back_51
    · have hz : ¬ (¬ x < 0 ∧ x < nI 2) := fun q => c_6 q.2
      refine j_iconst (v := (-1 : Int32)) F dX5_back_9 rfl (by decide) ?_
      exact j_iret F hRt rfl (oC_e (if_pos hz) hC FrC.rf) dX5_back_10

set_option maxRecDepth 10000 in
set_option maxHeartbeats 2000000 in
theorem c_X5_plan {l : Launch} {n : Nat} {E : Ev} {σ : St} {A : Ab} (hn : 55 ≤ n) (hA : AI A) (hC : CR σ A) : Ct l yX5_plan cX5_plan 3 (some .int) 6 n E [.ref (E.1 + 0)] σ (oC σ (o_plan A)) := by
  refine Ct.of (lv0 := [some (.ref (E.1 + 0)), none, none]) (by decide) (Nat.le_of_ble_eq_true rfl) rfl ?_
  intro X hXn hXE hXl hXL F hRt
  subst hXn hXE hXl
  have hL : ∀ i, i < 3 → i < X.nL := fun i h => by rw [hXL]; exact h
  have hP := hC.1
  have hT := hC.2.1
  have hPa := hC.2.2.1
  have hG := hA.1
  have hBd := hG.1
  have hWl := hG.2.1
  have hLm := hG.2.2.1
  have hB0 := hBd
  obtain ⟨b1, b2, b3, b4, b5, b6, b7⟩ := hB0
  refine j_aload_n F dX5_plan_0 rfl rfl ?_
  refine gX5_22 hn F dX5_plan_1 rfl ?_
  refine j_aload_n F dX5_plan_4 rfl rfl ?_
  refine gX5_16 hn F dX5_plan_5 rfl ?_
  refine kX5_71 hn F (As := [.ref (X.E.1 + 4)]) (rest := []) (c_X4_tell hn hT) (by decide) rfl rfl (Nat.le_of_ble_eq_true rfl) dX5_plan_8 rfl (fun v_8 σ_8 q_8 => ?_)
  rcases hr : tlR A.t A.m 121 (P0 6 6) 0 0 with s | q
  · rw [hr] at q_8
    obtain ⟨l_8, f_8, rfl⟩ := q_8
    have hs120 := tlR_le hT.2.1 121 (P0 6 6) 0 0 s (Nat.zero_le _) (PG_P0 (by decide) (by decide) (by decide) (by decide)) hr
    refine j_istore_n (lv' := [some (.ref (X.E.1 + 0)), some (.int (((-10 : Int32) - nI s))), none]) F dX5_plan_11 rfl (hL _ (by decide)) rfl rfl ?_
    refine j_iload_n F dX5_plan_12 rfl rfl ?_
    refine j_if_ge F (tgt := 18) dX5_plan_13 (by decide) rfl (fun c_13 => False.elim (absurd (m10_lt hs120) (Int32.not_lt.mpr c_13))) (fun c_13 => ?_)
    refine j_iload_n F dX5_plan_16 rfl rfl ?_
    exact j_iret F hRt rfl (oC_e (show o_plan A = _ by unfold o_plan; rw [hr]) (CR_tell hC l_8 f_8) (FrC.of f_8 (by decide))) dX5_plan_17
  · rw [hr] at q_8
    obtain ⟨l_8, f_8, rfl, hP_8, hG_8⟩ := q_8
    have hQB := hG_8.1.1
    have hq120 := tlR_cnt 121 (P0 6 6) 0 0 q hr
    refine j_istore_n (lv' := [some (.ref (X.E.1 + 0)), some (.int (nI (q.1))), none]) F dX5_plan_11 rfl (hL _ (by decide)) rfl rfl ?_
    refine j_iload_n F dX5_plan_12 rfl rfl ?_
    refine j_if_geN (a := q.1) F (by omega) (tgt := 18) dX5_plan_13 (by decide) rfl ?_
    refine j_aload_n F dX5_plan_18 rfl rfl ?_
    refine gX5_12 hn F dX5_plan_19 rfl ?_
    refine j_aload_n F dX5_plan_22 rfl rfl ?_
    refine gX5_16 hn F dX5_plan_23 rfl ?_
    refine kX5_75 (isPl_1 hn) F (As := [.ref (X.E.1 + 4)]) (rest := []) (c_X2_copyFrom hn (isPl_1 hn) (isPl_4 hn) hP_8 (by omega) hQB.2.2.2.2.2.1 hQB.2.2.2.2.2.2) (by decide) rfl rfl (Nat.le_of_ble_eq_true rfl) dX5_plan_26 rfl (fun v_26 σ_26 q_26 => ?_)
    obtain ⟨rfl, p_26, f_26⟩ := q_26
    refine j_aload_n F dX5_plan_29 rfl rfl ?_
    refine gX5_22 hn F dX5_plan_30 rfl ?_
    refine j_iconst (v := nI (0)) F dX5_plan_33 rfl (by decide) ?_
    refine pX5_63 hn F dX5_plan_34 rfl ?_
    refine j_aload_n F dX5_plan_37 rfl rfl ?_
    refine gX5_29 hn F dX5_plan_38 rfl ?_
    refine j_iconst (v := nI (0)) F dX5_plan_41 rfl (by decide) ?_
    refine pX5_79 hn F dX5_plan_42 rfl ?_
    refine j_aload_n F dX5_plan_45 rfl rfl ?_
    refine j_iconst (v := nI (0)) F dX5_plan_46 rfl (by decide) ?_
    refine pX5_82 hn F dX5_plan_47 rfl ?_
    refine j_iconst (v := nI (0)) F dX5_plan_50 rfl (by decide) ?_
    refine j_istore_n (lv' := [some (.ref (X.E.1 + 0)), some (.int (nI (q.1))), some (.int (nI (0)))]) F dX5_plan_51 rfl (hL _ (by decide)) rfl rfl ?_
    refine j_iload_n F dX5_plan_52 rfl rfl ?_
    refine j_iconst (v := nI (2)) F dX5_plan_53 rfl (by decide) ?_
    refine j_icmp_geN (a := 0) (b := 2) F (by omega) (by omega) (tgt := 70) dX5_plan_54 (by decide) rfl (fun c_54 => False.elim (by revert c_54; decide)) (fun c_54 => ?_)
    refine j_aload_n F dX5_plan_57 rfl rfl ?_
    refine gX5_51 hn F dX5_plan_58 rfl ?_
    refine j_iload_n F dX5_plan_61 rfl rfl ?_
    refine j_iconst (v := nI (0)) F dX5_plan_62 rfl (by decide) ?_
    refine j_bastore (a := 0) F (by omega) rfl rfl (by omega) (by decide) rfl dX5_plan_63 rfl ?_
    refine j_iincN (a := 0) (c := 1) (lv' := [some (.ref (X.E.1 + 0)), some (.int (nI (q.1))), some (.int (nI (1)))]) F dX5_plan_64 rfl rfl (by decide) (hL _ (by decide)) rfl rfl ?_
    refine j_goto (pc' := 52) F dX5_plan_67 (by decide) ?_
    refine j_iload_n F dX5_plan_52 rfl rfl ?_
    refine j_iconst (v := nI (2)) F dX5_plan_53 rfl (by decide) ?_
    refine j_icmp_geN (a := 1) (b := 2) F (by omega) (by omega) (tgt := 70) dX5_plan_54 (by decide) rfl (fun c_54 => False.elim (by revert c_54; decide)) (fun c_54 => ?_)
    refine j_aload_n F dX5_plan_57 rfl rfl ?_
    refine gX5_51 hn F dX5_plan_58 rfl ?_
    refine j_iload_n F dX5_plan_61 rfl rfl ?_
    refine j_iconst (v := nI (0)) F dX5_plan_62 rfl (by decide) ?_
    refine j_bastore (a := 1) F (by omega) rfl rfl (by omega) (by decide) rfl dX5_plan_63 rfl ?_
    refine j_iincN (a := 1) (c := 1) (lv' := [some (.ref (X.E.1 + 0)), some (.int (nI (q.1))), some (.int (nI (2)))]) F dX5_plan_64 rfl rfl (by decide) (hL _ (by decide)) rfl rfl ?_
    refine j_goto (pc' := 52) F dX5_plan_67 (by decide) ?_
    refine j_iload_n F dX5_plan_52 rfl rfl ?_
    refine j_iconst (v := nI (2)) F dX5_plan_53 rfl (by decide) ?_
    refine j_icmp_geN (a := 2) (b := 2) F (by omega) (by omega) (tgt := 70) dX5_plan_54 (by decide) rfl (fun c_54 => ?_) (fun c_54 => False.elim (by revert c_54; decide))
    refine j_iload_n F dX5_plan_70 rfl rfl ?_
    exact j_iret F hRt rfl (oC_e (show o_plan A = _ by unfold o_plan; rw [hr]) (CR_plan hC p_26 ((f_8.sub (by simp)).tr (f_26.sub (by simp)))) (FrC.put (FrC.put (FrC.put (FrC.put (FrC.put ((FrC.of f_8 (by decide)).tr (FrC.of f_26 (by decide))) (by decide)) (by decide)) (by decide)) (by decide)) (by decide))) dX5_plan_71
