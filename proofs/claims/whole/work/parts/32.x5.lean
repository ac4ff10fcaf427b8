/-! ===== the class's calls ===== -/
theorem rg_lt {x : Int32} {k : Nat} (h0 : ¬ x < 0) (h : x < nI k) (hk : k < 2147483648) : ∃ j, j < k ∧ x = nI j := by
  rcases pk_ix x (n := k) hk with q | q | q
  · exact absurd q h0
  · exact absurd h (Int32.not_lt.mpr q)
  · exact q
theorem rg_le {x : Int32} {k : Nat} (h0 : ¬ x < 0) (h : x ≤ nI k) (hk : k < 2147483647) : ∃ j, j ≤ k ∧ x = nI j := by
  obtain ⟨j, hj, rfl⟩ := nI_of h0
  exact ⟨j, (nI_leI hj (by omega)).mp h, rfl⟩
theorem i2c_n {j : Nat} (h : j < 65536) : ((nI j).toUInt32 % 65536).toInt32 = nI j := by rw [pk_char, pk_tn (by omega), Nat.mod_eq_of_lt h]
theorem and_t {a b : Bool} (h : (a && b) = true) : a = true ∧ b = true := by
  cases a
  · cases h
  · exact ⟨rfl, h⟩
theorem CR_T {σ σ' : St} {A : Ab} {t' : Nat → Nat} {m' : Nat} (h : CR σ A) (hf : Fr [7, 8] σ σ') (hT : TxtOK σ' t' m') : CR σ' (A.P, t', m', A.hs, A.im, A.sn) :=
  ⟨h.1.frame (hf 1 (by decide)) (hf 2 (by decide)) (hf 3 (by decide)), hT, h.2.2.1.eq (fun a ha => hf a (by simp only [List.mem_cons, List.not_mem_nil, or_false]; omega)), h.2.2.2.1.eq (hf 47 (by decide)) (fun a h1 h2 => hf a (by simp only [List.mem_cons, List.not_mem_nil, or_false]; omega)), h.2.2.2.2.eq (hf 0 (by decide)) (hf 48 (by decide))⟩
theorem CR_S {σ σ' : St} {A : Ab} {sn' : List (Nat × Nat × Nat)} (h : CR σ A) (hf : Fr [0, 48] σ σ') (hS : SnOK σ' sn') : CR σ' (A.P, A.t, A.m, A.hs, A.im, sn') :=
  ⟨h.1.frame (hf 1 (by decide)) (hf 2 (by decide)) (hf 3 (by decide)), h.2.1.eq (hf 7 (by decide)) (hf 8 (by decide)), h.2.2.1.eq (fun a ha => hf a (by simp only [List.mem_cons, List.not_mem_nil, or_false]; omega)), h.2.2.2.1.eq (hf 47 (by decide)) (fun a h1 h2 => hf a (by simp only [List.mem_cons, List.not_mem_nil, or_false]; omega)), hS⟩
theorem PastOK.nil {σ σ' : St} {hs0 : List Pl} (h : PastOK σ hs0) (h2 : σ' 9 1 = σ 9 1) (h3 : σ' 9 2 = nI 0) : PastOK σ' [] := by
  obtain ⟨nx, a1, a2, -⟩ := h
  exact ⟨nx, a1, by rw [h2]; exact a2, h3, Nat.zero_le _, fun i hi => absurd hi (Nat.not_lt_zero i)⟩
theorem FrC.ring {σ σ' : St} (h : Fr ringL σ σ') : FrC σ σ' := FrC.of h (by decide)
theorem TxtOK.fr0 {σ σ' : St} {t : Nat → Nat} {m : Nat} (_ : TxtOK σ t m) (h1 : σ' 7 1 = nI 0) (_ : σ' 8 = σ 8) : TxtOK σ' t 0 := ⟨h1, Nat.zero_le _, fun i hi => absurd hi (Nat.not_lt_zero i)⟩
theorem in4_t {x : Int32} {k : Nat} (h : in4 x k = true) (hk : k < 2147483648) : ∃ j, 4 ≤ j ∧ j < k ∧ x = nI j := by
  have z := of_decide_eq_true h
  have h0 : ¬ x < 0 := fun q => z.1 (fa_trans q (by decide))
  rcases pk_ix x (n := k) hk with q | q | ⟨j, q1, q2⟩
  · exact absurd q h0
  · exact absurd q z.2
  · subst q2
    refine ⟨j, ?_, q1, rfl⟩
    have z1 : ¬ j < 4 := fun q => z.1 ((nI_ltI (by omega) (by decide)).mpr q)
    omega
theorem canW_t {P : Pl} {x y len u : Int32} (h : canW P x y len u = true) (hB : PB P) : ∃ jx jy jl ju : Nat, x = nI jx ∧ y = nI jy ∧ len = nI jl ∧ u = nI ju ∧ ju ≤ 1 ∧ 1 ≤ jl ∧ jx ≤ P.W ∧ jy ≤ P.H ∧ (ju = 1 → jl + jy ≤ P.H) ∧ (ju = 0 → jl + jx ≤ P.W) := by
  obtain ⟨b1, b2, b3, b4, -⟩ := hB
  obtain ⟨h1, h2, h3, h4, h5, h6⟩ := of_decide_eq_true h
  obtain ⟨jx, hx, rfl⟩ := rg_le h1 (Int32.not_lt.mp h2) (by omega)
  obtain ⟨jy, hy, rfl⟩ := rg_le h3 (Int32.not_lt.mp h4) (by omega)
  rcases h6 with ⟨rfl, h7⟩ | ⟨h6, rfl, h7⟩
  · rw [pk_sub hy] at h7
    have h8 : ¬ len < 0 := fun q => absurd (fa_trans q (show (0 : Int32) ≤ nI 1 by decide)) (Int32.not_lt.mpr h5)
    obtain ⟨jl, hl, rfl⟩ := rg_le h8 (Int32.not_lt.mp h7) (by omega)
    have h9 := (nI_leI (by decide) (by omega)).mp h5
    exact ⟨jx, jy, jl, 1, rfl, rfl, rfl, rfl, Nat.le_refl 1, h9, hx, hy, fun _ => by omega, fun q => absurd q (by decide)⟩
  · rw [pk_sub hx] at h7
    have h8 : ¬ len < 0 := fun q => absurd (fa_trans q (show (0 : Int32) ≤ nI 1 by decide)) (Int32.not_lt.mpr h5)
    obtain ⟨jl, hl, rfl⟩ := rg_le h8 (Int32.not_lt.mp h7) (by omega)
    have h9 := (nI_leI (by decide) (by omega)).mp h5
    exact ⟨jx, jy, jl, 0, rfl, rfl, rfl, nI_0.symm, by decide, h9, hx, hy, fun q => absurd q (by decide), fun _ => by omega⟩
theorem tb_out {x : Int32} (s0 : ¬ x = 0) (s1 : ¬ x = nI 1) (s2 : ¬ x = nI 2) (s3 : ¬ x = nI 3) (s4 : ¬ x = nI 4) (s5 : ¬ x = nI 5) (s6 : ¬ x = nI 6) : x.toInt < 0 ∨ 6 < x.toInt := by
  have e0 := lv_neT (a := 0) s0 (by decide)
  have e1 := lv_neT (a := 1) s1 (by decide)
  have e2 := lv_neT (a := 2) s2 (by decide)
  have e3 := lv_neT (a := 3) s3 (by decide)
  have e4 := lv_neT (a := 4) s4 (by decide)
  have e5 := lv_neT (a := 5) s5 (by decide)
  have e6 := lv_neT (a := 6) s6 (by decide)
  omega
set_option maxRecDepth 10000 in
set_option maxHeartbeats 2000000 in
theorem c_X5_type {l : Launch} {n : Nat} {E : Ev} {σ : St} {A : Ab} (hn : 55 ≤ n) (hA : AI A) (hC : CR σ A) (x : Int32) : Ct l yX5_type cX5_type 2 (some .int) 1 n E [.ref (E.1 + 0), .int (x)] σ (oC σ (o_type A x)) := by
  refine Ct.of (lv0 := [some (.ref (E.1 + 0)), some (.int (x))]) (by decide) (Nat.le_of_ble_eq_true rfl) rfl ?_
  intro X hXn hXE hXl hXL F hRt
  subst hXn hXE hXl
  have hL : ∀ i, i < 2 → i < X.nL := fun i h => by rw [hXL]; exact h
  have hP := hC.1
  have hT := hC.2.1
  have hPa := hC.2.2.1
  have hG := hA.1
  have hBd := hG.1
  have hWl := hG.2.1
  have hLm := hG.2.2.1
  have hB0 := hBd
  obtain ⟨b1, b2, b3, b4, b5, b6, b7⟩ := hB0
  refine j_iload_n F dX5_type_0 rfl rfl ?_
  refine j_if_lt F (tgt := 11) dX5_type_1 (by decide) rfl (fun c_1 => ?_) (fun c_1 => ?_)
  · have hz : x < 0 ∨ ¬ x ≤ nI 255 := Or.inl c_1
    refine j_iconst (v := (-1 : Int32)) F dX5_type_11 rfl (by decide) ?_
    exact j_iret F hRt rfl (oC_e (if_pos hz) hC FrC.rf) dX5_type_12
  · refine j_iload_n F dX5_type_4 rfl rfl ?_
    refine j_sipush (v := nI (255)) F dX5_type_5 rfl (by decide) ?_
    refine j_icmp_le F (tgt := 13) dX5_type_8 (by decide) rfl (fun c_8 => ?_) (fun c_8 => ?_)
    · obtain ⟨j, hj, rfl⟩ := rg_le c_1 c_8 (by decide)
      have hz : ¬ (nI j < 0 ∨ ¬ nI j ≤ nI 255) := fun q => q.elim c_1 (fun r => r c_8)
      refine j_aload_n F dX5_type_13 rfl rfl ?_
      refine gX5_22 hn F dX5_type_14 rfl ?_
      refine gX5_63 hn F dX5_type_17 rfl ?_
      refine j_int (y := nI (A.m)) (hT.1) ?_
      refine j_bipush (v := nI (120)) F dX5_type_20 rfl (by decide) ?_
      refine j_icmp_ltN (a := A.m) (b := 120) F (by have := hT.2.1; omega) (by omega) (tgt := 28) dX5_type_22 (by decide) rfl (fun c_22 => ?_) (fun c_22 => ?_)
      · refine j_aload_n F dX5_type_28 rfl rfl ?_
        refine gX5_22 hn F dX5_type_29 rfl ?_
        refine j_iload_n F dX5_type_32 rfl rfl ?_
        refine j_i2c F dX5_type_33 rfl (i2c_n (by omega)) ?_
        refine kX5_67 hn F (As := [.int (nI (j))]) (rest := []) (c_X4_add hn hT c_22 j (by omega)) (by decide) rfl rfl (Nat.le_of_ble_eq_true rfl) dX5_type_34 rfl (fun v_34 σ_34 q_34 => ?_)
        obtain ⟨rfl, T_34, f_34⟩ := q_34
        refine j_aload_n F dX5_type_37 rfl rfl ?_
        refine gX5_22 hn F dX5_type_38 rfl ?_
        refine gX5_63 hn F dX5_type_41 rfl ?_
        refine j_int (y := nI (A.m + 1)) (T_34.1) ?_
        exact j_iret F hRt rfl (oC_e (show o_type A (nI j) = (nI (A.m + 1), _) by unfold o_type; rw [if_neg hz, if_neg (by omega), tn_n (by omega)]) (CR_T hC f_34 T_34) (FrC.of f_34 (by decide))) dX5_type_44
      · refine j_bipush (v := (-3 : Int32)) F dX5_type_25 rfl (by decide) ?_
        exact j_iret F hRt rfl (oC_e (show o_type A (nI j) = (-3, A) by unfold o_type; rw [if_neg hz, if_pos (by omega)]) hC FrC.rf) dX5_type_27
    · have hz : x < 0 ∨ ¬ x ≤ nI 255 := Or.inr c_8
      refine j_iconst (v := (-1 : Int32)) F dX5_type_11 rfl (by decide) ?_
      exact j_iret F hRt rfl (oC_e (if_pos hz) hC FrC.rf) dX5_type_12

set_option maxRecDepth 10000 in
set_option maxHeartbeats 2000000 in
theorem c_X5_clear {l : Launch} {n : Nat} {E : Ev} {σ : St} {A : Ab} (hn : 55 ≤ n) (hA : AI A) (hC : CR σ A) : Ct l yX5_clear cX5_clear 2 (some .int) 0 n E [.ref (E.1 + 0)] σ (oC σ (o_clear A)) := by
  refine Ct.of (lv0 := [some (.ref (E.1 + 0)), none]) (by decide) (Nat.le_of_ble_eq_true rfl) rfl ?_
  intro X hXn hXE hXl hXL F hRt
  subst hXn hXE hXl
  have hL : ∀ i, i < 2 → i < X.nL := fun i h => by rw [hXL]; exact h
  have hP := hC.1
  have hT := hC.2.1
  have hPa := hC.2.2.1
  have hG := hA.1
  have hBd := hG.1
  have hWl := hG.2.1
  have hLm := hG.2.2.1
  have hB0 := hBd
  obtain ⟨b1, b2, b3, b4, b5, b6, b7⟩ := hB0
  refine j_aload_n F dX5_clear_0 rfl rfl ?_
  refine gX5_22 hn F dX5_clear_1 rfl ?_
  refine gX5_63 hn F dX5_clear_4 rfl ?_
  refine j_int (y := nI (A.m)) (hT.1) ?_
  refine j_istore_n (lv' := [some (.ref (X.E.1 + 0)), some (.int (nI (A.m)))]) F dX5_clear_7 rfl (hL _ (by decide)) rfl rfl ?_
  refine j_aload_n F dX5_clear_8 rfl rfl ?_
  refine gX5_22 hn F dX5_clear_9 rfl ?_
  refine j_iconst (v := nI (0)) F dX5_clear_12 rfl (by decide) ?_
  refine pX5_63 hn F dX5_clear_13 rfl ?_
  refine j_iload_n F dX5_clear_16 rfl rfl ?_
  exact j_iret F hRt rfl (oC_e rfl (CR_T (t' := A.t) (m' := 0) hC (Fr.put Fr.rf (by simp)) (hT.fr0 (by simp [up, upR, upd]) (upR_n _ _ (by decide)))) (FrC.put FrC.rf (by decide))) dX5_clear_17

set_option maxRecDepth 10000 in
set_option maxHeartbeats 2000000 in
theorem c_X5_wall {l : Launch} {n : Nat} {E : Ev} {σ : St} {A : Ab} (hn : 55 ≤ n) (hA : AI A) (hC : CR σ A) (w x : Int32) : Ct l yX5_wall cX5_wall 3 (some .int) 1 n E [.ref (E.1 + 0), .int (w), .int (x)] σ (oC σ (o_wall A w x)) := by
  refine Ct.of (lv0 := [some (.ref (E.1 + 0)), some (.int (w)), some (.int (x))]) (by decide) (Nat.le_of_ble_eq_true rfl) rfl ?_
  intro X hXn hXE hXl hXL F hRt
  subst hXn hXE hXl
  have hL : ∀ i, i < 3 → i < X.nL := fun i h => by rw [hXL]; exact h
  have hP := hC.1
  have hT := hC.2.1
  have hPa := hC.2.2.1
  have hG := hA.1
  have hBd := hG.1
  have hWl := hG.2.1
  have hLm := hG.2.2.1
  have hB0 := hBd
  obtain ⟨b1, b2, b3, b4, b5, b6, b7⟩ := hB0
  refine j_aload_n F dX5_wall_0 rfl rfl ?_
  refine gX5_12 hn F dX5_wall_1 rfl ?_
  refine j_iload_n F dX5_wall_4 rfl rfl ?_
  refine kX5_85 (isPl_1 hn) F (As := [.int (w)]) (rest := []) (c_X2_hasWall hn (isPl_1 hn) hP hBd w) (by decide) rfl rfl (Nat.le_of_ble_eq_true rfl) dX5_wall_5 rfl (ro_k ?_)
  refine j_if_eqB F (x := inR (w) A.P.nw) (tgt := 20) dX5_wall_8 (by decide) rfl (fun c_8 => ?_) (fun c_8 => ?_)
  · have hz : ¬ (inR w A.P.nw = true ∧ ¬ x < 0 ∧ x < nI 4) := fun q => by rw [c_8] at q; exact absurd q.1 (by decide)
    refine j_iconst (v := (-1 : Int32)) F dX5_wall_20 rfl (by decide) ?_
    exact j_iret F hRt rfl (oC_q (if_neg hz) hC FrC.rf) dX5_wall_21
  · refine j_iload_n F dX5_wall_11 rfl rfl ?_
    refine j_if_lt F (tgt := 20) dX5_wall_12 (by decide) rfl (fun c_12 => ?_) (fun c_12 => ?_)
    · have hz : ¬ (inR w A.P.nw = true ∧ ¬ x < 0 ∧ x < nI 4) := fun q => q.2.1 c_12
      refine j_iconst (v := (-1 : Int32)) F dX5_wall_20 rfl (by decide) ?_
      exact j_iret F hRt rfl (oC_q (if_neg hz) hC FrC.rf) dX5_wall_21
    · refine j_iload_n F dX5_wall_15 rfl rfl ?_
      refine j_iconst (v := nI (4)) F dX5_wall_16 rfl (by decide) ?_
      refine j_icmp_lt F (tgt := 22) dX5_wall_17 (by decide) rfl (fun c_17 => ?_) (fun c_17 => ?_)
      · have hz : inR w A.P.nw = true ∧ ¬ x < 0 ∧ x < nI 4 := ⟨c_8, c_12, c_17⟩
        obtain ⟨j, hj, rfl⟩ := inR_t c_8 (by omega)
        obtain ⟨i, hi, rfl⟩ := rg_lt c_12 c_17 (by decide)
        refine j_aload_n F dX5_wall_22 rfl rfl ?_
        refine gX5_12 hn F dX5_wall_23 rfl ?_
        refine j_iload_n F dX5_wall_26 rfl rfl ?_
        refine j_iload_n F dX5_wall_27 rfl rfl ?_
        refine kX5_89 (isPl_1 hn) F (As := [.int (nI (j)), .int (nI (i))]) (rest := []) (c_X2_wallPart hn (isPl_1 hn) hP hBd j i hj hi) (by decide) rfl rfl (Nat.le_of_ble_eq_true rfl) dX5_wall_28 rfl (ro_k ?_)
        exact j_iret F hRt rfl (oC_q (by rw [if_pos hz, tn_n (by omega), tn_n (by omega)]) hC FrC.rf) dX5_wall_31
      · have hz : ¬ (inR w A.P.nw = true ∧ ¬ x < 0 ∧ x < nI 4) := fun q => c_17 q.2.2
        refine j_iconst (v := (-1 : Int32)) F dX5_wall_20 rfl (by decide) ?_
        exact j_iret F hRt rfl (oC_q (if_neg hz) hC FrC.rf) dX5_wall_21

set_option maxRecDepth 10000 in
set_option maxHeartbeats 2000000 in
theorem c_X5_lamp {l : Launch} {n : Nat} {E : Ev} {σ : St} {A : Ab} (hn : 55 ≤ n) (hA : AI A) (hC : CR σ A) (w x : Int32) : Ct l yX5_lamp cX5_lamp 3 (some .int) 1 n E [.ref (E.1 + 0), .int (w), .int (x)] σ (oC σ (o_lamp A w x)) := by
  refine Ct.of (lv0 := [some (.ref (E.1 + 0)), some (.int (w)), some (.int (x))]) (by decide) (Nat.le_of_ble_eq_true rfl) rfl ?_
  intro X hXn hXE hXl hXL F hRt
  subst hXn hXE hXl
  have hL : ∀ i, i < 3 → i < X.nL := fun i h => by rw [hXL]; exact h
  have hP := hC.1
  have hT := hC.2.1
  have hPa := hC.2.2.1
  have hG := hA.1
  have hBd := hG.1
  have hWl := hG.2.1
  have hLm := hG.2.2.1
  have hB0 := hBd
  obtain ⟨b1, b2, b3, b4, b5, b6, b7⟩ := hB0
  refine j_aload_n F dX5_lamp_0 rfl rfl ?_
  refine gX5_12 hn F dX5_lamp_1 rfl ?_
  refine j_iload_n F dX5_lamp_4 rfl rfl ?_
  refine kX5_93 (isPl_1 hn) F (As := [.int (w)]) (rest := []) (c_X2_hasLamp hn (isPl_1 hn) hP hBd w) (by decide) rfl rfl (Nat.le_of_ble_eq_true rfl) dX5_lamp_5 rfl (ro_k ?_)
  refine j_if_eqB F (x := inR (w) A.P.nl) (tgt := 20) dX5_lamp_8 (by decide) rfl (fun c_8 => ?_) (fun c_8 => ?_)
  · have hz : ¬ (inR w A.P.nl = true ∧ ¬ x < 0 ∧ x < nI 3) := fun q => by rw [c_8] at q; exact absurd q.1 (by decide)
    refine j_iconst (v := (-1 : Int32)) F dX5_lamp_20 rfl (by decide) ?_
    exact j_iret F hRt rfl (oC_q (if_neg hz) hC FrC.rf) dX5_lamp_21
  · refine j_iload_n F dX5_lamp_11 rfl rfl ?_
    refine j_if_lt F (tgt := 20) dX5_lamp_12 (by decide) rfl (fun c_12 => ?_) (fun c_12 => ?_)
    · have hz : ¬ (inR w A.P.nl = true ∧ ¬ x < 0 ∧ x < nI 3) := fun q => q.2.1 c_12
      refine j_iconst (v := (-1 : Int32)) F dX5_lamp_20 rfl (by decide) ?_
      exact j_iret F hRt rfl (oC_q (if_neg hz) hC FrC.rf) dX5_lamp_21
    · refine j_iload_n F dX5_lamp_15 rfl rfl ?_
      refine j_iconst (v := nI (3)) F dX5_lamp_16 rfl (by decide) ?_
      refine j_icmp_lt F (tgt := 22) dX5_lamp_17 (by decide) rfl (fun c_17 => ?_) (fun c_17 => ?_)
      · have hz : inR w A.P.nl = true ∧ ¬ x < 0 ∧ x < nI 3 := ⟨c_8, c_12, c_17⟩
        obtain ⟨j, hj, rfl⟩ := inR_t c_8 (by omega)
        obtain ⟨i, hi, rfl⟩ := rg_lt c_12 c_17 (by decide)
        refine j_aload_n F dX5_lamp_22 rfl rfl ?_
        refine gX5_12 hn F dX5_lamp_23 rfl ?_
        refine j_iload_n F dX5_lamp_26 rfl rfl ?_
        refine j_iload_n F dX5_lamp_27 rfl rfl ?_
        refine kX5_96 (isPl_1 hn) F (As := [.int (nI (j)), .int (nI (i))]) (rest := []) (c_X2_lampPart hn (isPl_1 hn) hP hBd j i hj hi) (by decide) rfl rfl (Nat.le_of_ble_eq_true rfl) dX5_lamp_28 rfl (ro_k ?_)
        exact j_iret F hRt rfl (oC_q (by rw [if_pos hz, tn_n (by omega), tn_n (by omega)]) hC FrC.rf) dX5_lamp_31
      · have hz : ¬ (inR w A.P.nl = true ∧ ¬ x < 0 ∧ x < nI 3) := fun q => c_17 q.2.2
        refine j_iconst (v := (-1 : Int32)) F dX5_lamp_20 rfl (by decide) ?_
        exact j_iret F hRt rfl (oC_q (if_neg hz) hC FrC.rf) dX5_lamp_21

set_option maxRecDepth 10000 in
set_option maxHeartbeats 2000000 in
theorem c_X5_puts {l : Launch} {n : Nat} {E : Ev} {σ : St} {A : Ab} (hn : 55 ≤ n) (hA : AI A) (hC : CR σ A) (x y : Int32) : Ct l yX5_puts cX5_puts 3 (some .int) 3 n E [.ref (E.1 + 0), .int (x), .int (y)] σ (oC σ (o_puts A x y)) := by
  refine Ct.of (lv0 := [some (.ref (E.1 + 0)), some (.int (x)), some (.int (y))]) (by decide) (Nat.le_of_ble_eq_true rfl) rfl ?_
  intro X hXn hXE hXl hXL F hRt
  subst hXn hXE hXl
  have hL : ∀ i, i < 3 → i < X.nL := fun i h => by rw [hXL]; exact h
  have hP := hC.1
  have hT := hC.2.1
  have hPa := hC.2.2.1
  have hG := hA.1
  have hBd := hG.1
  have hWl := hG.2.1
  have hLm := hG.2.2.1
  have hB0 := hBd
  obtain ⟨b1, b2, b3, b4, b5, b6, b7⟩ := hB0
  refine j_aload_n F dX5_puts_0 rfl rfl ?_
  refine gX5_12 hn F dX5_puts_1 rfl ?_
  refine j_iload_n F dX5_puts_4 rfl rfl ?_
  refine j_iload_n F dX5_puts_5 rfl rfl ?_
  refine kX5_99 (isPl_1 hn) F (As := [.int (x), .int (y)]) (rest := []) (c_X2_hasSpot hn (isPl_1 hn) hP hBd x y) (by decide) rfl rfl (Nat.le_of_ble_eq_true rfl) dX5_puts_6 rfl (ro_k ?_)
  refine j_if_neB F (x := inR (x) A.P.W && inR (y) A.P.H) (tgt := 14) dX5_puts_9 (by decide) rfl (fun c_9 => ?_) (fun c_9 => ?_)
  · have hs0 := c_9
    obtain ⟨hsx, hsy⟩ := and_t c_9
    obtain ⟨j, hj, rfl⟩ := inR_t hsx (by omega)
    obtain ⟨i, hi, rfl⟩ := inR_t hsy (by omega)
    have hs1 : ¬ (inR (nI j) A.P.W && inR (nI i) A.P.H) = false := by rw [hs0]; decide
    refine j_aload_n F dX5_puts_14 rfl rfl ?_
    refine gX5_12 hn F dX5_puts_15 rfl ?_
    refine j_iload_n F dX5_puts_18 rfl rfl ?_
    refine j_iload_n F dX5_puts_19 rfl rfl ?_
    refine kX5_103 (isPl_1 hn) F (As := [.int (nI (j)), .int (nI (i))]) (rest := []) (c_X2_hasLampAt hn (isPl_1 hn) hP hBd hLm j i (by omega) (by omega)) (by decide) rfl rfl (Nat.le_of_ble_eq_true rfl) dX5_puts_20 rfl (ro_k ?_)
    refine j_if_eqB F (x := A.P.at j i) (tgt := 29) dX5_puts_23 (by decide) rfl (fun c_23 => ?_) (fun c_23 => ?_)
    · have c_23z : ¬ A.P.at (tn (nI j)) (tn (nI i)) = true := by rw [tn_n (by omega), tn_n (by omega), c_23]; decide
      refine j_aload_n F dX5_puts_29 rfl rfl ?_
      refine gX5_12 hn F dX5_puts_30 rfl ?_
      refine gX5_106 (isPl_1 hn) F dX5_puts_33 rfl ?_
      refine j_int (y := nI (A.P.nl)) (hP.nl) ?_
      refine j_bipush (v := nI (8)) F dX5_puts_36 rfl (by decide) ?_
      refine j_icmp_ltN (a := A.P.nl) (b := 8) F (by omega) (by omega) (tgt := 44) dX5_puts_38 (by decide) rfl (fun c_38 => ?_) (fun c_38 => ?_)
      · refine j_aload_n F dX5_puts_44 rfl rfl ?_
        refine gX5_29 hn F dX5_puts_45 rfl ?_
        refine j_aload_n F dX5_puts_48 rfl rfl ?_
        refine gX5_12 hn F dX5_puts_49 rfl ?_
        refine kX5_109 hn F (As := [.ref (X.E.1 + 1)]) (rest := []) (c_X1_remember hn hP hPa b6 b7) (by decide) rfl rfl (Nat.le_of_ble_eq_true rfl) dX5_puts_52 rfl (fun v_52 σ_52 q_52 => ?_)
        obtain ⟨rfl, h_52, f_52⟩ := q_52
        have hP_52 : PlanOK σ_52 1 A.P := hP.frame (f_52 1 (by decide)) (f_52 2 (by decide)) (f_52 3 (by decide))
        have hC_52 := CR_H hC f_52 h_52
        refine j_aload_n F dX5_puts_55 rfl rfl ?_
        refine gX5_12 hn F dX5_puts_56 rfl ?_
        refine j_iload_n F dX5_puts_59 rfl rfl ?_
        refine j_iload_n F dX5_puts_60 rfl rfl ?_
        refine kX5_112 (isPl_1 hn) F (As := [.int (nI (j)), .int (nI (i))]) (rest := []) (c_X2_addLamp hn (isPl_1 hn) hP_52 j i c_38) (by decide) rfl rfl (Nat.le_of_ble_eq_true rfl) dX5_puts_61 rfl (fun v_61 σ_61 q_61 => ?_)
        obtain ⟨rfl, p_61, f_61⟩ := q_61
        have hC_61 : CR σ_61 (A.setP (A.P.addL j i)) := CR_P hC_52 f_61 p_61
        have fc := (FrC.ring f_52).tr (FrC.of f_61 (by decide))
        refine j_aload_n F dX5_puts_64 rfl rfl ?_
        refine gX5_12 hn F dX5_puts_65 rfl ?_
        refine gX5_106 (isPl_1 hn) F dX5_puts_68 rfl ?_
        refine j_int (y := nI (((A.P.addL j i)).nl)) (p_61.nl) ?_
        exact j_iret F hRt rfl (oC_e (show o_puts A (nI j) (nI i) = (nI (A.P.nl + 1), A.setP (A.P.addL j i)) by unfold o_puts; rw [if_neg hs1, if_neg c_23z, if_neg (by omega), tn_n (by omega), tn_n (by omega)]) hC_61 fc) dX5_puts_71
      · refine j_bipush (v := (-3 : Int32)) F dX5_puts_41 rfl (by decide) ?_
        exact j_iret F hRt rfl (oC_e (show o_puts A (nI j) (nI i) = (-3, A) by unfold o_puts; rw [if_neg hs1, if_neg c_23z, if_pos (by omega)]) hC FrC.rf) dX5_puts_43
    · refine j_bipush (v := (-2 : Int32)) F dX5_puts_26 rfl (by decide) ?_
      exact j_iret F hRt rfl (oC_e (show o_puts A (nI j) (nI i) = (-2, A) by unfold o_puts; rw [if_neg hs1, tn_n (by omega), tn_n (by omega), if_pos c_23]) hC FrC.rf) dX5_puts_28
  · refine j_iconst (v := (-1 : Int32)) F dX5_puts_12 rfl (by decide) ?_
    exact j_iret F hRt rfl (oC_e (if_pos c_9) hC FrC.rf) dX5_puts_13

set_option maxRecDepth 10000 in
set_option maxHeartbeats 2000000 in
theorem c_X5_takes {l : Launch} {n : Nat} {E : Ev} {σ : St} {A : Ab} (hn : 55 ≤ n) (hA : AI A) (hC : CR σ A) (x : Int32) : Ct l yX5_takes cX5_takes 2 (some .int) 3 n E [.ref (E.1 + 0), .int (x)] σ (oC σ (o_takes A x)) := by
  refine Ct.of (lv0 := [some (.ref (E.1 + 0)), some (.int (x))]) (by decide) (Nat.le_of_ble_eq_true rfl) rfl ?_
  intro X hXn hXE hXl hXL F hRt
  subst hXn hXE hXl
  have hL : ∀ i, i < 2 → i < X.nL := fun i h => by rw [hXL]; exact h
  have hP := hC.1
  have hT := hC.2.1
  have hPa := hC.2.2.1
  have hG := hA.1
  have hBd := hG.1
  have hWl := hG.2.1
  have hLm := hG.2.2.1
  have hB0 := hBd
  obtain ⟨b1, b2, b3, b4, b5, b6, b7⟩ := hB0
  refine j_aload_n F dX5_takes_0 rfl rfl ?_
  refine gX5_12 hn F dX5_takes_1 rfl ?_
  refine j_iload_n F dX5_takes_4 rfl rfl ?_
  refine kX5_93 (isPl_1 hn) F (As := [.int (x)]) (rest := []) (c_X2_hasLamp hn (isPl_1 hn) hP hBd x) (by decide) rfl rfl (Nat.le_of_ble_eq_true rfl) dX5_takes_5 rfl (ro_k ?_)
  refine j_if_neB F (x := inR (x) A.P.nl) (tgt := 13) dX5_takes_8 (by decide) rfl (fun c_8 => ?_) (fun c_8 => ?_)
  · have hs0 := c_8
    obtain ⟨j, hj, rfl⟩ := inR_t c_8 (by omega)
    have hs1 : ¬ inR (nI j) A.P.nl = false := by rw [hs0]; decide
    refine j_aload_n F dX5_takes_13 rfl rfl ?_
    refine gX5_29 hn F dX5_takes_14 rfl ?_
    refine j_aload_n F dX5_takes_17 rfl rfl ?_
    refine gX5_12 hn F dX5_takes_18 rfl ?_
    refine kX5_109 hn F (As := [.ref (X.E.1 + 1)]) (rest := []) (c_X1_remember hn hP hPa b6 b7) (by decide) rfl rfl (Nat.le_of_ble_eq_true rfl) dX5_takes_21 rfl (fun v_21 σ_21 q_21 => ?_)
    obtain ⟨rfl, h_21, f_21⟩ := q_21
    have hP_21 : PlanOK σ_21 1 A.P := hP.frame (f_21 1 (by decide)) (f_21 2 (by decide)) (f_21 3 (by decide))
    have hC_21 := CR_H hC f_21 h_21
    refine j_aload_n F dX5_takes_24 rfl rfl ?_
    refine gX5_12 hn F dX5_takes_25 rfl ?_
    refine j_iload_n F dX5_takes_28 rfl rfl ?_
    refine kX5_115 (isPl_1 hn) F (As := [.int (nI (j))]) (rest := []) (c_X2_removeLamp hn (isPl_1 hn) hP_21 j hj b7) (by decide) rfl rfl (Nat.le_of_ble_eq_true rfl) dX5_takes_29 rfl (fun v_29 σ_29 q_29 => ?_)
    obtain ⟨rfl, p_29, f_29⟩ := q_29
    have hC_29 : CR σ_29 (A.setP (A.P.remL j)) := CR_P hC_21 f_29 p_29
    have fc := (FrC.ring f_21).tr (FrC.of f_29 (by decide))
    refine j_aload_n F dX5_takes_32 rfl rfl ?_
    refine gX5_12 hn F dX5_takes_33 rfl ?_
    refine gX5_106 (isPl_1 hn) F dX5_takes_36 rfl ?_
    refine j_int (y := nI (((A.P.remL j)).nl)) (p_29.nl) ?_
    exact j_iret F hRt rfl (oC_e (show o_takes A (nI j) = (nI (A.P.nl - 1), A.setP (A.P.remL j)) by unfold o_takes; rw [if_neg hs1, tn_n (by omega)]) hC_29 fc) dX5_takes_39
  · refine j_iconst (v := (-1 : Int32)) F dX5_takes_11 rfl (by decide) ?_
    exact j_iret F hRt rfl (oC_e (if_pos c_8) hC FrC.rf) dX5_takes_12

set_option maxRecDepth 10000 in
set_option maxHeartbeats 2000000 in
theorem c_X5_switches {l : Launch} {n : Nat} {E : Ev} {σ : St} {A : Ab} (hn : 55 ≤ n) (hA : AI A) (hC : CR σ A) (x : Int32) : Ct l yX5_switches cX5_switches 2 (some .int) 3 n E [.ref (E.1 + 0), .int (x)] σ (oC σ (o_switches A x)) := by
  refine Ct.of (lv0 := [some (.ref (E.1 + 0)), some (.int (x))]) (by decide) (Nat.le_of_ble_eq_true rfl) rfl ?_
  intro X hXn hXE hXl hXL F hRt
  subst hXn hXE hXl
  have hL : ∀ i, i < 2 → i < X.nL := fun i h => by rw [hXL]; exact h
  have hP := hC.1
  have hT := hC.2.1
  have hPa := hC.2.2.1
  have hG := hA.1
  have hBd := hG.1
  have hWl := hG.2.1
  have hLm := hG.2.2.1
  have hB0 := hBd
  obtain ⟨b1, b2, b3, b4, b5, b6, b7⟩ := hB0
  refine j_aload_n F dX5_switches_0 rfl rfl ?_
  refine gX5_12 hn F dX5_switches_1 rfl ?_
  refine j_iload_n F dX5_switches_4 rfl rfl ?_
  refine kX5_93 (isPl_1 hn) F (As := [.int (x)]) (rest := []) (c_X2_hasLamp hn (isPl_1 hn) hP hBd x) (by decide) rfl rfl (Nat.le_of_ble_eq_true rfl) dX5_switches_5 rfl (ro_k ?_)
  refine j_if_neB F (x := inR (x) A.P.nl) (tgt := 13) dX5_switches_8 (by decide) rfl (fun c_8 => ?_) (fun c_8 => ?_)
  · have hs0 := c_8
    obtain ⟨j, hj, rfl⟩ := inR_t c_8 (by omega)
    have hs1 : ¬ inR (nI j) A.P.nl = false := by rw [hs0]; decide
    refine j_aload_n F dX5_switches_13 rfl rfl ?_
    refine gX5_29 hn F dX5_switches_14 rfl ?_
    refine j_aload_n F dX5_switches_17 rfl rfl ?_
    refine gX5_12 hn F dX5_switches_18 rfl ?_
    refine kX5_109 hn F (As := [.ref (X.E.1 + 1)]) (rest := []) (c_X1_remember hn hP hPa b6 b7) (by decide) rfl rfl (Nat.le_of_ble_eq_true rfl) dX5_switches_21 rfl (fun v_21 σ_21 q_21 => ?_)
    obtain ⟨rfl, h_21, f_21⟩ := q_21
    have hP_21 : PlanOK σ_21 1 A.P := hP.frame (f_21 1 (by decide)) (f_21 2 (by decide)) (f_21 3 (by decide))
    have hC_21 := CR_H hC f_21 h_21
    refine j_aload_n F dX5_switches_24 rfl rfl ?_
    refine gX5_12 hn F dX5_switches_25 rfl ?_
    refine j_iload_n F dX5_switches_28 rfl rfl ?_
    refine kX5_119 (isPl_1 hn) F (As := [.int (nI (j))]) (rest := []) (c_X2_switchLamp hn (isPl_1 hn) hP_21 j hj b7 (hLm j hj).2.2) (by decide) rfl rfl (Nat.le_of_ble_eq_true rfl) dX5_switches_29 rfl (fun v_29 σ_29 q_29 => ?_)
    obtain ⟨rfl, p_29, f_29⟩ := q_29
    have hC_29 : CR σ_29 (A.setP (A.P.swL j)) := CR_P hC_21 f_29 p_29
    have fc := (FrC.ring f_21).tr (FrC.of f_29 (by decide))
    exact j_iret F hRt rfl (oC_e (show o_switches A (nI j) = (nI (1 - A.P.lp j 2), A.setP (A.P.swL j)) by unfold o_switches; rw [if_neg hs1, tn_n (by omega)]) hC_29 fc) dX5_switches_32
  · refine j_iconst (v := (-1 : Int32)) F dX5_switches_11 rfl (by decide) ?_
    exact j_iret F hRt rfl (oC_e (if_pos c_8) hC FrC.rf) dX5_switches_12

set_option maxRecDepth 10000 in
set_option maxHeartbeats 2000000 in
theorem c_X5_breaks {l : Launch} {n : Nat} {E : Ev} {σ : St} {A : Ab} (hn : 55 ≤ n) (hA : AI A) (hC : CR σ A) (x : Int32) : Ct l yX5_breaks cX5_breaks 2 (some .int) 3 n E [.ref (E.1 + 0), .int (x)] σ (oC σ (o_breaks A x)) := by
  refine Ct.of (lv0 := [some (.ref (E.1 + 0)), some (.int (x))]) (by decide) (Nat.le_of_ble_eq_true rfl) rfl ?_
  intro X hXn hXE hXl hXL F hRt
  subst hXn hXE hXl
  have hL : ∀ i, i < 2 → i < X.nL := fun i h => by rw [hXL]; exact h
  have hP := hC.1
  have hT := hC.2.1
  have hPa := hC.2.2.1
  have hG := hA.1
  have hBd := hG.1
  have hWl := hG.2.1
  have hLm := hG.2.2.1
  have hB0 := hBd
  obtain ⟨b1, b2, b3, b4, b5, b6, b7⟩ := hB0
  refine j_aload_n F dX5_breaks_0 rfl rfl ?_
  refine gX5_12 hn F dX5_breaks_1 rfl ?_
  refine j_iload_n F dX5_breaks_4 rfl rfl ?_
  refine kX5_134 (isPl_1 hn) F (As := [.int (x)]) (rest := []) (c_X2_hasInnerWall hn (isPl_1 hn) hP hBd x) (by decide) rfl rfl (Nat.le_of_ble_eq_true rfl) dX5_breaks_5 rfl (ro_k ?_)
  refine j_if_neB F (x := in4 (x) A.P.nw) (tgt := 13) dX5_breaks_8 (by decide) rfl (fun c_8 => ?_) (fun c_8 => ?_)
  · have hs0 := c_8
    obtain ⟨j, hj4, hj, rfl⟩ := in4_t c_8 (by omega)
    have hs1 : ¬ in4 (nI j) A.P.nw = false := by rw [hs0]; decide
    refine j_aload_n F dX5_breaks_13 rfl rfl ?_
    refine gX5_29 hn F dX5_breaks_14 rfl ?_
    refine j_aload_n F dX5_breaks_17 rfl rfl ?_
    refine gX5_12 hn F dX5_breaks_18 rfl ?_
    refine kX5_109 hn F (As := [.ref (X.E.1 + 1)]) (rest := []) (c_X1_remember hn hP hPa b6 b7) (by decide) rfl rfl (Nat.le_of_ble_eq_true rfl) dX5_breaks_21 rfl (fun v_21 σ_21 q_21 => ?_)
    obtain ⟨rfl, h_21, f_21⟩ := q_21
    have hP_21 : PlanOK σ_21 1 A.P := hP.frame (f_21 1 (by decide)) (f_21 2 (by decide)) (f_21 3 (by decide))
    have hC_21 := CR_H hC f_21 h_21
    refine j_aload_n F dX5_breaks_24 rfl rfl ?_
    refine gX5_12 hn F dX5_breaks_25 rfl ?_
    refine j_iload_n F dX5_breaks_28 rfl rfl ?_
    refine kX5_137 (isPl_1 hn) F (As := [.int (nI (j))]) (rest := []) (c_X2_removeWall hn (isPl_1 hn) hP_21 j hj b6) (by decide) rfl rfl (Nat.le_of_ble_eq_true rfl) dX5_breaks_29 rfl (fun v_29 σ_29 q_29 => ?_)
    obtain ⟨rfl, p_29, f_29⟩ := q_29
    have hC_29 : CR σ_29 (A.setP (A.P.remW j)) := CR_P hC_21 f_29 p_29
    have fc := (FrC.ring f_21).tr (FrC.of f_29 (by decide))
    refine j_aload_n F dX5_breaks_32 rfl rfl ?_
    refine gX5_12 hn F dX5_breaks_33 rfl ?_
    refine gX5_127 (isPl_1 hn) F dX5_breaks_36 rfl ?_
    refine j_int (y := nI (((A.P.remW j)).nw)) (p_29.nw) ?_
    exact j_iret F hRt rfl (oC_e (show o_breaks A (nI j) = (nI (A.P.nw - 1), A.setP (A.P.remW j)) by unfold o_breaks; rw [if_neg hs1, tn_n (by omega)]) hC_29 fc) dX5_breaks_39
  · refine j_iconst (v := (-1 : Int32)) F dX5_breaks_11 rfl (by decide) ?_
    exact j_iret F hRt rfl (oC_e (if_pos c_8) hC FrC.rf) dX5_breaks_12

set_option maxRecDepth 10000 in
set_option maxHeartbeats 2000000 in
theorem c_X5_builds {l : Launch} {n : Nat} {E : Ev} {σ : St} {A : Ab} (hn : 55 ≤ n) (hA : AI A) (hC : CR σ A) (x y len u : Int32) : Ct l yX5_builds cX5_builds 5 (some .int) 3 n E [.ref (E.1 + 0), .int (x), .int (y), .int (len), .int (u)] σ (oC σ (o_builds A x y len u)) := by
  refine Ct.of (lv0 := [some (.ref (E.1 + 0)), some (.int (x)), some (.int (y)), some (.int (len)), some (.int (u))]) (by decide) (Nat.le_of_ble_eq_true rfl) rfl ?_
  intro X hXn hXE hXl hXL F hRt
  subst hXn hXE hXl
  have hL : ∀ i, i < 5 → i < X.nL := fun i h => by rw [hXL]; exact h
  have hP := hC.1
  have hT := hC.2.1
  have hPa := hC.2.2.1
  have hG := hA.1
  have hBd := hG.1
  have hWl := hG.2.1
  have hLm := hG.2.2.1
  have hB0 := hBd
  obtain ⟨b1, b2, b3, b4, b5, b6, b7⟩ := hB0
  refine j_aload_n F dX5_builds_0 rfl rfl ?_
  refine gX5_12 hn F dX5_builds_1 rfl ?_
  refine j_iload_n F dX5_builds_4 rfl rfl ?_
  refine j_iload_n F dX5_builds_5 rfl rfl ?_
  refine j_iload_n F dX5_builds_6 rfl rfl ?_
  refine j_iload F dX5_builds_7 rfl rfl ?_
  refine kX5_123 (isPl_1 hn) F (As := [.int (x), .int (y), .int (len), .int (u)]) (rest := []) (c_X2_canHoldWall hn (isPl_1 hn) hP hBd x y len u) (by decide) rfl rfl (Nat.le_of_ble_eq_true rfl) dX5_builds_9 rfl (ro_k ?_)
  refine j_if_neB F (x := canW A.P x y len u) (tgt := 17) dX5_builds_12 (by decide) rfl (fun c_12 => ?_) (fun c_12 => ?_)
  · have hs0 := c_12
    obtain ⟨jx, jy, jl, ju, rfl, rfl, rfl, rfl, hw1, hw2, hw3, hw4, hw5, hw6⟩ := canW_t c_12 hBd
    have hs1 : ¬ canW A.P (nI jx) (nI jy) (nI jl) (nI ju) = false := by rw [hs0]; decide
    refine j_aload_n F dX5_builds_17 rfl rfl ?_
    refine gX5_12 hn F dX5_builds_18 rfl ?_
    refine gX5_127 (isPl_1 hn) F dX5_builds_21 rfl ?_
    refine j_int (y := nI (A.P.nw)) (hP.nw) ?_
    refine j_bipush (v := nI (14)) F dX5_builds_24 rfl (by decide) ?_
    refine j_icmp_ltN (a := A.P.nw) (b := 14) F (by omega) (by omega) (tgt := 32) dX5_builds_26 (by decide) rfl (fun c_26 => ?_) (fun c_26 => ?_)
    · refine j_aload_n F dX5_builds_32 rfl rfl ?_
      refine gX5_29 hn F dX5_builds_33 rfl ?_
      refine j_aload_n F dX5_builds_36 rfl rfl ?_
      refine gX5_12 hn F dX5_builds_37 rfl ?_
      refine kX5_109 hn F (As := [.ref (X.E.1 + 1)]) (rest := []) (c_X1_remember hn hP hPa b6 b7) (by decide) rfl rfl (Nat.le_of_ble_eq_true rfl) dX5_builds_40 rfl (fun v_40 σ_40 q_40 => ?_)
      obtain ⟨rfl, h_40, f_40⟩ := q_40
      have hP_40 : PlanOK σ_40 1 A.P := hP.frame (f_40 1 (by decide)) (f_40 2 (by decide)) (f_40 3 (by decide))
      have hC_40 := CR_H hC f_40 h_40
      refine j_aload_n F dX5_builds_43 rfl rfl ?_
      refine gX5_12 hn F dX5_builds_44 rfl ?_
      refine j_iload_n F dX5_builds_47 rfl rfl ?_
      refine j_iload_n F dX5_builds_48 rfl rfl ?_
      refine j_iload_n F dX5_builds_49 rfl rfl ?_
      refine j_iload F dX5_builds_50 rfl rfl ?_
      refine kX5_130 (isPl_1 hn) F (As := [.int (nI (jx)), .int (nI (jy)), .int (nI (jl)), .int (nI (ju))]) (rest := []) (c_X2_addWall hn (isPl_1 hn) hP_40 jx jy jl ju c_26) (by decide) rfl rfl (Nat.le_of_ble_eq_true rfl) dX5_builds_52 rfl (fun v_52 σ_52 q_52 => ?_)
      obtain ⟨rfl, p_52, f_52⟩ := q_52
      have hC_52 : CR σ_52 (A.setP (A.P.addW jx jy jl ju)) := CR_P hC_40 f_52 p_52
      have fc := (FrC.ring f_40).tr (FrC.of f_52 (by decide))
      refine j_aload_n F dX5_builds_55 rfl rfl ?_
      refine gX5_12 hn F dX5_builds_56 rfl ?_
      refine gX5_127 (isPl_1 hn) F dX5_builds_59 rfl ?_
      refine j_int (y := nI (((A.P.addW jx jy jl ju)).nw)) (p_52.nw) ?_
      exact j_iret F hRt rfl (oC_e (show o_builds A (nI jx) (nI jy) (nI jl) (nI ju) = (nI (A.P.nw + 1), A.setP (A.P.addW jx jy jl ju)) by unfold o_builds; rw [if_neg hs1, if_neg (by omega), tn_n (by omega), tn_n (by omega), tn_n (by omega), tn_n (by omega)]) hC_52 fc) dX5_builds_62
    · refine j_bipush (v := (-3 : Int32)) F dX5_builds_29 rfl (by decide) ?_
      exact j_iret F hRt rfl (oC_e (show o_builds A (nI jx) (nI jy) (nI jl) (nI ju) = (-3, A) by unfold o_builds; rw [if_neg hs1, if_pos (by omega)]) hC FrC.rf) dX5_builds_31
  · refine j_iconst (v := (-1 : Int32)) F dX5_builds_15 rfl (by decide) ?_
    exact j_iret F hRt rfl (oC_e (if_pos c_12) hC FrC.rf) dX5_builds_16

set_option maxRecDepth 10000 in
set_option maxHeartbeats 2000000 in
theorem c_X5_undo {l : Launch} {n : Nat} {E : Ev} {σ : St} {A : Ab} (hn : 55 ≤ n) (hA : AI A) (hC : CR σ A) : Ct l yX5_undo cX5_undo 1 (some .int) 3 n E [.ref (E.1 + 0)] σ (oC σ (o_undo A)) := by
  refine Ct.of (lv0 := [some (.ref (E.1 + 0))]) (by decide) (Nat.le_of_ble_eq_true rfl) rfl ?_
  intro X hXn hXE hXl hXL F hRt
  subst hXn hXE hXl
  have hL : ∀ i, i < 1 → i < X.nL := fun i h => by rw [hXL]; exact h
  have hP := hC.1
  have hT := hC.2.1
  have hPa := hC.2.2.1
  have hG := hA.1
  have hBd := hG.1
  have hWl := hG.2.1
  have hLm := hG.2.2.1
  have hB0 := hBd
  obtain ⟨b1, b2, b3, b4, b5, b6, b7⟩ := hB0
  refine j_aload_n F dX5_undo_0 rfl rfl ?_
  refine gX5_29 hn F dX5_undo_1 rfl ?_
  refine gX5_79 hn F dX5_undo_4 rfl ?_
  refine j_int (y := nI (A.hs.length)) (by obtain ⟨_, _, _, z, _⟩ := hPa; exact z) ?_
  refine j_if_gtN (a := A.hs.length) F (by obtain ⟨_, _, _, _, z, _⟩ := hPa; omega) (tgt := 13) dX5_undo_7 (by decide) rfl (fun c_7 => ?_) (fun c_7 => ?_)
  · obtain ⟨Q, r0, hq⟩ : ∃ Q r0, A.hs = Q :: r0 := by cases hh : A.hs with | nil => rw [hh] at c_7; exact absurd c_7 (by decide) | cons Q r0 => exact ⟨Q, r0, rfl⟩
    have hQ := (hA.2.1 Q (by rw [hq]; exact List.mem_cons_self)).1.1
    refine j_aload_n F dX5_undo_13 rfl rfl ?_
    refine gX5_29 hn F dX5_undo_14 rfl ?_
    refine j_aload_n F dX5_undo_17 rfl rfl ?_
    refine gX5_12 hn F dX5_undo_18 rfl ?_
    refine kX5_140 hn F (As := [.ref (X.E.1 + 1)]) (rest := []) (c_X1_restore hn (by rw [hq] at hPa; exact hPa) hQ.2.2.2.2.2.1 hQ.2.2.2.2.2.2) (by decide) rfl rfl (Nat.le_of_ble_eq_true rfl) dX5_undo_21 rfl (fun v_21 σ_21 q_21 => ?_)
    obtain ⟨rfl, h_21, p_21, f_21⟩ := q_21
    refine j_aload_n F dX5_undo_24 rfl rfl ?_
    refine gX5_29 hn F dX5_undo_25 rfl ?_
    refine gX5_79 hn F dX5_undo_28 rfl ?_
    refine j_int (y := nI (r0.length)) (by obtain ⟨_, _, _, z, _⟩ := h_21; exact z) ?_
    exact j_iret F hRt rfl (oC_e (show o_undo A = (nI r0.length, (Q, A.t, A.m, r0, A.im, A.sn)) by unfold o_undo; rw [hq]) ⟨p_21, hT.eq (f_21 7 (by decide)) (f_21 8 (by decide)), h_21, hC.2.2.2.1.eq (f_21 47 (by decide)) (fun a h1 h2 => f_21 a (by simp only [List.mem_cons, List.not_mem_nil, or_false]; omega)), hC.2.2.2.2.eq (f_21 0 (by decide)) (f_21 48 (by decide))⟩ (FrC.of f_21 (by decide))) dX5_undo_31
  · have hz : A.hs = [] := List.length_eq_zero_iff.mp c_7
    refine j_bipush (v := (-2 : Int32)) F dX5_undo_10 rfl (by decide) ?_
    exact j_iret F hRt rfl (oC_e (show o_undo A = (-2, A) by unfold o_undo; rw [hz]) hC FrC.rf) dX5_undo_12

set_option maxRecDepth 10000 in
set_option maxHeartbeats 2000000 in
theorem c_X5_lit {l : Launch} {n : Nat} {E : Ev} {σ : St} {A : Ab} (hn : 55 ≤ n) (hA : AI A) (hC : CR σ A) (l0 x y : Int32) : Ct l yX5_lit cX5_lit 4 (some .int) 4 n E [.ref (E.1 + 0), .int (l0), .int (x), .int (y)] σ (oC σ (o_lit A l0 x y)) := by
  refine Ct.of (lv0 := [some (.ref (E.1 + 0)), some (.int (l0)), some (.int (x)), some (.int (y))]) (by decide) (Nat.le_of_ble_eq_true rfl) rfl ?_
  intro X hXn hXE hXl hXL F hRt
  subst hXn hXE hXl
  have hL : ∀ i, i < 4 → i < X.nL := fun i h => by rw [hXL]; exact h
  have hP := hC.1
  have hT := hC.2.1
  have hPa := hC.2.2.1
  have hG := hA.1
  have hBd := hG.1
  have hWl := hG.2.1
  have hLm := hG.2.2.1
  have hB0 := hBd
  obtain ⟨b1, b2, b3, b4, b5, b6, b7⟩ := hB0
  refine j_aload_n F dX5_lit_0 rfl rfl ?_
  refine gX5_12 hn F dX5_lit_1 rfl ?_
  refine j_iload_n F dX5_lit_4 rfl rfl ?_
  refine kX5_93 (isPl_1 hn) F (As := [.int (l0)]) (rest := []) (c_X2_hasLamp hn (isPl_1 hn) hP hBd l0) (by decide) rfl rfl (Nat.le_of_ble_eq_true rfl) dX5_lit_5 rfl (ro_k ?_)
  refine j_if_eqB F (x := inR (l0) A.P.nl) (tgt := 23) dX5_lit_8 (by decide) rfl (fun c_8 => ?_) (fun c_8 => ?_)
  · have hz : ¬ (inR l0 A.P.nl = true ∧ (inR x A.P.W && inR y A.P.H) = true) := fun q => by rw [c_8] at q; exact absurd q.1 (by decide)
    refine j_iconst (v := (-1 : Int32)) F dX5_lit_23 rfl (by decide) ?_
    exact j_iret F hRt rfl (oC_q (if_neg hz) hC FrC.rf) dX5_lit_24
  · refine j_aload_n F dX5_lit_11 rfl rfl ?_
    refine gX5_12 hn F dX5_lit_12 rfl ?_
    refine j_iload_n F dX5_lit_15 rfl rfl ?_
    refine j_iload_n F dX5_lit_16 rfl rfl ?_
    refine kX5_99 (isPl_1 hn) F (As := [.int (x), .int (y)]) (rest := []) (c_X2_hasSpot hn (isPl_1 hn) hP hBd x y) (by decide) rfl rfl (Nat.le_of_ble_eq_true rfl) dX5_lit_17 rfl (ro_k ?_)
    refine j_if_neB F (x := inR (x) A.P.W && inR (y) A.P.H) (tgt := 25) dX5_lit_20 (by decide) rfl (fun c_20 => ?_) (fun c_20 => ?_)
    · have hz : inR l0 A.P.nl = true ∧ (inR x A.P.W && inR y A.P.H) = true := ⟨c_8, c_20⟩
      obtain ⟨hsx, hsy⟩ := and_t c_20
      obtain ⟨k, hk, rfl⟩ := inR_t c_8 (by omega)
      obtain ⟨j, hj, rfl⟩ := inR_t hsx (by omega)
      obtain ⟨i, hi, rfl⟩ := inR_t hsy (by omega)
      have hlo := hLm k hk
      unfold LampOK at hlo
      refine j_aload_n F dX5_lit_25 rfl rfl ?_
      refine gX5_12 hn F dX5_lit_26 rfl ?_
      refine j_aload_n F dX5_lit_29 rfl rfl ?_
      refine gX5_12 hn F dX5_lit_30 rfl ?_
      refine j_iload_n F dX5_lit_33 rfl rfl ?_
      refine j_iconst (v := nI (0)) F dX5_lit_34 rfl (by decide) ?_
      refine kX5_96 (isPl_1 hn) F (As := [.int (nI (k)), .int (nI (0))]) (rest := [.ref (X.E.1 + 1)]) (c_X2_lampPart hn (isPl_1 hn) hP hBd k 0 (by omega) (by decide)) (by decide) rfl rfl (Nat.le_of_ble_eq_true rfl) dX5_lit_35 rfl (ro_k ?_)
      refine j_aload_n F dX5_lit_38 rfl rfl ?_
      refine gX5_12 hn F dX5_lit_39 rfl ?_
      refine j_iload_n F dX5_lit_42 rfl rfl ?_
      refine j_iconst (v := nI (1)) F dX5_lit_43 rfl (by decide) ?_
      refine kX5_96 (isPl_1 hn) F (As := [.int (nI (k)), .int (nI (1))]) (rest := [.int (nI (A.P.lp k 0)), .ref (X.E.1 + 1)]) (c_X2_lampPart hn (isPl_1 hn) hP hBd k 1 (by omega) (by decide)) (by decide) rfl rfl (Nat.le_of_ble_eq_true rfl) dX5_lit_44 rfl (ro_k ?_)
      refine j_iload_n F dX5_lit_47 rfl rfl ?_
      refine j_iload_n F dX5_lit_48 rfl rfl ?_
      refine j_bipush (v := (-9 : Int32)) F dX5_lit_49 rfl (by decide) ?_
      refine kX5_143 F (As := [.ref (X.E.1 + 1), .int (nI (A.P.lp k 0)), .int (nI (A.P.lp k 1)), .int (nI (j)), .int (nI (i)), .int ((-9 : Int32))]) (rest := []) (c_X0_isFree hn (isPl_1 hn) hP hBd hWl (A.P.lp k 0) (A.P.lp k 1) j i ((-9 : Int32)) (by omega) (by omega) (by omega) (by omega)) (by decide) rfl rfl (Nat.le_of_ble_eq_true rfl) dX5_lit_51 rfl (ro_k ?_)
      refine j_if_eqB F (x := A.P.free (A.P.lp k 0) (A.P.lp k 1) j i ((-9 : Int32))) (tgt := 61) dX5_lit_54 (by decide) rfl (fun c_54 => ?_) (fun c_54 => ?_)
      · refine j_iconst (v := nI (0)) F dX5_lit_61 rfl (by decide) ?_
        exact j_iret F hRt rfl (oC_q (by rw [if_pos hz, tn_n (by omega), tn_n (by omega), tn_n (by omega), c_54]; rfl) hC FrC.rf) dX5_lit_62
      · refine j_iconst (v := nI (1)) F dX5_lit_57 rfl (by decide) ?_
        refine j_goto (pc' := 62) F dX5_lit_58 (by decide) ?_
        exact j_iret F hRt rfl (oC_q (by rw [if_pos hz, tn_n (by omega), tn_n (by omega), tn_n (by omega), c_54]; rfl) hC FrC.rf) dX5_lit_62
    · have hz : ¬ (inR l0 A.P.nl = true ∧ (inR x A.P.W && inR y A.P.H) = true) := fun q => by rw [c_20] at q; exact absurd q.2 (by decide)
      refine j_iconst (v := (-1 : Int32)) F dX5_lit_23 rfl (by decide) ?_
      exact j_iret F hRt rfl (oC_q (if_neg hz) hC FrC.rf) dX5_lit_24

set_option maxRecDepth 10000 in
set_option maxHeartbeats 2000000 in
theorem c_X5_by {l : Launch} {n : Nat} {E : Ev} {σ : St} {A : Ab} (hn : 55 ≤ n) (hA : AI A) (hC : CR σ A) (x y : Int32) : Ct l yX5_by cX5_by 3 (some .int) 6 n E [.ref (E.1 + 0), .int (x), .int (y)] σ (oC σ (o_by A x y)) := by
  refine Ct.of (lv0 := [some (.ref (E.1 + 0)), some (.int (x)), some (.int (y))]) (by decide) (Nat.le_of_ble_eq_true rfl) rfl ?_
  intro X hXn hXE hXl hXL F hRt
  subst hXn hXE hXl
  have hL : ∀ i, i < 3 → i < X.nL := fun i h => by rw [hXL]; exact h
  have hP := hC.1
  have hT := hC.2.1
  have hPa := hC.2.2.1
  have hG := hA.1
  have hBd := hG.1
  have hWl := hG.2.1
  have hLm := hG.2.2.1
  have hB0 := hBd
  obtain ⟨b1, b2, b3, b4, b5, b6, b7⟩ := hB0
  refine j_aload_n F dX5_by_0 rfl rfl ?_
  refine gX5_12 hn F dX5_by_1 rfl ?_
  refine j_iload_n F dX5_by_4 rfl rfl ?_
  refine j_iload_n F dX5_by_5 rfl rfl ?_
  refine kX5_99 (isPl_1 hn) F (As := [.int (x), .int (y)]) (rest := []) (c_X2_hasSpot hn (isPl_1 hn) hP hBd x y) (by decide) rfl rfl (Nat.le_of_ble_eq_true rfl) dX5_by_6 rfl (ro_k ?_)
  refine j_if_neB F (x := inR (x) A.P.W && inR (y) A.P.H) (tgt := 14) dX5_by_9 (by decide) rfl (fun c_9 => ?_) (fun c_9 => ?_)
  · have hz := c_9
    obtain ⟨hsx, hsy⟩ := and_t c_9
    obtain ⟨j, hj, rfl⟩ := inR_t hsx (by omega)
    obtain ⟨i, hi, rfl⟩ := inR_t hsy (by omega)
    refine j_aload_n F dX5_by_14 rfl rfl ?_
    refine gX5_12 hn F dX5_by_15 rfl ?_
    refine j_iload_n F dX5_by_18 rfl rfl ?_
    refine j_iload_n F dX5_by_19 rfl rfl ?_
    refine kX5_147 F (As := [.ref (X.E.1 + 1), .int (nI (j)), .int (nI (i))]) (rest := []) (c_X0_lampsOnAt hn (isPl_1 hn) hP hBd hWl hLm j i (by omega) (by omega)) (by decide) rfl rfl (Nat.le_of_ble_eq_true rfl) dX5_by_20 rfl (ro_k ?_)
    exact j_iret F hRt rfl (oC_q (by rw [if_pos hz, tn_n (by omega), tn_n (by omega)]) hC FrC.rf) dX5_by_23
  · have hz : ¬ (inR x A.P.W && inR y A.P.H) = true := by rw [c_9]; decide
    refine j_iconst (v := (-1 : Int32)) F dX5_by_12 rfl (by decide) ?_
    exact j_iret F hRt rfl (oC_q (if_neg hz) hC FrC.rf) dX5_by_13

set_option maxRecDepth 10000 in
set_option maxHeartbeats 2000000 in
theorem c_X5_lights {l : Launch} {n : Nat} {E : Ev} {σ : St} {A : Ab} (hn : 55 ≤ n) (hA : AI A) (hC : CR σ A) (x : Int32) : Ct l yX5_lights cX5_lights 2 (some .int) 7 n E [.ref (E.1 + 0), .int (x)] σ (oC σ (o_lights A x)) := by
  refine Ct.of (lv0 := [some (.ref (E.1 + 0)), some (.int (x))]) (by decide) (Nat.le_of_ble_eq_true rfl) rfl ?_
  intro X hXn hXE hXl hXL F hRt
  subst hXn hXE hXl
  have hL : ∀ i, i < 2 → i < X.nL := fun i h => by rw [hXL]; exact h
  have hP := hC.1
  have hT := hC.2.1
  have hPa := hC.2.2.1
  have hG := hA.1
  have hBd := hG.1
  have hWl := hG.2.1
  have hLm := hG.2.2.1
  have hB0 := hBd
  obtain ⟨b1, b2, b3, b4, b5, b6, b7⟩ := hB0
  refine j_aload_n F dX5_lights_0 rfl rfl ?_
  refine gX5_12 hn F dX5_lights_1 rfl ?_
  refine j_iload_n F dX5_lights_4 rfl rfl ?_
  refine kX5_93 (isPl_1 hn) F (As := [.int (x)]) (rest := []) (c_X2_hasLamp hn (isPl_1 hn) hP hBd x) (by decide) rfl rfl (Nat.le_of_ble_eq_true rfl) dX5_lights_5 rfl (ro_k ?_)
  refine j_if_neB F (x := inR (x) A.P.nl) (tgt := 13) dX5_lights_8 (by decide) rfl (fun c_8 => ?_) (fun c_8 => ?_)
  · have hz := c_8
    obtain ⟨j, hj, rfl⟩ := inR_t c_8 (by omega)
    have hpw : 2 ^ j < 512 := Nat.pow_lt_pow_right (by decide) (show j < 9 by omega)
    refine j_aload_n F dX5_lights_13 rfl rfl ?_
    refine gX5_36 hn F dX5_lights_14 rfl ?_
    refine j_aload_n F dX5_lights_17 rfl rfl ?_
    refine gX5_12 hn F dX5_lights_18 rfl ?_
    refine j_iconst (v := nI (1)) F dX5_lights_21 rfl (by decide) ?_
    refine j_iload_n F dX5_lights_22 rfl rfl ?_
    refine j_ishl F dX5_lights_23 rfl ?_
    refine j_int (y := nI (2 ^ j)) (sh_n (Nat.le_refl 1) (by omega)) ?_
    refine j_bipush (v := (-9 : Int32)) F dX5_lights_24 rfl (by decide) ?_
    refine kX5_151 hn F (As := [.ref (X.E.1 + 1), .int (nI (2 ^ j)), .int ((-9 : Int32))]) (rest := []) (c_X0_spotsLitBy hn hP hBd hWl hLm (2 ^ j) ((-9 : Int32)) (by omega)) (by decide) rfl rfl (Nat.le_of_ble_eq_true rfl) dX5_lights_26 rfl (fun v_26 σ_26 q_26 => ?_)
    obtain ⟨rfl, f_26⟩ := q_26
    have hP_26 : PlanOK σ_26 1 A.P := hP.frame (f_26 1 (by decide)) (f_26 2 (by decide)) (f_26 3 (by decide))
    exact j_iret F hRt rfl (oC_q (by rw [if_pos hz, tn_n (by omega)]) (CR_scr hC (f_26.sub (by decide))) (FrC.of f_26 (by decide))) dX5_lights_29
  · have hz : ¬ inR x A.P.nl = true := by rw [c_8]; decide
    refine j_iconst (v := (-1 : Int32)) F dX5_lights_11 rfl (by decide) ?_
    exact j_iret F hRt rfl (oC_q (if_neg hz) hC FrC.rf) dX5_lights_12

set_option maxRecDepth 10000 in
set_option maxHeartbeats 2000000 in
theorem c_X5_all {l : Launch} {n : Nat} {E : Ev} {σ : St} {A : Ab} (hn : 55 ≤ n) (hA : AI A) (hC : CR σ A) : Ct l yX5_all cX5_all 1 (some .int) 7 n E [.ref (E.1 + 0)] σ (oC σ (o_all A)) := by
  refine Ct.of (lv0 := [some (.ref (E.1 + 0))]) (by decide) (Nat.le_of_ble_eq_true rfl) rfl ?_
  intro X hXn hXE hXl hXL F hRt
  subst hXn hXE hXl
  have hL : ∀ i, i < 1 → i < X.nL := fun i h => by rw [hXL]; exact h
  have hP := hC.1
  have hT := hC.2.1
  have hPa := hC.2.2.1
  have hG := hA.1
  have hBd := hG.1
  have hWl := hG.2.1
  have hLm := hG.2.2.1
  have hB0 := hBd
  obtain ⟨b1, b2, b3, b4, b5, b6, b7⟩ := hB0
  have hon : A.P.on < 256 := Bt_le b7
  refine j_aload_n F dX5_all_0 rfl rfl ?_
  refine gX5_36 hn F dX5_all_1 rfl ?_
  refine j_aload_n F dX5_all_4 rfl rfl ?_
  refine gX5_12 hn F dX5_all_5 rfl ?_
  refine j_aload_n F dX5_all_8 rfl rfl ?_
  refine gX5_12 hn F dX5_all_9 rfl ?_
  refine kX5_154 (isPl_1 hn) F (As := []) (rest := [.ref (X.E.1 + 1), .ref (X.E.1 + 41)]) (c_X2_lampsOn hn (isPl_1 hn) hP hBd hLm) (by decide) rfl rfl (Nat.le_of_ble_eq_true rfl) dX5_all_12 rfl (ro_k ?_)
  refine j_bipush (v := (-9 : Int32)) F dX5_all_15 rfl (by decide) ?_
  refine kX5_151 hn F (As := [.ref (X.E.1 + 1), .int (nI (A.P.on)), .int ((-9 : Int32))]) (rest := []) (c_X0_spotsLitBy hn hP hBd hWl hLm A.P.on ((-9 : Int32)) (by omega)) (by decide) rfl rfl (Nat.le_of_ble_eq_true rfl) dX5_all_17 rfl (fun v_17 σ_17 q_17 => ?_)
  obtain ⟨rfl, f_17⟩ := q_17
  have hP_17 : PlanOK σ_17 1 A.P := hP.frame (f_17 1 (by decide)) (f_17 2 (by decide)) (f_17 3 (by decide))
  exact j_iret F hRt rfl (oC_e rfl (CR_scr hC (f_17.sub (by decide))) (FrC.of f_17 (by decide))) dX5_all_20

set_option maxRecDepth 10000 in
set_option maxHeartbeats 2000000 in
theorem c_X5_count {l : Launch} {n : Nat} {E : Ev} {σ : St} {A : Ab} (hn : 55 ≤ n) (hA : AI A) (hC : CR σ A) (x : Int32) : Ct l yX5_count cX5_count 2 (some .int) 0 n E [.ref (E.1 + 0), .int (x)] σ (oC σ (o_count A x)) := by
  refine Ct.of (lv0 := [some (.ref (E.1 + 0)), some (.int (x))]) (by decide) (Nat.le_of_ble_eq_true rfl) rfl ?_
  intro X hXn hXE hXl hXL F hRt
  subst hXn hXE hXl
  have hL : ∀ i, i < 2 → i < X.nL := fun i h => by rw [hXL]; exact h
  have hP := hC.1
  have hT := hC.2.1
  have hPa := hC.2.2.1
  have hG := hA.1
  have hBd := hG.1
  have hWl := hG.2.1
  have hLm := hG.2.2.1
  have hB0 := hBd
  obtain ⟨b1, b2, b3, b4, b5, b6, b7⟩ := hB0
  refine j_iload_n F dX5_count_0 rfl rfl ?_
  by_cases s0 : x = 0
  · refine j_tableIn F (tgt := 44) (off := 43) dX5_count_1 (by rw [s0]; decide) (by rw [s0]; decide) (by rw [s0]; decide) (by decide) ?_
    refine j_aload_n F dX5_count_44 rfl rfl ?_
    refine gX5_12 hn F dX5_count_45 rfl ?_
    refine gX5_198 (isPl_1 hn) F dX5_count_48 rfl ?_
    refine j_int (y := nI (A.P.W)) (hP.w) ?_
    exact j_iret F hRt rfl (oC_q (by rw [if_pos s0]) hC FrC.rf) dX5_count_51
  · skip
    by_cases s1 : x = nI 1
    · refine j_tableIn F (tgt := 52) (off := 51) dX5_count_1 (by rw [s1]; decide) (by rw [s1]; decide) (by rw [s1]; decide) (by decide) ?_
      refine j_aload_n F dX5_count_52 rfl rfl ?_
      refine gX5_12 hn F dX5_count_53 rfl ?_
      refine gX5_195 (isPl_1 hn) F dX5_count_56 rfl ?_
      refine j_int (y := nI (A.P.H)) (hP.h) ?_
      exact j_iret F hRt rfl (oC_q (by rw [if_neg s0, if_pos s1]) hC FrC.rf) dX5_count_59
    · skip
      by_cases s2 : x = nI 2
      · refine j_tableIn F (tgt := 60) (off := 59) dX5_count_1 (by rw [s2]; decide) (by rw [s2]; decide) (by rw [s2]; decide) (by decide) ?_
        refine j_aload_n F dX5_count_60 rfl rfl ?_
        refine gX5_12 hn F dX5_count_61 rfl ?_
        refine gX5_127 (isPl_1 hn) F dX5_count_64 rfl ?_
        refine j_int (y := nI (A.P.nw)) (hP.nw) ?_
        exact j_iret F hRt rfl (oC_q (by rw [if_neg s0, if_neg s1, if_pos s2]) hC FrC.rf) dX5_count_67
      · skip
        by_cases s3 : x = nI 3
        · refine j_tableIn F (tgt := 68) (off := 67) dX5_count_1 (by rw [s3]; decide) (by rw [s3]; decide) (by rw [s3]; decide) (by decide) ?_
          refine j_aload_n F dX5_count_68 rfl rfl ?_
          refine gX5_12 hn F dX5_count_69 rfl ?_
          refine gX5_106 (isPl_1 hn) F dX5_count_72 rfl ?_
          refine j_int (y := nI (A.P.nl)) (hP.nl) ?_
          exact j_iret F hRt rfl (oC_q (by rw [if_neg s0, if_neg s1, if_neg s2, if_pos s3]) hC FrC.rf) dX5_count_75
        · skip
          by_cases s4 : x = nI 4
          · refine j_tableIn F (tgt := 76) (off := 75) dX5_count_1 (by rw [s4]; decide) (by rw [s4]; decide) (by rw [s4]; decide) (by decide) ?_
            refine j_aload_n F dX5_count_76 rfl rfl ?_
            refine gX5_82 hn F dX5_count_77 rfl ?_
            refine j_int (y := nI (A.sn.length)) (hC.2.2.2.2.1) ?_
            exact j_iret F hRt rfl (oC_q (by rw [if_neg s0, if_neg s1, if_neg s2, if_neg s3, if_pos s4]) hC FrC.rf) dX5_count_80
          · skip
            by_cases s5 : x = nI 5
            · refine j_tableIn F (tgt := 81) (off := 80) dX5_count_1 (by rw [s5]; decide) (by rw [s5]; decide) (by rw [s5]; decide) (by decide) ?_
              refine j_aload_n F dX5_count_81 rfl rfl ?_
              refine gX5_22 hn F dX5_count_82 rfl ?_
              refine gX5_63 hn F dX5_count_85 rfl ?_
              refine j_int (y := nI (A.m)) (hT.1) ?_
              exact j_iret F hRt rfl (oC_q (by rw [if_neg s0, if_neg s1, if_neg s2, if_neg s3, if_neg s4, if_pos s5]) hC FrC.rf) dX5_count_88
            · skip
              by_cases s6 : x = nI 6
              · refine j_tableIn F (tgt := 89) (off := 88) dX5_count_1 (by rw [s6]; decide) (by rw [s6]; decide) (by rw [s6]; decide) (by decide) ?_
                refine j_aload_n F dX5_count_89 rfl rfl ?_
                refine gX5_29 hn F dX5_count_90 rfl ?_
                refine gX5_79 hn F dX5_count_93 rfl ?_
                refine j_int (y := nI (A.hs.length)) (by obtain ⟨_, _, _, z, _⟩ := hPa; exact z) ?_
                exact j_iret F hRt rfl (oC_q (by rw [if_neg s0, if_neg s1, if_neg s2, if_neg s3, if_neg s4, if_neg s5, if_pos s6]) hC FrC.rf) dX5_count_96
              · skip
                refine j_tableOut F (tgt := 97) dX5_count_1 (tb_out s0 s1 s2 s3 s4 s5 s6) (by decide) ?_
                refine j_iconst (v := (-1 : Int32)) F dX5_count_97 rfl (by decide) ?_
                exact j_iret F hRt rfl (oC_q (by rw [if_neg s0, if_neg s1, if_neg s2, if_neg s3, if_neg s4, if_neg s5, if_neg s6]) hC FrC.rf) dX5_count_98

set_option maxRecDepth 10000 in
set_option maxHeartbeats 2000000 in
theorem c_X5_forget {l : Launch} {n : Nat} {E : Ev} {σ : St} {A : Ab} (hn : 55 ≤ n) (hA : AI A) (hC : CR σ A) : Ct l yX5_forget cX5_forget 2 (some .int) 0 n E [.ref (E.1 + 0)] σ (oC σ (o_forget A)) := by
  refine Ct.of (lv0 := [some (.ref (E.1 + 0)), none]) (by decide) (Nat.le_of_ble_eq_true rfl) rfl ?_
  intro X hXn hXE hXl hXL F hRt
  subst hXn hXE hXl
  have hL : ∀ i, i < 2 → i < X.nL := fun i h => by rw [hXL]; exact h
  have hP := hC.1
  have hT := hC.2.1
  have hPa := hC.2.2.1
  have hG := hA.1
  have hBd := hG.1
  have hWl := hG.2.1
  have hLm := hG.2.2.1
  have hB0 := hBd
  obtain ⟨b1, b2, b3, b4, b5, b6, b7⟩ := hB0
  refine j_aload_n F dX5_forget_0 rfl rfl ?_
  refine gX5_82 hn F dX5_forget_1 rfl ?_
  refine j_int (y := nI (A.sn.length)) (hC.2.2.2.2.1) ?_
  refine j_istore_n (lv' := [some (.ref (X.E.1 + 0)), some (.int (nI (A.sn.length)))]) F dX5_forget_4 rfl (hL _ (by decide)) rfl rfl ?_
  refine j_aload_n F dX5_forget_5 rfl rfl ?_
  refine j_iconst (v := nI (0)) F dX5_forget_6 rfl (by decide) ?_
  refine pX5_82 hn F dX5_forget_7 rfl ?_
  refine j_iload_n F dX5_forget_10 rfl rfl ?_
  exact j_iret F hRt rfl (oC_e rfl (CR_S (sn' := []) hC (Fr.put Fr.rf (by simp)) ⟨by simp [up, upR, upd], fun i h => absurd h (Nat.not_lt_zero i)⟩) (FrC.put FrC.rf (by decide))) dX5_forget_11
