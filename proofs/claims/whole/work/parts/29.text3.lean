def nuZ (c : Nat) : Int := if c = 2000 then -1 else (c : Int) - 1000
theorem nuI_Z {c : Nat} (h : 1000 ≤ c) : nuI c = iI (nuZ c) := by
  unfold nuI nuZ
  split
  · exact iI_m1
  · rw [nI_iI]; congr 1; omega
theorem bd_nu {c : Nat} (h : 1000 ≤ c) (h2 : c ≤ 1009 ∨ c = 2000) : bd (nuZ c) 20 := by
  unfold nuZ
  split
  · exact ⟨by decide, by decide⟩
  · exact ⟨by omega, by omega⟩
theorem sgI_m2 {c : Nat} (h : sgI c = -2) (hc : c < 3001) : 1000 ≤ c ∧ ¬ c = 3000 := by
  unfold sgI at h
  split at h
  · exact absurd h (by decide)
  · split at h
    · exact ⟨by assumption, by assumption⟩
    · have z := nI_pos (n := c) (by omega)
      rw [h] at z
      exact absurd (by decide) z
theorem sgI_n2 {c : Nat} (h : ¬ sgI c = -2) (hc : 1000 ≤ c) : c = 3000 := by
  unfold sgI at h
  split at h
  · assumption
  · exact absurd rfl h
theorem sgI_lit {c k : Nat} (hk : k < 256) (hc : c < 3001) : sgI c = nI k ↔ c = k := by
  unfold sgI
  split
  · exact ⟨fun q => by have z := nI_pos (n := k) (by omega); rw [← q] at z; exact absurd (by decide) z, fun q => by omega⟩
  · split
    · exact ⟨fun q => by have z := nI_pos (n := k) (by omega); rw [← q] at z; exact absurd (by decide) z, fun q => by omega⟩
    · exact nI_e (by omega) (by omega)
theorem sgI_m1 {c : Nat} (hc : c < 3001) : sgI c = -1 ↔ c = 3000 := by
  unfold sgI
  split
  · exact ⟨fun _ => by assumption, fun _ => rfl⟩
  · split
    · exact ⟨fun q => absurd q (by decide), fun q => by contradiction⟩
    · exact ⟨fun q => by have z := nI_pos (n := c) (by omega); rw [q] at z; exact absurd (by decide) z, fun q => by contradiction⟩
theorem nu_ok {σ : St} {c s e lo hi : Nat} (hk : TkOK σ c s e) (h : okN c lo hi = true) (hhi : hi ≤ 9) : σ 7 4 = nI (c - 1000) := by
  have z := of_decide_eq_true h
  rw [hk.2.2.2 (by omega) (by omega)]
  unfold nuI
  rw [if_neg (by omega)]
theorem numR_t {t : Nat → Nat} {m p lo hi : Nat} (h : okN (tkC t m p) lo hi = true) : numR t m p lo hi = .inr (tkC t m p - 1000, tkE t m p) := if_pos h
theorem numR_f {t : Nat → Nat} {m p lo hi : Nat} (h : okN (tkC t m p) lo hi = false) : numR t m p lo hi = .inl (tkS t m p) := if_neg (by rw [h]; decide)
theorem PRo_l {σ σ' : St} {m s : Nat} {r : Nat ⊕ (Pl × Nat)} (hr : r = .inl s) (h1 : σ' 7 1 = nI m) (hf : Fr [4, 5, 6, 7] σ σ') (h2 : σ' 7 2 = nI s) : PRo σ m r (some (.int (nI 0))) σ' := by
  subst hr
  exact ⟨h1, hf, rfl, h2⟩
theorem PRo_end {σ σ' : St} {t : Nat → Nat} {m p : Nat} {P : Pl} {r : Nat ⊕ (Pl × Nat)} (hr : r = endR t m p P) (h1 : σ' 7 1 = nI m) (hf : Fr [4, 5, 6, 7] σ σ') (hk : TkOK σ' (tkC t m p) (tkS t m p) (tkE t m p)) (hP : PlanOK σ' 4 P) : PRo σ m r (some (.int (bI (decide (tkC t m p = 59))))) σ' := by
  subst hr
  unfold endR
  by_cases h : tkC t m p = 59
  · rw [if_pos h, decide_eq_true h]
    exact ⟨h1, hf, rfl, hP, hk.2.1⟩
  · rw [if_neg h, decide_eq_false h]
    exact ⟨h1, hf, rfl, hk.1⟩
theorem PRo_b {σ σ' : St} {m : Nat} {r : Nat ⊕ (Pl × Nat)} {v : Option Value} (h : PRo σ m r v σ') : ∃ b : Bool, v = some (.int (bI b)) ∧ (b = true → ∃ q, r = .inr q ∧ PlanOK σ' 4 q.1 ∧ σ' 7 5 = nI q.2) ∧ (b = false → ∃ s, r = .inl s ∧ σ' 7 2 = nI s) ∧ σ' 7 1 = nI m ∧ Fr [4, 5, 6, 7] σ σ' := by
  obtain ⟨h1, h2, h3⟩ := h
  match r, h3 with
  | .inl s, h3 => exact ⟨false, h3.1, (fun q => by cases q), fun _ => ⟨s, rfl, h3.2⟩, h1, h2⟩
  | .inr q, h3 => exact ⟨true, h3.1, fun _ => ⟨q, rfl, h3.2.1, h3.2.2⟩, (fun q => by cases q), h1, h2⟩
theorem PRo_r {σ σ' : St} {m : Nat} {r : Nat ⊕ (Pl × Nat)} {q : Pl × Nat} (hr : r = .inr q) (h1 : σ' 7 1 = nI m) (hf : Fr [4, 5, 6, 7] σ σ') (h2 : PlanOK σ' 4 q.1) (h5 : σ' 7 5 = nI q.2) : PRo σ m r (some (.int (nI 1))) σ' := by
  subst hr
  exact ⟨h1, hf, rfl, h2, h5⟩
set_option maxRecDepth 10000 in
set_option maxHeartbeats 2000000 in
theorem c_X4_readNumber {l : Launch} {n : Nat} {E : Ev} {σ : St} {t : Nat → Nat} {m : Nat} (hn : 55 ≤ n) (hT : TxtOK σ t m) (p : Nat) (hp : σ 7 5 = nI p) (hpm : p ≤ m) (lo hi : Nat) (hlo : lo ≤ 9) (hhi : hi ≤ 9) : Ct l yX4_readNumber cX4_readNumber 3 (some .boolean) 2 n E [.ref (E.1 + 7), .int (nI (lo)), .int (nI (hi))] σ (fun v' σ' => v' = some (.int (bI (okN (tkC t m p) lo hi))) ∧ TkOK σ' (tkC t m p) (tkS t m p) (tkE t m p) ∧ Fr [7] σ σ' ∧ σ' 7 1 = nI m) := by
  refine Ct.of (lv0 := [some (.ref (E.1 + 7)), some (.int (nI (lo))), some (.int (nI (hi)))]) (by decide) (Nat.le_of_ble_eq_true rfl) rfl ?_
  intro X hXn hXE hXl hXL F hRt
  subst hXn hXE hXl
  have hL : ∀ i, i < 3 → i < X.nL := fun i h => by rw [hXL]; exact h
  refine j_aload_n F dX4_readNumber_0 rfl rfl ?_
  refine kX4_28 hn F (As := []) (rest := []) (c_X4_readToken hn hT p hp hpm) (by decide) rfl rfl (Nat.le_of_ble_eq_true rfl) dX4_readNumber_1 rfl (fun v_1 σ_1 q_1 => ?_)
  obtain ⟨rfl, k_1, f_1, l_1⟩ := q_1
  have hlt := tkC_lt (t := t) (m := m) (p := p) (fun i hi => (hT.2.2 i hi).2)
  refine j_aload_n F dX4_readNumber_4 rfl rfl ?_
  refine gX4_31 hn F dX4_readNumber_5 rfl ?_
  refine j_int (y := sgI (tkC t m p)) (k_1.2.2.1) ?_
  refine j_bipush (v := (-2 : Int32)) F dX4_readNumber_8 rfl (by decide) ?_
  refine j_icmp_ne F (tgt := 33) dX4_readNumber_10 (by decide) rfl (fun c_10 => ?_) (fun c_10 => ?_)
  · have hz : okN (tkC t m p) lo hi = false := decide_eq_false (fun q => by have := sgI_n2 c_10 (by omega); omega)
    refine j_iconst (v := nI (0)) F dX4_readNumber_33 rfl (by decide) ?_
    exact j_iret F hRt rfl (⟨by rw [hz]; rfl, k_1, f_1, l_1⟩) dX4_readNumber_34
  · have hc1 := sgI_m2 c_10 (by omega)
    refine j_aload_n F dX4_readNumber_13 rfl rfl ?_
    refine gX4_61 hn F dX4_readNumber_14 rfl ?_
    refine j_int (y := iI (nuZ (tkC t m p))) (by rw [k_1.2.2.2 hc1.1 (by omega)]; exact nuI_Z hc1.1) ?_
    refine j_iload_n F dX4_readNumber_17 rfl rfl ?_
    refine j_icmp_ltZ F (a := nuZ (tkC t m p)) (b := ((lo : Nat) : Int)) rfl (nI_iI _) (bd_nu hc1.1 (by omega)) (bd_n (show lo ≤ 40 by omega)) (by decide) (by decide) (tgt := 33) dX4_readNumber_18 (by decide) rfl (fun c_18 => ?_) (fun c_18 => ?_)
    · have hz : okN (tkC t m p) lo hi = false := decide_eq_false (fun q => by unfold nuZ at c_18; split at c_18 <;> omega)
      refine j_iconst (v := nI (0)) F dX4_readNumber_33 rfl (by decide) ?_
      exact j_iret F hRt rfl (⟨by rw [hz]; rfl, k_1, f_1, l_1⟩) dX4_readNumber_34
    · refine j_aload_n F dX4_readNumber_21 rfl rfl ?_
      refine gX4_61 hn F dX4_readNumber_22 rfl ?_
      refine j_int (y := iI (nuZ (tkC t m p))) (by rw [k_1.2.2.2 hc1.1 (by omega)]; exact nuI_Z hc1.1) ?_
      refine j_iload_n F dX4_readNumber_25 rfl rfl ?_
      refine j_icmp_gtZ F (a := nuZ (tkC t m p)) (b := ((hi : Nat) : Int)) rfl (nI_iI _) (bd_nu hc1.1 (by omega)) (bd_n (show hi ≤ 40 by omega)) (by decide) (by decide) (tgt := 33) dX4_readNumber_26 (by decide) rfl (fun c_26 => ?_) (fun c_26 => ?_)
      · have hz : okN (tkC t m p) lo hi = false := decide_eq_false (fun q => by unfold nuZ at c_26; split at c_26 <;> omega)
        refine j_iconst (v := nI (0)) F dX4_readNumber_33 rfl (by decide) ?_
        exact j_iret F hRt rfl (⟨by rw [hz]; rfl, k_1, f_1, l_1⟩) dX4_readNumber_34
      · have hz : okN (tkC t m p) lo hi = true := decide_eq_true (by unfold nuZ at c_18 c_26; split at c_18 <;> omega)
        refine j_iconst (v := nI (1)) F dX4_readNumber_29 rfl (by decide) ?_
        refine j_goto (pc' := 34) F dX4_readNumber_30 (by decide) ?_
        exact j_iret F hRt rfl (⟨by rw [hz]; rfl, k_1, f_1, l_1⟩) dX4_readNumber_34

set_option maxRecDepth 10000 in
set_option maxHeartbeats 2000000 in
theorem c_X4_readItemEnd {l : Launch} {n : Nat} {E : Ev} {σ : St} {t : Nat → Nat} {m : Nat} (hn : 55 ≤ n) (hT : TxtOK σ t m) (p : Nat) (hp : σ 7 5 = nI p) (hpm : p ≤ m) : Ct l yX4_readItemEnd cX4_readItemEnd 1 (some .boolean) 2 n E [.ref (E.1 + 7)] σ (fun v' σ' => v' = some (.int (bI (decide (tkC t m p = 59)))) ∧ TkOK σ' (tkC t m p) (tkS t m p) (tkE t m p) ∧ Fr [7] σ σ' ∧ σ' 7 1 = nI m) := by
  refine Ct.of (lv0 := [some (.ref (E.1 + 7))]) (by decide) (Nat.le_of_ble_eq_true rfl) rfl ?_
  intro X hXn hXE hXl hXL F hRt
  subst hXn hXE hXl
  have hL : ∀ i, i < 1 → i < X.nL := fun i h => by rw [hXL]; exact h
  refine j_aload_n F dX4_readItemEnd_0 rfl rfl ?_
  refine kX4_28 hn F (As := []) (rest := []) (c_X4_readToken hn hT p hp hpm) (by decide) rfl rfl (Nat.le_of_ble_eq_true rfl) dX4_readItemEnd_1 rfl (fun v_1 σ_1 q_1 => ?_)
  obtain ⟨rfl, k_1, f_1, l_1⟩ := q_1
  have hlt := tkC_lt (t := t) (m := m) (p := p) (fun i hi => (hT.2.2 i hi).2)
  refine j_aload_n F dX4_readItemEnd_4 rfl rfl ?_
  refine gX4_31 hn F dX4_readItemEnd_5 rfl ?_
  refine j_int (y := sgI (tkC t m p)) (k_1.2.2.1) ?_
  refine j_bipush (v := nI (59)) F dX4_readItemEnd_8 rfl (by decide) ?_
  refine j_icmp_ne F (tgt := 17) dX4_readItemEnd_10 (by decide) rfl (fun c_10 => ?_) (fun c_10 => ?_)
  · have hz : decide (tkC t m p = 59) = false := decide_eq_false (fun q => c_10 ((sgI_lit (by decide) (by omega)).mpr q))
    refine j_iconst (v := nI (0)) F dX4_readItemEnd_17 rfl (by decide) ?_
    exact j_iret F hRt rfl (⟨by rw [hz]; rfl, k_1, f_1, l_1⟩) dX4_readItemEnd_18
  · have hz : decide (tkC t m p = 59) = true := decide_eq_true ((sgI_lit (by decide) (by omega)).mp c_10)
    refine j_iconst (v := nI (1)) F dX4_readItemEnd_13 rfl (by decide) ?_
    refine j_goto (pc' := 18) F dX4_readItemEnd_14 (by decide) ?_
    exact j_iret F hRt rfl (⟨by rw [hz]; rfl, k_1, f_1, l_1⟩) dX4_readItemEnd_18

set_option maxRecDepth 10000 in
set_option maxHeartbeats 2000000 in
theorem c_X4_readSize {l : Launch} {n : Nat} {E : Ev} {σ : St} {t : Nat → Nat} {m : Nat} (hn : 55 ≤ n) (hT : TxtOK σ t m) (p : Nat) (hp : σ 7 5 = nI p) (hpm : p ≤ m) : Ct l yX4_readSize cX4_readSize 3 (some .boolean) 3 n E [.ref (E.1 + 7), .ref (E.1 + 4)] σ (PRo σ m (sizeR t m p)) := by
  refine Ct.of (lv0 := [some (.ref (E.1 + 7)), some (.ref (E.1 + 4)), none]) (by decide) (Nat.le_of_ble_eq_true rfl) rfl ?_
  intro X hXn hXE hXl hXL F hRt
  subst hXn hXE hXl
  have hL : ∀ i, i < 3 → i < X.nL := fun i h => by rw [hXL]; exact h
  refine j_aload_n F dX4_readSize_0 rfl rfl ?_
  refine j_iconst (v := nI (2)) F dX4_readSize_1 rfl (by decide) ?_
  refine j_bipush (v := nI (9)) F dX4_readSize_2 rfl (by decide) ?_
  refine kX4_57 hn F (As := [.int (nI (2)), .int (nI (9))]) (rest := []) (c_X4_readNumber hn hT p hp hpm 2 9 (by omega) (by omega)) (by decide) rfl rfl (Nat.le_of_ble_eq_true rfl) dX4_readSize_4 rfl (fun v_4 σ_4 q_4 => ?_)
  obtain ⟨rfl, k_4, f_4, l_4⟩ := q_4
  have T_4 : TxtOK σ_4 t m := hT.fr l_4 (f_4 8 (by decide))
  have e_4 := tkE_le (t := t) hpm
  refine j_if_neB F (x := okN (tkC t m p) 2 9) (tgt := 12) dX4_readSize_7 (by decide) rfl (fun c_7 => ?_) (fun c_7 => ?_)
  · refine j_aload_n F dX4_readSize_12 rfl rfl ?_
    refine gX4_61 hn F dX4_readSize_13 rfl ?_
    refine j_int (y := nI (tkC t m p - 1000)) (nu_ok k_4 c_7 (by omega)) ?_
    refine j_istore_n (lv' := [some (.ref (X.E.1 + 7)), some (.ref (X.E.1 + 4)), some (.int (nI (tkC t m p - 1000)))]) F dX4_readSize_16 rfl (hL _ (by decide)) rfl rfl ?_
    refine j_aload_n F dX4_readSize_17 rfl rfl ?_
    refine j_iconst (v := nI (2)) F dX4_readSize_18 rfl (by decide) ?_
    refine j_bipush (v := nI (9)) F dX4_readSize_19 rfl (by decide) ?_
    refine kX4_57 hn F (As := [.int (nI (2)), .int (nI (9))]) (rest := []) (c_X4_readNumber hn T_4 (tkE t m p) k_4.2.1 e_4.2 2 9 (by omega) (by omega)) (by decide) rfl rfl (Nat.le_of_ble_eq_true rfl) dX4_readSize_21 rfl (fun v_21 σ_21 q_21 => ?_)
    obtain ⟨rfl, k_21, f_21, l_21⟩ := q_21
    have T_21 : TxtOK σ_21 t m := T_4.fr l_21 (f_21 8 (by decide))
    have e_21 := tkE_le (t := t) e_4.2
    refine j_if_neB F (x := okN (tkC t m (tkE t m p)) 2 9) (tgt := 29) dX4_readSize_24 (by decide) rfl (fun c_24 => ?_) (fun c_24 => ?_)
    · refine j_aload_n F dX4_readSize_29 rfl rfl ?_
      refine j_iload_n F dX4_readSize_30 rfl rfl ?_
      refine j_aload_n F dX4_readSize_31 rfl rfl ?_
      refine gX4_61 hn F dX4_readSize_32 rfl ?_
      refine j_int (y := nI (tkC t m (tkE t m p) - 1000)) (nu_ok k_21 c_24 (by omega)) ?_
      refine kX4_19 (isPl_4 hn) F (As := [.int (nI (tkC t m p - 1000)), .int (nI (tkC t m (tkE t m p) - 1000))]) (rest := []) (c_X2_begin hn (isPl_4 hn) (tkC t m p - 1000) (tkC t m (tkE t m p) - 1000)) (by decide) rfl rfl (Nat.le_of_ble_eq_true rfl) dX4_readSize_35 rfl (fun v_35 σ_35 q_35 => ?_)
      obtain ⟨rfl, hP_35, g_35⟩ := q_35
      have g7_35 := g_35 7 (by decide)
      have T_35 : TxtOK σ_35 t m := T_21.fr (by rw [g7_35]; exact T_21.1) (g_35 8 (by decide))
      have hp_35 : σ_35 7 5 = nI (tkE t m (tkE t m p)) := by rw [g7_35]; exact k_21.2.1
      refine j_aload_n F dX4_readSize_38 rfl rfl ?_
      refine kX4_64 hn F (As := []) (rest := []) (c_X4_readItemEnd hn T_35 (tkE t m (tkE t m p)) hp_35 e_21.2) (by decide) rfl rfl (Nat.le_of_ble_eq_true rfl) dX4_readSize_39 rfl (fun v_39 σ_39 q_39 => ?_)
      obtain ⟨rfl, k_39, f_39, l_39⟩ := q_39
      have T_39 : TxtOK σ_39 t m := T_35.fr l_39 (f_39 8 (by decide))
      have e_39 := tkE_le (t := t) e_21.2
      have hP_39 : PlanOK σ_39 4 (P0 (tkC t m p - 1000) (tkC t m (tkE t m p) - 1000)) := hP_35.frame (f_39 4 (by decide)) (f_39 5 (by decide)) (f_39 6 (by decide))
      exact j_iret F hRt (bI_nar _) (PRo_end (by unfold sizeR; rw [numR_t c_7]; simp only; rw [numR_t c_24]) l_39 ((((Fr.rf.tr (f_4.sub (by simp))).tr (f_21.sub (by simp))).tr (g_35.sub (by simp))).tr (f_39.sub (by simp))) k_39 hP_39) dX4_readSize_42
    · refine j_iconst (v := nI (0)) F dX4_readSize_27 rfl (by decide) ?_
      exact j_iret F hRt rfl (PRo_l (by unfold sizeR; rw [numR_t c_7]; simp only; rw [numR_f c_24]) l_21 ((Fr.rf.tr (f_4.sub (by simp))).tr (f_21.sub (by simp))) k_21.1) dX4_readSize_28
  · refine j_iconst (v := nI (0)) F dX4_readSize_10 rfl (by decide) ?_
    exact j_iret F hRt rfl (PRo_l (by unfold sizeR; rw [numR_f c_7]) l_4 (Fr.rf.tr (f_4.sub (by simp))) k_4.1) dX4_readSize_11

set_option maxRecDepth 10000 in
set_option maxHeartbeats 2000000 in
theorem c_X4_readWall_0 {l : Launch} {n : Nat} {E : Ev} {σ : St} {t : Nat → Nat} {m : Nat} (hn : 55 ≤ n) (hT : TxtOK σ t m) (p : Nat) (hp : σ 7 5 = nI p) (hpm : p ≤ m) {P : Pl} (hP : PlanOK σ 4 P) (hG : PGt P) (hnw : P.nw < 14) : Ct l yX4_readWall cX4_readWall 5 (some .boolean) 3 n E [.ref (E.1 + 7), .ref (E.1 + 4), .int (nI (0))] σ (PRo σ m (wallR t m P 0 p)) := by
  refine Ct.of (lv0 := [some (.ref (E.1 + 7)), some (.ref (E.1 + 4)), some (.int (nI (0))), none, none]) (by decide) (Nat.le_of_ble_eq_true rfl) rfl ?_
  intro X hXn hXE hXl hXL F hRt
  subst hXn hXE hXl
  have hL : ∀ i, i < 5 → i < X.nL := fun i h => by rw [hXL]; exact h
  obtain ⟨b1, b2, b3, b4, b5, b6, b7⟩ := hG.1.1
  refine j_aload_n F dX4_readWall_0 rfl rfl ?_
  refine j_iconst (v := nI (0)) F dX4_readWall_1 rfl (by decide) ?_
  refine j_iload_n F dX4_readWall_2 rfl rfl ?_
  refine j_iconst (v := nI (1)) F dX4_readWall_3 rfl (by decide) ?_
  refine j_icmp_neN (a := 0) (b := 1) F (by omega) (by omega) (tgt := 14) dX4_readWall_4 (by decide) rfl (fun c_4 => ?_) (fun c_4 => False.elim (by revert c_4; decide))
  refine j_aload_n F dX4_readWall_14 rfl rfl ?_
  refine gX4_68 (isPl_4 hn) F dX4_readWall_15 rfl ?_
  refine j_int (y := nI (P.W)) (hP.w) ?_
  refine j_iconst (v := nI (1)) F dX4_readWall_18 rfl (by decide) ?_
  refine j_isubN (a := P.W) (b := 1) F (by omega) dX4_readWall_19 rfl ?_
  refine kX4_57 hn F (As := [.int (nI (0)), .int (nI (P.W - 1))]) (rest := []) (c_X4_readNumber hn hT p hp hpm 0 (P.W - 1) (by omega) (by omega)) (by decide) rfl rfl (Nat.le_of_ble_eq_true rfl) dX4_readWall_20 rfl (fun v_20 σ_20 q_20 => ?_)
  obtain ⟨rfl, k_20, f_20, l_20⟩ := q_20
  have T_20 : TxtOK σ_20 t m := hT.fr l_20 (f_20 8 (by decide))
  have e_20 := tkE_le (t := t) hpm
  have hP_20 : PlanOK σ_20 4 P := hP.frame (f_20 4 (by decide)) (f_20 5 (by decide)) (f_20 6 (by decide))
  refine j_if_neB F (x := okN (tkC t m p) 0 (P.W - 1)) (tgt := 28) dX4_readWall_23 (by decide) rfl (fun c_23 => ?_) (fun c_23 => ?_)
  · have o1 := of_decide_eq_true c_23
    refine j_aload_n F dX4_readWall_28 rfl rfl ?_
    refine gX4_61 hn F dX4_readWall_29 rfl ?_
    refine j_int (y := nI (tkC t m p - 1000)) (nu_ok k_20 c_23 (by omega)) ?_
    refine j_istore_n (lv' := [some (.ref (X.E.1 + 7)), some (.ref (X.E.1 + 4)), some (.int (nI (0))), some (.int (nI (tkC t m p - 1000))), none]) F dX4_readWall_32 rfl (hL _ (by decide)) rfl rfl ?_
    refine j_aload_n F dX4_readWall_33 rfl rfl ?_
    refine j_iconst (v := nI (0)) F dX4_readWall_34 rfl (by decide) ?_
    refine j_iload_n F dX4_readWall_35 rfl rfl ?_
    refine j_iconst (v := nI (1)) F dX4_readWall_36 rfl (by decide) ?_
    refine j_icmp_neN (a := 0) (b := 1) F (by omega) (by omega) (tgt := 49) dX4_readWall_37 (by decide) rfl (fun c_37 => ?_) (fun c_37 => False.elim (by revert c_37; decide))
    refine j_aload_n F dX4_readWall_49 rfl rfl ?_
    refine gX4_71 (isPl_4 hn) F dX4_readWall_50 rfl ?_
    refine j_int (y := nI (P.H)) (hP_20.h) ?_
    refine kX4_57 hn F (As := [.int (nI (0)), .int (nI (P.H))]) (rest := []) (c_X4_readNumber hn T_20 (tkE t m p) k_20.2.1 e_20.2 0 P.H (by omega) (by omega)) (by decide) rfl rfl (Nat.le_of_ble_eq_true rfl) dX4_readWall_53 rfl (fun v_53 σ_53 q_53 => ?_)
    obtain ⟨rfl, k_53, f_53, l_53⟩ := q_53
    have T_53 : TxtOK σ_53 t m := T_20.fr l_53 (f_53 8 (by decide))
    have e_53 := tkE_le (t := t) e_20.2
    have hP_53 : PlanOK σ_53 4 P := hP_20.frame (f_53 4 (by decide)) (f_53 5 (by decide)) (f_53 6 (by decide))
    refine j_if_neB F (x := okN (tkC t m (tkE t m p)) 0 P.H) (tgt := 61) dX4_readWall_56 (by decide) rfl (fun c_56 => ?_) (fun c_56 => ?_)
    · have o2 := of_decide_eq_true c_56
      refine j_aload_n F dX4_readWall_61 rfl rfl ?_
      refine gX4_61 hn F dX4_readWall_62 rfl ?_
      refine j_int (y := nI (tkC t m (tkE t m p) - 1000)) (nu_ok k_53 c_56 (by omega)) ?_
      refine j_istore (lv' := [some (.ref (X.E.1 + 7)), some (.ref (X.E.1 + 4)), some (.int (nI (0))), some (.int (nI (tkC t m p - 1000))), some (.int (nI (tkC t m (tkE t m p) - 1000)))]) F dX4_readWall_65 rfl (hL _ (by decide)) rfl rfl ?_
      refine j_aload_n F dX4_readWall_67 rfl rfl ?_
      refine j_iconst (v := nI (1)) F dX4_readWall_68 rfl (by decide) ?_
      refine j_iload_n F dX4_readWall_69 rfl rfl ?_
      refine j_iconst (v := nI (1)) F dX4_readWall_70 rfl (by decide) ?_
      refine j_icmp_neN (a := 0) (b := 1) F (by omega) (by omega) (tgt := 84) dX4_readWall_71 (by decide) rfl (fun c_71 => ?_) (fun c_71 => False.elim (by revert c_71; decide))
      refine j_aload_n F dX4_readWall_84 rfl rfl ?_
      refine gX4_68 (isPl_4 hn) F dX4_readWall_85 rfl ?_
      refine j_int (y := nI (P.W)) (hP_53.w) ?_
      refine j_iload_n F dX4_readWall_88 rfl rfl ?_
      refine j_isubN (a := P.W) (b := tkC t m p - 1000) F (by omega) dX4_readWall_89 rfl ?_
      refine kX4_57 hn F (As := [.int (nI (1)), .int (nI (P.W - (tkC t m p - 1000)))]) (rest := []) (c_X4_readNumber hn T_53 (tkE t m (tkE t m p)) k_53.2.1 e_53.2 1 (P.W - (tkC t m p - 1000)) (by omega) (by omega)) (by decide) rfl rfl (Nat.le_of_ble_eq_true rfl) dX4_readWall_90 rfl (fun v_90 σ_90 q_90 => ?_)
      obtain ⟨rfl, k_90, f_90, l_90⟩ := q_90
      have T_90 : TxtOK σ_90 t m := T_53.fr l_90 (f_90 8 (by decide))
      have e_90 := tkE_le (t := t) e_53.2
      have hP_90 : PlanOK σ_90 4 P := hP_53.frame (f_90 4 (by decide)) (f_90 5 (by decide)) (f_90 6 (by decide))
      refine j_if_neB F (x := okN (tkC t m (tkE t m (tkE t m p))) 1 (P.W - (tkC t m p - 1000))) (tgt := 98) dX4_readWall_93 (by decide) rfl (fun c_93 => ?_) (fun c_93 => ?_)
      · have o3 := of_decide_eq_true c_93
        refine j_aload_n F dX4_readWall_98 rfl rfl ?_
        refine j_iload_n F dX4_readWall_99 rfl rfl ?_
        refine j_iload F dX4_readWall_100 rfl rfl ?_
        refine j_aload_n F dX4_readWall_102 rfl rfl ?_
        refine gX4_61 hn F dX4_readWall_103 rfl ?_
        refine j_int (y := nI (tkC t m (tkE t m (tkE t m p)) - 1000)) (nu_ok k_90 c_93 (by omega)) ?_
        refine j_iload_n F dX4_readWall_106 rfl rfl ?_
        refine kX4_74 (isPl_4 hn) F (As := [.int (nI (tkC t m p - 1000)), .int (nI (tkC t m (tkE t m p) - 1000)), .int (nI (tkC t m (tkE t m (tkE t m p)) - 1000)), .int (nI (0))]) (rest := []) (c_X2_addWall hn (isPl_4 hn) hP_90 (tkC t m p - 1000) (tkC t m (tkE t m p) - 1000) (tkC t m (tkE t m (tkE t m p)) - 1000) 0 hnw) (by decide) rfl rfl (Nat.le_of_ble_eq_true rfl) dX4_readWall_107 rfl (fun v_107 σ_107 q_107 => ?_)
        obtain ⟨rfl, hP_107, g_107⟩ := q_107
        have g7_107 := g_107 7 (by decide)
        have T_107 : TxtOK σ_107 t m := T_90.fr (by rw [g7_107]; exact T_90.1) (g_107 8 (by decide))
        have hp_107 : σ_107 7 5 = nI (tkE t m (tkE t m (tkE t m p))) := by rw [g7_107]; exact k_90.2.1
        refine j_aload_n F dX4_readWall_110 rfl rfl ?_
        refine kX4_64 hn F (As := []) (rest := []) (c_X4_readItemEnd hn T_107 (tkE t m (tkE t m (tkE t m p))) hp_107 e_90.2) (by decide) rfl rfl (Nat.le_of_ble_eq_true rfl) dX4_readWall_111 rfl (fun v_111 σ_111 q_111 => ?_)
        obtain ⟨rfl, k_111, f_111, l_111⟩ := q_111
        have T_111 : TxtOK σ_111 t m := T_107.fr l_111 (f_111 8 (by decide))
        have e_111 := tkE_le (t := t) e_90.2
        have hP_111 : PlanOK σ_111 4 (P.addW (tkC t m p - 1000) (tkC t m (tkE t m p) - 1000) (tkC t m (tkE t m (tkE t m p)) - 1000) 0) := hP_107.frame (f_111 4 (by decide)) (f_111 5 (by decide)) (f_111 6 (by decide))
        exact j_iret F hRt (bI_nar _) (PRo_end (by unfold wallR; simp only [if_neg (show ¬ (0 : Nat) = 1 by decide)]; rw [numR_t c_23]; simp only; rw [numR_t c_56]; simp only; rw [numR_t c_93]) l_111 (((((Fr.rf.tr (f_20.sub (by simp))).tr (f_53.sub (by simp))).tr (f_90.sub (by simp))).tr (g_107.sub (by simp))).tr (f_111.sub (by simp))) k_111 hP_111) dX4_readWall_114
      · refine j_iconst (v := nI (0)) F dX4_readWall_96 rfl (by decide) ?_
        exact j_iret F hRt rfl (PRo_l (by unfold wallR; simp only [if_neg (show ¬ (0 : Nat) = 1 by decide)]; rw [numR_t c_23]; simp only; rw [numR_t c_56]; simp only; rw [numR_f c_93]) l_90 (((Fr.rf.tr (f_20.sub (by simp))).tr (f_53.sub (by simp))).tr (f_90.sub (by simp))) k_90.1) dX4_readWall_97
    · refine j_iconst (v := nI (0)) F dX4_readWall_59 rfl (by decide) ?_
      exact j_iret F hRt rfl (PRo_l (by unfold wallR; simp only [if_neg (show ¬ (0 : Nat) = 1 by decide)]; rw [numR_t c_23]; simp only; rw [numR_f c_56]) l_53 ((Fr.rf.tr (f_20.sub (by simp))).tr (f_53.sub (by simp))) k_53.1) dX4_readWall_60
  · refine j_iconst (v := nI (0)) F dX4_readWall_26 rfl (by decide) ?_
    exact j_iret F hRt rfl (PRo_l (by unfold wallR; simp only [if_neg (show ¬ (0 : Nat) = 1 by decide)]; rw [numR_f c_23]) l_20 (Fr.rf.tr (f_20.sub (by simp))) k_20.1) dX4_readWall_27

set_option maxRecDepth 10000 in
set_option maxHeartbeats 2000000 in
theorem c_X4_readWall_1 {l : Launch} {n : Nat} {E : Ev} {σ : St} {t : Nat → Nat} {m : Nat} (hn : 55 ≤ n) (hT : TxtOK σ t m) (p : Nat) (hp : σ 7 5 = nI p) (hpm : p ≤ m) {P : Pl} (hP : PlanOK σ 4 P) (hG : PGt P) (hnw : P.nw < 14) : Ct l yX4_readWall cX4_readWall 5 (some .boolean) 3 n E [.ref (E.1 + 7), .ref (E.1 + 4), .int (nI (1))] σ (PRo σ m (wallR t m P 1 p)) := by
  refine Ct.of (lv0 := [some (.ref (E.1 + 7)), some (.ref (E.1 + 4)), some (.int (nI (1))), none, none]) (by decide) (Nat.le_of_ble_eq_true rfl) rfl ?_
  intro X hXn hXE hXl hXL F hRt
  subst hXn hXE hXl
  have hL : ∀ i, i < 5 → i < X.nL := fun i h => by rw [hXL]; exact h
  obtain ⟨b1, b2, b3, b4, b5, b6, b7⟩ := hG.1.1
  refine j_aload_n F dX4_readWall_0 rfl rfl ?_
  refine j_iconst (v := nI (0)) F dX4_readWall_1 rfl (by decide) ?_
  refine j_iload_n F dX4_readWall_2 rfl rfl ?_
  refine j_iconst (v := nI (1)) F dX4_readWall_3 rfl (by decide) ?_
  refine j_icmp_neN (a := 1) (b := 1) F (by omega) (by omega) (tgt := 14) dX4_readWall_4 (by decide) rfl (fun c_4 => False.elim (by revert c_4; decide)) (fun c_4 => ?_)
  refine j_aload_n F dX4_readWall_7 rfl rfl ?_
  refine gX4_68 (isPl_4 hn) F dX4_readWall_8 rfl ?_
  refine j_int (y := nI (P.W)) (hP.w) ?_
  refine j_goto (pc' := 20) F dX4_readWall_11 (by decide) ?_
  refine kX4_57 hn F (As := [.int (nI (0)), .int (nI (P.W))]) (rest := []) (c_X4_readNumber hn hT p hp hpm 0 P.W (by omega) (by omega)) (by decide) rfl rfl (Nat.le_of_ble_eq_true rfl) dX4_readWall_20 rfl (fun v_20 σ_20 q_20 => ?_)
  obtain ⟨rfl, k_20, f_20, l_20⟩ := q_20
  have T_20 : TxtOK σ_20 t m := hT.fr l_20 (f_20 8 (by decide))
  have e_20 := tkE_le (t := t) hpm
  have hP_20 : PlanOK σ_20 4 P := hP.frame (f_20 4 (by decide)) (f_20 5 (by decide)) (f_20 6 (by decide))
  refine j_if_neB F (x := okN (tkC t m p) 0 P.W) (tgt := 28) dX4_readWall_23 (by decide) rfl (fun c_23 => ?_) (fun c_23 => ?_)
  · have o1 := of_decide_eq_true c_23
    refine j_aload_n F dX4_readWall_28 rfl rfl ?_
    refine gX4_61 hn F dX4_readWall_29 rfl ?_
    refine j_int (y := nI (tkC t m p - 1000)) (nu_ok k_20 c_23 (by omega)) ?_
    refine j_istore_n (lv' := [some (.ref (X.E.1 + 7)), some (.ref (X.E.1 + 4)), some (.int (nI (1))), some (.int (nI (tkC t m p - 1000))), none]) F dX4_readWall_32 rfl (hL _ (by decide)) rfl rfl ?_
    refine j_aload_n F dX4_readWall_33 rfl rfl ?_
    refine j_iconst (v := nI (0)) F dX4_readWall_34 rfl (by decide) ?_
    refine j_iload_n F dX4_readWall_35 rfl rfl ?_
    refine j_iconst (v := nI (1)) F dX4_readWall_36 rfl (by decide) ?_
    refine j_icmp_neN (a := 1) (b := 1) F (by omega) (by omega) (tgt := 49) dX4_readWall_37 (by decide) rfl (fun c_37 => False.elim (by revert c_37; decide)) (fun c_37 => ?_)
    refine j_aload_n F dX4_readWall_40 rfl rfl ?_
    refine gX4_71 (isPl_4 hn) F dX4_readWall_41 rfl ?_
    refine j_int (y := nI (P.H)) (hP_20.h) ?_
    refine j_iconst (v := nI (1)) F dX4_readWall_44 rfl (by decide) ?_
    refine j_isubN (a := P.H) (b := 1) F (by omega) dX4_readWall_45 rfl ?_
    refine j_goto (pc' := 53) F dX4_readWall_46 (by decide) ?_
    refine kX4_57 hn F (As := [.int (nI (0)), .int (nI (P.H - 1))]) (rest := []) (c_X4_readNumber hn T_20 (tkE t m p) k_20.2.1 e_20.2 0 (P.H - 1) (by omega) (by omega)) (by decide) rfl rfl (Nat.le_of_ble_eq_true rfl) dX4_readWall_53 rfl (fun v_53 σ_53 q_53 => ?_)
    obtain ⟨rfl, k_53, f_53, l_53⟩ := q_53
    have T_53 : TxtOK σ_53 t m := T_20.fr l_53 (f_53 8 (by decide))
    have e_53 := tkE_le (t := t) e_20.2
    have hP_53 : PlanOK σ_53 4 P := hP_20.frame (f_53 4 (by decide)) (f_53 5 (by decide)) (f_53 6 (by decide))
    refine j_if_neB F (x := okN (tkC t m (tkE t m p)) 0 (P.H - 1)) (tgt := 61) dX4_readWall_56 (by decide) rfl (fun c_56 => ?_) (fun c_56 => ?_)
    · have o2 := of_decide_eq_true c_56
      refine j_aload_n F dX4_readWall_61 rfl rfl ?_
      refine gX4_61 hn F dX4_readWall_62 rfl ?_
      refine j_int (y := nI (tkC t m (tkE t m p) - 1000)) (nu_ok k_53 c_56 (by omega)) ?_
      refine j_istore (lv' := [some (.ref (X.E.1 + 7)), some (.ref (X.E.1 + 4)), some (.int (nI (1))), some (.int (nI (tkC t m p - 1000))), some (.int (nI (tkC t m (tkE t m p) - 1000)))]) F dX4_readWall_65 rfl (hL _ (by decide)) rfl rfl ?_
      refine j_aload_n F dX4_readWall_67 rfl rfl ?_
      refine j_iconst (v := nI (1)) F dX4_readWall_68 rfl (by decide) ?_
      refine j_iload_n F dX4_readWall_69 rfl rfl ?_
      refine j_iconst (v := nI (1)) F dX4_readWall_70 rfl (by decide) ?_
      refine j_icmp_neN (a := 1) (b := 1) F (by omega) (by omega) (tgt := 84) dX4_readWall_71 (by decide) rfl (fun c_71 => False.elim (by revert c_71; decide)) (fun c_71 => ?_)
      refine j_aload_n F dX4_readWall_74 rfl rfl ?_
      refine gX4_71 (isPl_4 hn) F dX4_readWall_75 rfl ?_
      refine j_int (y := nI (P.H)) (hP_53.h) ?_
      refine j_iload F dX4_readWall_78 rfl rfl ?_
      refine j_isubN (a := P.H) (b := tkC t m (tkE t m p) - 1000) F (by omega) dX4_readWall_80 rfl ?_
      refine j_goto (pc' := 90) F dX4_readWall_81 (by decide) ?_
      refine kX4_57 hn F (As := [.int (nI (1)), .int (nI (P.H - (tkC t m (tkE t m p) - 1000)))]) (rest := []) (c_X4_readNumber hn T_53 (tkE t m (tkE t m p)) k_53.2.1 e_53.2 1 (P.H - (tkC t m (tkE t m p) - 1000)) (by omega) (by omega)) (by decide) rfl rfl (Nat.le_of_ble_eq_true rfl) dX4_readWall_90 rfl (fun v_90 σ_90 q_90 => ?_)
      obtain ⟨rfl, k_90, f_90, l_90⟩ := q_90
      have T_90 : TxtOK σ_90 t m := T_53.fr l_90 (f_90 8 (by decide))
      have e_90 := tkE_le (t := t) e_53.2
      have hP_90 : PlanOK σ_90 4 P := hP_53.frame (f_90 4 (by decide)) (f_90 5 (by decide)) (f_90 6 (by decide))
      refine j_if_neB F (x := okN (tkC t m (tkE t m (tkE t m p))) 1 (P.H - (tkC t m (tkE t m p) - 1000))) (tgt := 98) dX4_readWall_93 (by decide) rfl (fun c_93 => ?_) (fun c_93 => ?_)
      · have o3 := of_decide_eq_true c_93
        refine j_aload_n F dX4_readWall_98 rfl rfl ?_
        refine j_iload_n F dX4_readWall_99 rfl rfl ?_
        refine j_iload F dX4_readWall_100 rfl rfl ?_
        refine j_aload_n F dX4_readWall_102 rfl rfl ?_
        refine gX4_61 hn F dX4_readWall_103 rfl ?_
        refine j_int (y := nI (tkC t m (tkE t m (tkE t m p)) - 1000)) (nu_ok k_90 c_93 (by omega)) ?_
        refine j_iload_n F dX4_readWall_106 rfl rfl ?_
        refine kX4_74 (isPl_4 hn) F (As := [.int (nI (tkC t m p - 1000)), .int (nI (tkC t m (tkE t m p) - 1000)), .int (nI (tkC t m (tkE t m (tkE t m p)) - 1000)), .int (nI (1))]) (rest := []) (c_X2_addWall hn (isPl_4 hn) hP_90 (tkC t m p - 1000) (tkC t m (tkE t m p) - 1000) (tkC t m (tkE t m (tkE t m p)) - 1000) 1 hnw) (by decide) rfl rfl (Nat.le_of_ble_eq_true rfl) dX4_readWall_107 rfl (fun v_107 σ_107 q_107 => ?_)
        obtain ⟨rfl, hP_107, g_107⟩ := q_107
        have g7_107 := g_107 7 (by decide)
        have T_107 : TxtOK σ_107 t m := T_90.fr (by rw [g7_107]; exact T_90.1) (g_107 8 (by decide))
        have hp_107 : σ_107 7 5 = nI (tkE t m (tkE t m (tkE t m p))) := by rw [g7_107]; exact k_90.2.1
        refine j_aload_n F dX4_readWall_110 rfl rfl ?_
        refine kX4_64 hn F (As := []) (rest := []) (c_X4_readItemEnd hn T_107 (tkE t m (tkE t m (tkE t m p))) hp_107 e_90.2) (by decide) rfl rfl (Nat.le_of_ble_eq_true rfl) dX4_readWall_111 rfl (fun v_111 σ_111 q_111 => ?_)
        obtain ⟨rfl, k_111, f_111, l_111⟩ := q_111
        have T_111 : TxtOK σ_111 t m := T_107.fr l_111 (f_111 8 (by decide))
        have e_111 := tkE_le (t := t) e_90.2
        have hP_111 : PlanOK σ_111 4 (P.addW (tkC t m p - 1000) (tkC t m (tkE t m p) - 1000) (tkC t m (tkE t m (tkE t m p)) - 1000) 1) := hP_107.frame (f_111 4 (by decide)) (f_111 5 (by decide)) (f_111 6 (by decide))
        exact j_iret F hRt (bI_nar _) (PRo_end (by unfold wallR; simp only [if_pos rfl, if_true]; rw [numR_t c_23]; simp only; rw [numR_t c_56]; simp only; rw [numR_t c_93]) l_111 (((((Fr.rf.tr (f_20.sub (by simp))).tr (f_53.sub (by simp))).tr (f_90.sub (by simp))).tr (g_107.sub (by simp))).tr (f_111.sub (by simp))) k_111 hP_111) dX4_readWall_114
      · refine j_iconst (v := nI (0)) F dX4_readWall_96 rfl (by decide) ?_
        exact j_iret F hRt rfl (PRo_l (by unfold wallR; simp only [if_pos rfl, if_true]; rw [numR_t c_23]; simp only; rw [numR_t c_56]; simp only; rw [numR_f c_93]) l_90 (((Fr.rf.tr (f_20.sub (by simp))).tr (f_53.sub (by simp))).tr (f_90.sub (by simp))) k_90.1) dX4_readWall_97
    · refine j_iconst (v := nI (0)) F dX4_readWall_59 rfl (by decide) ?_
      exact j_iret F hRt rfl (PRo_l (by unfold wallR; simp only [if_pos rfl, if_true]; rw [numR_t c_23]; simp only; rw [numR_f c_56]) l_53 ((Fr.rf.tr (f_20.sub (by simp))).tr (f_53.sub (by simp))) k_53.1) dX4_readWall_60
  · refine j_iconst (v := nI (0)) F dX4_readWall_26 rfl (by decide) ?_
    exact j_iret F hRt rfl (PRo_l (by unfold wallR; simp only [if_pos rfl, if_true]; rw [numR_f c_23]) l_20 (Fr.rf.tr (f_20.sub (by simp))) k_20.1) dX4_readWall_27

set_option maxRecDepth 10000 in
set_option maxHeartbeats 2000000 in
theorem c_X4_readLamp {l : Launch} {n : Nat} {E : Ev} {σ : St} {t : Nat → Nat} {m : Nat} (hn : 55 ≤ n) (hT : TxtOK σ t m) (p : Nat) (hp : σ 7 5 = nI p) (hpm : p ≤ m) {P : Pl} (hP : PlanOK σ 4 P) (hG : PGt P) (hnl : P.nl < 8) : Ct l yX4_readLamp cX4_readLamp 3 (some .boolean) 3 n E [.ref (E.1 + 7), .ref (E.1 + 4)] σ (PRo σ m (lampR t m P p)) := by
  refine Ct.of (lv0 := [some (.ref (E.1 + 7)), some (.ref (E.1 + 4)), none]) (by decide) (Nat.le_of_ble_eq_true rfl) rfl ?_
  intro X hXn hXE hXl hXL F hRt
  subst hXn hXE hXl
  have hL : ∀ i, i < 3 → i < X.nL := fun i h => by rw [hXL]; exact h
  have hBd := hG.1.1
  obtain ⟨b1, b2, b3, b4, b5, b6, b7⟩ := hG.1.1
  refine j_aload_n F dX4_readLamp_0 rfl rfl ?_
  refine j_iconst (v := nI (0)) F dX4_readLamp_1 rfl (by decide) ?_
  refine j_aload_n F dX4_readLamp_2 rfl rfl ?_
  refine gX4_68 (isPl_4 hn) F dX4_readLamp_3 rfl ?_
  refine j_int (y := nI (P.W)) (hP.w) ?_
  refine j_iconst (v := nI (1)) F dX4_readLamp_6 rfl (by decide) ?_
  refine j_isubN (a := P.W) (b := 1) F (by omega) dX4_readLamp_7 rfl ?_
  refine kX4_57 hn F (As := [.int (nI (0)), .int (nI (P.W - 1))]) (rest := []) (c_X4_readNumber hn hT p hp hpm 0 (P.W - 1) (by omega) (by omega)) (by decide) rfl rfl (Nat.le_of_ble_eq_true rfl) dX4_readLamp_8 rfl (fun v_8 σ_8 q_8 => ?_)
  obtain ⟨rfl, k_8, f_8, l_8⟩ := q_8
  have T_8 : TxtOK σ_8 t m := hT.fr l_8 (f_8 8 (by decide))
  have e_8 := tkE_le (t := t) hpm
  have hP_8 : PlanOK σ_8 4 P := hP.frame (f_8 4 (by decide)) (f_8 5 (by decide)) (f_8 6 (by decide))
  refine j_if_neB F (x := okN (tkC t m p) 0 (P.W - 1)) (tgt := 16) dX4_readLamp_11 (by decide) rfl (fun c_11 => ?_) (fun c_11 => ?_)
  · have o1 := of_decide_eq_true c_11
    refine j_aload_n F dX4_readLamp_16 rfl rfl ?_
    refine gX4_61 hn F dX4_readLamp_17 rfl ?_
    refine j_int (y := nI (tkC t m p - 1000)) (nu_ok k_8 c_11 (by omega)) ?_
    refine j_istore_n (lv' := [some (.ref (X.E.1 + 7)), some (.ref (X.E.1 + 4)), some (.int (nI (tkC t m p - 1000)))]) F dX4_readLamp_20 rfl (hL _ (by decide)) rfl rfl ?_
    refine j_aload_n F dX4_readLamp_21 rfl rfl ?_
    refine j_iconst (v := nI (0)) F dX4_readLamp_22 rfl (by decide) ?_
    refine j_aload_n F dX4_readLamp_23 rfl rfl ?_
    refine gX4_71 (isPl_4 hn) F dX4_readLamp_24 rfl ?_
    refine j_int (y := nI (P.H)) (hP_8.h) ?_
    refine j_iconst (v := nI (1)) F dX4_readLamp_27 rfl (by decide) ?_
    refine j_isubN (a := P.H) (b := 1) F (by omega) dX4_readLamp_28 rfl ?_
    refine kX4_57 hn F (As := [.int (nI (0)), .int (nI (P.H - 1))]) (rest := []) (c_X4_readNumber hn T_8 (tkE t m p) k_8.2.1 e_8.2 0 (P.H - 1) (by omega) (by omega)) (by decide) rfl rfl (Nat.le_of_ble_eq_true rfl) dX4_readLamp_29 rfl (fun v_29 σ_29 q_29 => ?_)
    obtain ⟨rfl, k_29, f_29, l_29⟩ := q_29
    have T_29 : TxtOK σ_29 t m := T_8.fr l_29 (f_29 8 (by decide))
    have e_29 := tkE_le (t := t) e_8.2
    have hP_29 : PlanOK σ_29 4 P := hP_8.frame (f_29 4 (by decide)) (f_29 5 (by decide)) (f_29 6 (by decide))
    refine j_if_eqB F (x := okN (tkC t m (tkE t m p)) 0 (P.H - 1)) (tgt := 47) dX4_readLamp_32 (by decide) rfl (fun c_32 => ?_) (fun c_32 => ?_)
    · have hr : lampR t m P p = .inl (tkS t m (tkE t m p)) := by unfold lampR; rw [numR_t c_11]; simp only; rw [numR_f c_32]
      refine j_iconst (v := nI (0)) F dX4_readLamp_47 rfl (by decide) ?_
      exact j_iret F hRt rfl (PRo_l hr l_29 ((Fr.rf.tr (f_8.sub (by simp))).tr (f_29.sub (by simp))) k_29.1) dX4_readLamp_48
    · have o2 := of_decide_eq_true c_32
      refine j_aload_n F dX4_readLamp_35 rfl rfl ?_
      refine j_iload_n F dX4_readLamp_36 rfl rfl ?_
      refine j_aload_n F dX4_readLamp_37 rfl rfl ?_
      refine gX4_61 hn F dX4_readLamp_38 rfl ?_
      refine j_int (y := nI (tkC t m (tkE t m p) - 1000)) (nu_ok k_29 c_32 (by omega)) ?_
      refine kX4_78 (isPl_4 hn) F (As := [.int (nI (tkC t m p - 1000)), .int (nI (tkC t m (tkE t m p) - 1000))]) (rest := []) (c_X2_hasLampAt hn (isPl_4 hn) hP_29 hBd hG.1.2.2.1 (tkC t m p - 1000) (tkC t m (tkE t m p) - 1000) (by omega) (by omega)) (by decide) rfl rfl (Nat.le_of_ble_eq_true rfl) dX4_readLamp_41 rfl (ro_k ?_)
      refine j_if_eqB F (x := P.at (tkC t m p - 1000) (tkC t m (tkE t m p) - 1000)) (tgt := 49) dX4_readLamp_44 (by decide) rfl (fun c_44 => ?_) (fun c_44 => ?_)
      · refine j_aload_n F dX4_readLamp_49 rfl rfl ?_
        refine j_iload_n F dX4_readLamp_50 rfl rfl ?_
        refine j_aload_n F dX4_readLamp_51 rfl rfl ?_
        refine gX4_61 hn F dX4_readLamp_52 rfl ?_
        refine j_int (y := nI (tkC t m (tkE t m p) - 1000)) (nu_ok k_29 c_32 (by omega)) ?_
        refine kX4_81 (isPl_4 hn) F (As := [.int (nI (tkC t m p - 1000)), .int (nI (tkC t m (tkE t m p) - 1000))]) (rest := []) (c_X2_addLamp hn (isPl_4 hn) hP_29 (tkC t m p - 1000) (tkC t m (tkE t m p) - 1000) hnl) (by decide) rfl rfl (Nat.le_of_ble_eq_true rfl) dX4_readLamp_55 rfl (fun v_55 σ_55 q_55 => ?_)
        obtain ⟨rfl, hP_55, g_55⟩ := q_55
        have g7_55 := g_55 7 (by decide)
        have T_55 : TxtOK σ_55 t m := T_29.fr (by rw [g7_55]; exact T_29.1) (g_55 8 (by decide))
        have hp_55 : σ_55 7 5 = nI (tkE t m (tkE t m p)) := by rw [g7_55]; exact k_29.2.1
        refine j_aload_n F dX4_readLamp_58 rfl rfl ?_
        refine kX4_64 hn F (As := []) (rest := []) (c_X4_readItemEnd hn T_55 (tkE t m (tkE t m p)) hp_55 e_29.2) (by decide) rfl rfl (Nat.le_of_ble_eq_true rfl) dX4_readLamp_59 rfl (fun v_59 σ_59 q_59 => ?_)
        obtain ⟨rfl, k_59, f_59, l_59⟩ := q_59
        have T_59 : TxtOK σ_59 t m := T_55.fr l_59 (f_59 8 (by decide))
        have e_59 := tkE_le (t := t) e_29.2
        have hP_59 : PlanOK σ_59 4 (P.addL (tkC t m p - 1000) (tkC t m (tkE t m p) - 1000)) := hP_55.frame (f_59 4 (by decide)) (f_59 5 (by decide)) (f_59 6 (by decide))
        exact j_iret F hRt (bI_nar _) (PRo_end (by unfold lampR; rw [numR_t c_11]; simp only; rw [numR_t c_32]; simp only; rw [if_neg (by rw [c_44]; decide)]) l_59 ((((Fr.rf.tr (f_8.sub (by simp))).tr (f_29.sub (by simp))).tr (g_55.sub (by simp))).tr (f_59.sub (by simp))) k_59 hP_59) dX4_readLamp_62
      · have hr : lampR t m P p = .inl (tkS t m (tkE t m p)) := by unfold lampR; rw [numR_t c_11]; simp only; rw [numR_t c_32]; simp only; rw [if_pos c_44]
        refine j_iconst (v := nI (0)) F dX4_readLamp_47 rfl (by decide) ?_
        exact j_iret F hRt rfl (PRo_l hr l_29 ((Fr.rf.tr (f_8.sub (by simp))).tr (f_29.sub (by simp))) k_29.1) dX4_readLamp_48
  · refine j_iconst (v := nI (0)) F dX4_readLamp_14 rfl (by decide) ?_
    exact j_iret F hRt rfl (PRo_l (by unfold lampR; rw [numR_f c_11]) l_8 (Fr.rf.tr (f_8.sub (by simp))) k_8.1) dX4_readLamp_15
