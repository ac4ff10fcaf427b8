/-! ===== the past ===== -/
def pl0 : Pl := (0, 0, 0, 0, fun _ _ => 0, fun _ _ => 0)
def PastOK (σ : St) (hs : List Pl) : Prop := ∃ nx : Nat, nx < 10 ∧ σ 9 1 = nI nx ∧ σ 9 2 = nI hs.length ∧ hs.length ≤ 10 ∧ ∀ i, i < hs.length → PlanOK σ (11 + 3 * ((nx + 9 - i) % 10)) (hs.getD i pl0)
def ringL : List Nat := [9, 11, 12, 13, 14, 15, 16, 17, 18, 19, 20, 21, 22, 23, 24, 25, 26, 27, 28, 29, 30, 31, 32, 33, 34, 35, 36, 37, 38, 39, 40]
theorem ringL_mem : ∀ a, a < 41 → 11 ≤ a → a ∈ ringL := by decide
theorem fr3 {σ σ' : St} {k a : Nat} (h : Fr [k, k + 1, k + 2] σ σ') (h1 : a < k ∨ k + 2 < a) : σ' a = σ a := h a (by simp only [List.mem_cons, List.not_mem_nil, or_false]; omega)
theorem past_push {σ σ1 : St} {hs : List Pl} {P : Pl} {nx nx' : Nat} (hnx : nx < 10) (hp3 : hs.length ≤ 10) (hp4 : ∀ i, i < hs.length → PlanOK σ (11 + 3 * ((nx + 9 - i) % 10)) (hs.getD i pl0)) (hq : PlanOK σ1 (11 + 3 * nx) P) (hf : Fr [11 + 3 * nx, 11 + 3 * nx + 1, 11 + 3 * nx + 2] σ σ1) (hnx' : nx' = if nx + 1 < 10 then nx + 1 else 0) :
    PastOK (up (up σ1 9 1 (nI nx')) 9 2 (nI (min (hs.length + 1) 10))) ((P :: hs).take 10) ∧ Fr ringL σ (up (up σ1 9 1 (nI nx')) 9 2 (nI (min (hs.length + 1) 10))) := by
  have hn2 : nx' < 10 := by rw [hnx']; split <;> omega
  have en : ∀ a, a ≠ 9 → (up (up σ1 9 1 (nI nx')) 9 2 (nI (min (hs.length + 1) 10))) a = σ1 a := fun a ha => by simp only [up, upR_n _ _ ha]
  have hl : ((P :: hs).take 10).length = min (hs.length + 1) 10 := by rw [List.length_take, List.length_cons]; omega
  refine ⟨⟨nx', hn2, ?_, ?_, ?_, fun i hi => ?_⟩, fun a ha => ?_⟩
  · simp only [up, upR_s]; rw [upd_n _ _ (by decide), upd_s]
  · simp only [up, upR_s]; rw [upd_s, hl]
  · rw [hl]; omega
  · rw [hl] at hi
    have hg : ((P :: hs).take 10).getD i pl0 = (P :: hs).getD i pl0 := by
      rw [List.getD_eq_getElem?_getD, List.getElem?_take_of_lt (by omega), ← List.getD_eq_getElem?_getD]
    rw [hg]
    match i, hi with
    | 0, _ =>
      rw [show (nx' + 9 - 0) % 10 = nx by rw [hnx']; split <;> omega]
      exact hq.frame (en _ (by omega)) (en _ (by omega)) (en _ (by omega))
    | j + 1, hi =>
      rw [show (nx' + 9 - (j + 1)) % 10 = (nx + 9 - j) % 10 by rw [hnx']; split <;> omega]
      have hm : (nx + 9 - j) % 10 ≠ nx := by omega
      have hm2 : (nx + 9 - j) % 10 < 10 := Nat.mod_lt _ (by decide)
      have z := hp4 j (by omega)
      exact z.frame ((en _ (by omega)).trans (fr3 hf (by omega))) ((en _ (by omega)).trans (fr3 hf (by omega))) ((en _ (by omega)).trans (fr3 hf (by omega)))
  · have h9 : a ≠ 9 := fun q => ha (by rw [q]; decide)
    rw [en a h9]
    refine fr3 hf ?_
    by_cases h : 11 ≤ a ∧ a < 41
    · exact absurd (ringL_mem a h.2 h.1) ha
    · omega
theorem past_pop {σ σ1 : St} {hs : List Pl} {P : Pl} {nx nx' : Nat} (hnx : nx < 10) (hp3 : (P :: hs).length ≤ 10) (hp4 : ∀ i, i < (P :: hs).length → PlanOK σ (11 + 3 * ((nx + 9 - i) % 10)) ((P :: hs).getD i pl0)) (hnx' : nx' = if 0 < nx then nx - 1 else 9) (hf : Fr [1, 2, 3] (up σ 9 1 (nI nx')) σ1) (hq : PlanOK σ1 1 P) (hs9 : σ1 9 2 = nI (hs.length + 1)) :
    PastOK (up σ1 9 2 (nI hs.length)) hs ∧ PlanOK (up σ1 9 2 (nI hs.length)) 1 P ∧ Fr [1, 2, 3, 9] σ (up σ1 9 2 (nI hs.length)) := by
  have hn2 : nx' < 10 := by rw [hnx']; split <;> omega
  have en : ∀ a, a ≠ 9 → a ≠ 1 → a ≠ 2 → a ≠ 3 → (up σ1 9 2 (nI hs.length)) a = σ a := fun a h1 h2 h3 h4 => by
    rw [show (up σ1 9 2 (nI hs.length)) a = σ1 a from upR_n _ _ h1, hf a (by simp only [List.mem_cons, List.not_mem_nil, or_false]; omega)]
    exact upR_n _ _ h1
  have h9 : σ1 9 = upd (σ 9) 1 (nI nx') := by rw [hf 9 (by decide)]; exact upR_s _ _ _
  refine ⟨⟨nx', hn2, ?_, ?_, by simp only [List.length_cons] at hp3; omega, fun i hi => ?_⟩, ?_, fun a ha => ?_⟩
  · simp only [up, upR_s]; rw [upd_n _ _ (by decide), h9, upd_s]
  · simp only [up, upR_s]; rw [upd_s]
  · have z := hp4 (i + 1) (by simp only [List.length_cons]; omega)
    rw [show (nx + 9 - (i + 1)) % 10 = (nx' + 9 - i) % 10 by simp only [List.length_cons] at hp3; rw [hnx']; split <;> omega] at z
    exact z.frame (en _ (by omega) (by omega) (by omega) (by omega)) (en _ (by omega) (by omega) (by omega) (by omega)) (en _ (by omega) (by omega) (by omega) (by omega))
  · exact hq.frame (upR_n _ _ (by decide)) (upR_n _ _ (by decide)) (upR_n _ _ (by decide))
  · simp only [List.mem_cons, List.not_mem_nil, or_false, not_or] at ha
    exact en a ha.2.2.2 ha.1 ha.2.1 ha.2.2.1
set_option maxRecDepth 10000 in
set_option maxHeartbeats 2000000 in
theorem c_X1_remember {l : Launch} {n : Nat} {E : Ev} {σ : St} {P : Pl} {hs : List Pl} (hn : 55 ≤ n) (hP : PlanOK σ 1 P) (hPa : PastOK σ hs) (hw : P.nw ≤ 14) (hl : P.nl ≤ 8) : Ct l yX1_remember cX1_remember 2 none 2 n E [.ref (E.1 + 9), .ref (E.1 + 1)] σ (fun v' σ' => v' = none ∧ PastOK σ' ((P :: hs).take 10) ∧ Fr ringL σ σ') := by
  refine Ct.of (lv0 := [some (.ref (E.1 + 9)), some (.ref (E.1 + 1))]) (by decide) (Nat.le_of_ble_eq_true rfl) rfl ?_
  intro X hXn hXE hXl hXL F hRt
  subst hXn hXE hXl
  have hL : ∀ i, i < 2 → i < X.nL := fun i h => by rw [hXL]; exact h
  obtain ⟨nx, hnx, hp1, hp2, hp3, hp4⟩ := hPa
  refine j_aload_n F dX1_remember_0 rfl rfl ?_
  refine gX1_11 hn F dX1_remember_1 rfl ?_
  refine j_aload_n F dX1_remember_4 rfl rfl ?_
  refine gX1_18 hn F dX1_remember_5 rfl ?_
  refine j_int (y := nI (nx)) (hp1) ?_
  refine j_aaload (a := nx) F (by omega) rfl rfl (by omega) (by decide) dX1_remember_8 rfl ?_
  refine j_aload_n F dX1_remember_9 rfl rfl ?_
  refine kX1_22 (isPl_r hn hnx) F (As := [.ref (X.E.1 + 1)]) (rest := []) (c_X2_copyFrom hn (isPl_r hn hnx) (isPl_1 hn) hP (by omega) hw hl) (by decide) rfl rfl (Nat.le_of_ble_eq_true rfl) dX1_remember_10 rfl (fun v_10 σ_10 q_10 => ?_)
  obtain ⟨rfl, p_10, f_10⟩ := q_10
  refine j_aload_n F dX1_remember_13 rfl rfl ?_
  refine j_aload_n F dX1_remember_14 rfl rfl ?_
  refine gX1_18 hn F dX1_remember_15 rfl ?_
  refine j_int (y := nI (nx)) (by rw [fr3 f_10 (by omega)]; exact hp1) ?_
  refine j_iconst (v := nI (1)) F dX1_remember_18 rfl (by decide) ?_
  refine j_iaddN (a := nx) (b := 1) F dX1_remember_19 rfl ?_
  refine j_bipush (v := nI (10)) F dX1_remember_20 rfl (by decide) ?_
  refine j_icmp_geN (a := nx + 1) (b := 10) F (by omega) (by omega) (tgt := 34) dX1_remember_22 (by decide) rfl (fun c_22 => ?_) (fun c_22 => ?_)
  · refine j_iconst (v := nI (0)) F dX1_remember_34 rfl (by decide) ?_
    refine pX1_18 hn F dX1_remember_35 rfl ?_
    refine j_aload_n F dX1_remember_38 rfl rfl ?_
    refine j_aload_n F dX1_remember_39 rfl rfl ?_
    refine gX1_26 hn F dX1_remember_40 rfl ?_
    refine j_int (y := nI (hs.length)) (by simp only [up, upR_s]; rw [upd_n _ _ (by decide), fr3 f_10 (by omega)]; exact hp2) ?_
    refine j_iconst (v := nI (1)) F dX1_remember_43 rfl (by decide) ?_
    refine j_iaddN (a := hs.length) (b := 1) F dX1_remember_44 rfl ?_
    refine j_bipush (v := nI (10)) F dX1_remember_45 rfl (by decide) ?_
    refine j_mmin F (a := hs.length + 1) (b := 10) (by omega) (by omega) (by decide) (Nat.le_of_ble_eq_true rfl) dX1_remember_47 rfl ?_
    refine pX1_26 hn F dX1_remember_50 rfl ?_
    exact j_vret F hRt (by have z := past_push hnx hp3 hp4 p_10 f_10 rfl; (first | rw [if_pos c_22] at z | rw [if_neg (by omega)] at z); exact ⟨rfl, z.1, z.2⟩) dX1_remember_53
  · refine j_aload_n F dX1_remember_25 rfl rfl ?_
    refine gX1_18 hn F dX1_remember_26 rfl ?_
    refine j_int (y := nI (nx)) (by rw [fr3 f_10 (by omega)]; exact hp1) ?_
    refine j_iconst (v := nI (1)) F dX1_remember_29 rfl (by decide) ?_
    refine j_iaddN (a := nx) (b := 1) F dX1_remember_30 rfl ?_
    refine j_goto (pc' := 35) F dX1_remember_31 (by decide) ?_
    refine pX1_18 hn F dX1_remember_35 rfl ?_
    refine j_aload_n F dX1_remember_38 rfl rfl ?_
    refine j_aload_n F dX1_remember_39 rfl rfl ?_
    refine gX1_26 hn F dX1_remember_40 rfl ?_
    refine j_int (y := nI (hs.length)) (by simp only [up, upR_s]; rw [upd_n _ _ (by decide), fr3 f_10 (by omega)]; exact hp2) ?_
    refine j_iconst (v := nI (1)) F dX1_remember_43 rfl (by decide) ?_
    refine j_iaddN (a := hs.length) (b := 1) F dX1_remember_44 rfl ?_
    refine j_bipush (v := nI (10)) F dX1_remember_45 rfl (by decide) ?_
    refine j_mmin F (a := hs.length + 1) (b := 10) (by omega) (by omega) (by decide) (Nat.le_of_ble_eq_true rfl) dX1_remember_47 rfl ?_
    refine pX1_26 hn F dX1_remember_50 rfl ?_
    exact j_vret F hRt (by have z := past_push hnx hp3 hp4 p_10 f_10 rfl; (first | rw [if_pos c_22] at z | rw [if_neg (by omega)] at z); exact ⟨rfl, z.1, z.2⟩) dX1_remember_53

set_option maxRecDepth 10000 in
set_option maxHeartbeats 2000000 in
theorem c_X1_restore {l : Launch} {n : Nat} {E : Ev} {σ : St} {P : Pl} {hs : List Pl} (hn : 55 ≤ n) (hPa : PastOK σ (P :: hs)) (hw : P.nw ≤ 14) (hl : P.nl ≤ 8) : Ct l yX1_restore cX1_restore 2 none 2 n E [.ref (E.1 + 9), .ref (E.1 + 1)] σ (fun v' σ' => v' = none ∧ PastOK σ' hs ∧ PlanOK σ' 1 P ∧ Fr [1, 2, 3, 9] σ σ') := by
  refine Ct.of (lv0 := [some (.ref (E.1 + 9)), some (.ref (E.1 + 1))]) (by decide) (Nat.le_of_ble_eq_true rfl) rfl ?_
  intro X hXn hXE hXl hXL F hRt
  subst hXn hXE hXl
  have hL : ∀ i, i < 2 → i < X.nL := fun i h => by rw [hXL]; exact h
  obtain ⟨nx, hnx, hp1, hp2, hp3, hp4⟩ := hPa
  have hp30 : hs.length + 1 ≤ 10 := hp3
  refine j_aload_n F dX1_restore_0 rfl rfl ?_
  refine j_aload_n F dX1_restore_1 rfl rfl ?_
  refine gX1_18 hn F dX1_restore_2 rfl ?_
  refine j_int (y := nI (nx)) (hp1) ?_
  refine j_if_leN (a := nx) F (by omega) (tgt := 17) dX1_restore_5 (by decide) rfl (fun c_5 => ?_) (fun c_5 => ?_)
  · refine j_bipush (v := nI (9)) F dX1_restore_17 rfl (by decide) ?_
    refine pX1_18 hn F dX1_restore_19 rfl ?_
    refine j_aload_n F dX1_restore_22 rfl rfl ?_
    refine j_aload_n F dX1_restore_23 rfl rfl ?_
    refine gX1_11 hn F dX1_restore_24 rfl ?_
    refine j_aload_n F dX1_restore_27 rfl rfl ?_
    refine gX1_18 hn F dX1_restore_28 rfl ?_
    refine j_int (y := nI (9)) (by simp only [up, upR_s, upd_s]) ?_
    refine j_aaload (a := 9) F (by omega) rfl rfl (by omega) (by decide) dX1_restore_31 rfl ?_
    have hz : PlanOK (up σ 9 1 (nI (9))) (11 + 3 * 9) P := by
      have z := hp4 0 (by simp)
      rw [show (nx + 9 - 0) % 10 = 9 by omega] at z
      exact z.frame (upR_n _ _ (by omega)) (upR_n _ _ (by omega)) (upR_n _ _ (by omega))
    refine kX1_22 (isPl_1 hn) F (As := [.ref (X.E.1 + (11 + 3 * 9))]) (rest := []) (c_X2_copyFrom hn (isPl_1 hn) (isPl_r hn (show 9 < 10 by omega)) hz (by omega) hw hl) (by decide) rfl rfl (Nat.le_of_ble_eq_true rfl) dX1_restore_32 rfl (fun v_32 σ_32 q_32 => ?_)
    obtain ⟨rfl, p_32, f_32⟩ := q_32
    have hs9 : σ_32 9 2 = nI (hs.length + 1) := by rw [f_32 9 (by decide)]; simp only [up, upR_s]; rw [upd_n _ _ (by decide)]; exact hp2
    refine j_aload_n F dX1_restore_35 rfl rfl ?_
    refine j_dup F dX1_restore_36 rfl rfl ?_
    refine gX1_26 hn F dX1_restore_37 rfl ?_
    refine j_int (y := nI (hs.length + 1)) (hs9) ?_
    refine j_iconst (v := nI (1)) F dX1_restore_40 rfl (by decide) ?_
    refine j_isubN (a := hs.length + 1) (b := 1) F (by omega) dX1_restore_41 rfl ?_
    refine pX1_26 hn F dX1_restore_42 rfl ?_
    exact j_vret F hRt (by have z := past_pop hnx hp3 hp4 rfl (by (first | rw [if_pos c_5] | rw [if_neg (by omega)]); exact f_32) p_32 hs9; rw [Nat.add_sub_cancel]; exact ⟨rfl, z.1, z.2.1, z.2.2⟩) dX1_restore_45
  · refine j_aload_n F dX1_restore_8 rfl rfl ?_
    refine gX1_18 hn F dX1_restore_9 rfl ?_
    refine j_int (y := nI (nx)) (hp1) ?_
    refine j_iconst (v := nI (1)) F dX1_restore_12 rfl (by decide) ?_
    refine j_isubN (a := nx) (b := 1) F (by omega) dX1_restore_13 rfl ?_
    refine j_goto (pc' := 19) F dX1_restore_14 (by decide) ?_
    refine pX1_18 hn F dX1_restore_19 rfl ?_
    refine j_aload_n F dX1_restore_22 rfl rfl ?_
    refine j_aload_n F dX1_restore_23 rfl rfl ?_
    refine gX1_11 hn F dX1_restore_24 rfl ?_
    refine j_aload_n F dX1_restore_27 rfl rfl ?_
    refine gX1_18 hn F dX1_restore_28 rfl ?_
    refine j_int (y := nI (nx - 1)) (by simp only [up, upR_s, upd_s]) ?_
    refine j_aaload (a := nx - 1) F (by omega) rfl rfl (by omega) (by decide) dX1_restore_31 rfl ?_
    have hz : PlanOK (up σ 9 1 (nI (nx - 1))) (11 + 3 * (nx - 1)) P := by
      have z := hp4 0 (by simp)
      rw [show (nx + 9 - 0) % 10 = nx - 1 by omega] at z
      exact z.frame (upR_n _ _ (by omega)) (upR_n _ _ (by omega)) (upR_n _ _ (by omega))
    refine kX1_22 (isPl_1 hn) F (As := [.ref (X.E.1 + (11 + 3 * (nx - 1)))]) (rest := []) (c_X2_copyFrom hn (isPl_1 hn) (isPl_r hn (show (nx - 1) < 10 by omega)) hz (by omega) hw hl) (by decide) rfl rfl (Nat.le_of_ble_eq_true rfl) dX1_restore_32 rfl (fun v_32 σ_32 q_32 => ?_)
    obtain ⟨rfl, p_32, f_32⟩ := q_32
    have hs9 : σ_32 9 2 = nI (hs.length + 1) := by rw [f_32 9 (by decide)]; simp only [up, upR_s]; rw [upd_n _ _ (by decide)]; exact hp2
    refine j_aload_n F dX1_restore_35 rfl rfl ?_
    refine j_dup F dX1_restore_36 rfl rfl ?_
    refine gX1_26 hn F dX1_restore_37 rfl ?_
    refine j_int (y := nI (hs.length + 1)) (hs9) ?_
    refine j_iconst (v := nI (1)) F dX1_restore_40 rfl (by decide) ?_
    refine j_isubN (a := hs.length + 1) (b := 1) F (by omega) dX1_restore_41 rfl ?_
    refine pX1_26 hn F dX1_restore_42 rfl ?_
    exact j_vret F hRt (by have z := past_pop hnx hp3 hp4 rfl (by (first | rw [if_pos c_5] | rw [if_neg (by omega)]); exact f_32) p_32 hs9; rw [Nat.add_sub_cancel]; exact ⟨rfl, z.1, z.2.1, z.2.2⟩) dX1_restore_45
