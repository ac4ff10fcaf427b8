set_option maxRecDepth 10000 in
set_option maxHeartbeats 2000000 in
theorem c_X6_divisor {l : Launch} {n : Nat} {E : Ev} {σ : St} (a b : Int) (ha : bd a 1000000) (hb : bd b 1000000) : Ct l yX6_divisor cX6_divisor 5 (some .int) 1 n E [.int (iI (a)), .int (iI (b))] σ (ro (.int (nI (gc a b))) σ) := by
  refine Ct.of (lv0 := [some (.int (iI (a))), some (.int (iI (b))), none, none, none]) (by decide) (Nat.le_of_ble_eq_true rfl) rfl ?_
  intro X hXn hXE hXl hXL F hRt
  subst hXn hXE hXl
  have hL : ∀ i, i < 5 → i < X.nL := fun i h => by rw [hXL]; exact h
  have na := bd_na.mp ha
  have nb := bd_na.mp hb
  refine j_iload_n F dX6_divisor_0 rfl rfl ?_
  refine kX6_170 F (As := [.int (iI (a))]) (rest := []) (c_X6_size (a) ha (by decide)) (by decide) rfl rfl (Nat.le_of_ble_eq_true rfl) dX6_divisor_1 rfl (ro_k ?_)
  refine j_istore_n (lv' := [some (.int (iI (a))), some (.int (iI (b))), some (.int (nI ((a).natAbs))), none, none]) F dX6_divisor_4 rfl (hL _ (by decide)) rfl rfl ?_
  refine j_iload_n F dX6_divisor_5 rfl rfl ?_
  refine kX6_170 F (As := [.int (iI (b))]) (rest := []) (c_X6_size (b) hb (by decide)) (by decide) rfl rfl (Nat.le_of_ble_eq_true rfl) dX6_divisor_6 rfl (ro_k ?_)
  refine j_istore_n (lv' := [some (.int (iI (a))), some (.int (iI (b))), some (.int (nI ((a).natAbs))), some (.int (nI ((b).natAbs))), none]) F dX6_divisor_9 rfl (hL _ (by decide)) rfl rfl ?_
  have loop_10 : ∀ (m_10 : Nat), ∀ (u : Nat) (v : Nat), (u ≤ 1000000) → (v ≤ 1000000) → (Nat.gcd u v = gc a b) → v ≤ m_10 → J X 10 [some (.int (iI (a))), some (.int (iI (b))), some (.int (nI (u))), some (.int (nI (v))), none] [] σ := by
    intro m_10
    induction m_10 using Nat.strongRecOn with | _ m_10 ih_10 => ?_
    intro u v hu hv hG
    intro hm_10
    refine j_iload_n F dX6_divisor_10 rfl rfl ?_
    refine j_if_eqN (a := v) F (by omega) (tgt := 27) dX6_divisor_11 (by decide) rfl (fun c_11 => ?_) (fun c_11 => ?_)
    · have hz : u = gc a b := by rw [← hG, c_11, Nat.gcd_zero_right]
      refine j_iload_n F dX6_divisor_27 rfl rfl ?_
      exact j_iret F hRt rfl (roI (by rw [hz])) dX6_divisor_28
    · refine j_iload_n F dX6_divisor_14 rfl rfl ?_
      refine j_iload_n F dX6_divisor_15 rfl rfl ?_
      refine j_iremN (a := u) (b := v) F (by omega) (by omega) (by omega) dX6_divisor_16 rfl ?_
      refine j_istore (lv' := [some (.int (iI (a))), some (.int (iI (b))), some (.int (nI (u))), some (.int (nI (v))), some (.int (nI (u % v)))]) F dX6_divisor_17 rfl (hL _ (by decide)) rfl rfl ?_
      refine j_iload_n F dX6_divisor_19 rfl rfl ?_
      refine j_istore_n (lv' := [some (.int (iI (a))), some (.int (iI (b))), some (.int (nI (v))), some (.int (nI (v))), some (.int (nI (u % v)))]) F dX6_divisor_20 rfl (hL _ (by decide)) rfl rfl ?_
      refine j_iload F dX6_divisor_21 rfl rfl ?_
      refine j_istore_n (lv' := [some (.int (iI (a))), some (.int (iI (b))), some (.int (nI (v))), some (.int (nI (u % v))), some (.int (nI (u % v)))]) F dX6_divisor_23 rfl (hL _ (by decide)) rfl rfl ?_
      refine j_goto (pc' := 10) F dX6_divisor_24 (by decide) ?_
      refine j_lv (lv' := [some (.int (iI (a))), some (.int (iI (b))), some (.int (nI (v))), some (.int (nI (u % v))), none]) (sbl (ks := [0, 1, 2, 3]) rfl) ?_
      exact ih_10 _ (by have := Nat.mod_lt u (show 0 < v by omega); omega) v (u % v) hv (by have := Nat.mod_lt u (show 0 < v by omega); omega) (by rw [eu_gcd]; exact hG) (Nat.le_refl _)
  exact loop_10 _ a.natAbs b.natAbs (by omega) (by omega) rfl (Nat.le_refl _)

set_option maxRecDepth 10000 in
set_option maxHeartbeats 2000000 in
theorem c_X6_isAhead {l : Launch} {n : Nat} {E : Ev} {σ : St} (a b c d : Int) (ha : bd a 20) (hb : bd b 20) (hc : bd c 20) (hd : bd d 20) : Ct l yX6_isAhead cX6_isAhead 4 (some .boolean) 0 n E [.int (iI (a)), .int (iI (b)), .int (iI (c)), .int (iI (d))] σ (ro (.int (bI (ahd (a, b) (c, d)))) σ) := by
  refine Ct.of (lv0 := [some (.int (iI (a))), some (.int (iI (b))), some (.int (iI (c))), some (.int (iI (d)))]) (by decide) (Nat.le_of_ble_eq_true rfl) rfl ?_
  intro X hXn hXE hXl hXL F hRt
  subst hXn hXE hXl
  have hL : ∀ i, i < 4 → i < X.nL := fun i h => by rw [hXL]; exact h
  refine j_iload_n F dX6_isAhead_0 rfl rfl ?_
  refine j_if_leZ F (a := b) rfl hb (by decide) (tgt := 8) dX6_isAhead_1 (by decide) rfl (fun c_1 => ?_) (fun c_1 => ?_)
  · refine j_iconst (v := nI (0)) F dX6_isAhead_8 rfl (by decide) ?_
    refine j_iload_n F dX6_isAhead_9 rfl rfl ?_
    refine j_if_leZ F (a := d) rfl hd (by decide) (tgt := 17) dX6_isAhead_10 (by decide) rfl (fun c_10 => ?_) (fun c_10 => ?_)
    · refine j_iconst (v := nI (0)) F dX6_isAhead_17 rfl (by decide) ?_
      refine j_icmp_eqN (a := 0) (b := 0) F (by omega) (by omega) (tgt := 31) dX6_isAhead_18 (by decide) rfl (fun c_18 => ?_) (fun c_18 => False.elim (by revert c_18; decide))
      refine j_iload_n F dX6_isAhead_31 rfl rfl ?_
      refine j_iload_n F dX6_isAhead_32 rfl rfl ?_
      refine j_imulZ F (a := a) (b := d) rfl rfl dX6_isAhead_33 rfl ?_
      refine j_iload_n F dX6_isAhead_34 rfl rfl ?_
      refine j_iload_n F dX6_isAhead_35 rfl rfl ?_
      refine j_imulZ F (a := b) (b := c) rfl rfl dX6_isAhead_36 rfl ?_
      refine j_isubZ F (a := a * d) (b := b * c) rfl rfl dX6_isAhead_37 rfl ?_
      refine j_if_leZ F (a := (a * d) - (b * c)) rfl (bd_sub (bd_mul ha hd) (bd_mul hb hc)) (by decide) (tgt := 45) dX6_isAhead_38 (by decide) rfl (fun c_38 => ?_) (fun c_38 => ?_)
      · have hz : ahd (a, b) (c, d) = false := by
          unfold ahd
          rw [if_pos (by omega)]
          exact decide_eq_false (by show ¬ 0 < a * d - b * c; omega)
        refine j_iconst (v := nI (0)) F dX6_isAhead_45 rfl (by decide) ?_
        exact j_iret F hRt rfl (roB_f hz) dX6_isAhead_46
      · have hz : ahd (a, b) (c, d) = true := by
          unfold ahd
          rw [if_pos (by omega)]
          exact decide_eq_true (by show 0 < a * d - b * c; omega)
        refine j_iconst (v := nI (1)) F dX6_isAhead_41 rfl (by decide) ?_
        refine j_goto (pc' := 46) F dX6_isAhead_42 (by decide) ?_
        exact j_iret F hRt rfl (roB_t hz) dX6_isAhead_46
    · refine j_iconst (v := nI (1)) F dX6_isAhead_13 rfl (by decide) ?_
      refine j_goto (pc' := 18) F dX6_isAhead_14 (by decide) ?_
      refine j_icmp_eqN (a := 0) (b := 1) F (by omega) (by omega) (tgt := 31) dX6_isAhead_18 (by decide) rfl (fun c_18 => False.elim (by revert c_18; decide)) (fun c_18 => ?_)
      refine j_iload_n F dX6_isAhead_21 rfl rfl ?_
      refine j_if_leZ F (a := b) rfl hb (by decide) (tgt := 29) dX6_isAhead_22 (by decide) rfl (fun c_22 => ?_) (fun c_22 => ?_)
      · have hz : ahd (a, b) (c, d) = false := by
          unfold ahd
          rw [if_neg (by omega)]
          exact decide_eq_false (by omega)
        refine j_iconst (v := nI (0)) F dX6_isAhead_29 rfl (by decide) ?_
        exact j_iret F hRt rfl (roB_f hz) dX6_isAhead_30
      · have hz : ahd (a, b) (c, d) = true := by
          unfold ahd
          rw [if_neg (by omega)]
          exact decide_eq_true (by omega)
        refine j_iconst (v := nI (1)) F dX6_isAhead_25 rfl (by decide) ?_
        refine j_goto (pc' := 30) F dX6_isAhead_26 (by decide) ?_
        exact j_iret F hRt rfl (roB_t hz) dX6_isAhead_30
  · refine j_iconst (v := nI (1)) F dX6_isAhead_4 rfl (by decide) ?_
    refine j_goto (pc' := 9) F dX6_isAhead_5 (by decide) ?_
    refine j_iload_n F dX6_isAhead_9 rfl rfl ?_
    refine j_if_leZ F (a := d) rfl hd (by decide) (tgt := 17) dX6_isAhead_10 (by decide) rfl (fun c_10 => ?_) (fun c_10 => ?_)
    · refine j_iconst (v := nI (0)) F dX6_isAhead_17 rfl (by decide) ?_
      refine j_icmp_eqN (a := 1) (b := 0) F (by omega) (by omega) (tgt := 31) dX6_isAhead_18 (by decide) rfl (fun c_18 => False.elim (by revert c_18; decide)) (fun c_18 => ?_)
      refine j_iload_n F dX6_isAhead_21 rfl rfl ?_
      refine j_if_leZ F (a := b) rfl hb (by decide) (tgt := 29) dX6_isAhead_22 (by decide) rfl (fun c_22 => ?_) (fun c_22 => ?_)
      · have hz : ahd (a, b) (c, d) = false := by
          unfold ahd
          rw [if_neg (by omega)]
          exact decide_eq_false (by omega)
        refine j_iconst (v := nI (0)) F dX6_isAhead_29 rfl (by decide) ?_
        exact j_iret F hRt rfl (roB_f hz) dX6_isAhead_30
      · have hz : ahd (a, b) (c, d) = true := by
          unfold ahd
          rw [if_neg (by omega)]
          exact decide_eq_true (by omega)
        refine j_iconst (v := nI (1)) F dX6_isAhead_25 rfl (by decide) ?_
        refine j_goto (pc' := 30) F dX6_isAhead_26 (by decide) ?_
        exact j_iret F hRt rfl (roB_t hz) dX6_isAhead_30
    · refine j_iconst (v := nI (1)) F dX6_isAhead_13 rfl (by decide) ?_
      refine j_goto (pc' := 18) F dX6_isAhead_14 (by decide) ?_
      refine j_icmp_eqN (a := 1) (b := 1) F (by omega) (by omega) (tgt := 31) dX6_isAhead_18 (by decide) rfl (fun c_18 => ?_) (fun c_18 => False.elim (by revert c_18; decide))
      refine j_iload_n F dX6_isAhead_31 rfl rfl ?_
      refine j_iload_n F dX6_isAhead_32 rfl rfl ?_
      refine j_imulZ F (a := a) (b := d) rfl rfl dX6_isAhead_33 rfl ?_
      refine j_iload_n F dX6_isAhead_34 rfl rfl ?_
      refine j_iload_n F dX6_isAhead_35 rfl rfl ?_
      refine j_imulZ F (a := b) (b := c) rfl rfl dX6_isAhead_36 rfl ?_
      refine j_isubZ F (a := a * d) (b := b * c) rfl rfl dX6_isAhead_37 rfl ?_
      refine j_if_leZ F (a := (a * d) - (b * c)) rfl (bd_sub (bd_mul ha hd) (bd_mul hb hc)) (by decide) (tgt := 45) dX6_isAhead_38 (by decide) rfl (fun c_38 => ?_) (fun c_38 => ?_)
      · have hz : ahd (a, b) (c, d) = false := by
          unfold ahd
          rw [if_pos (by omega)]
          exact decide_eq_false (by show ¬ 0 < a * d - b * c; omega)
        refine j_iconst (v := nI (0)) F dX6_isAhead_45 rfl (by decide) ?_
        exact j_iret F hRt rfl (roB_f hz) dX6_isAhead_46
      · have hz : ahd (a, b) (c, d) = true := by
          unfold ahd
          rw [if_pos (by omega)]
          exact decide_eq_true (by show 0 < a * d - b * c; omega)
        refine j_iconst (v := nI (1)) F dX6_isAhead_41 rfl (by decide) ?_
        refine j_goto (pc' := 46) F dX6_isAhead_42 (by decide) ?_
        exact j_iret F hRt rfl (roB_t hz) dX6_isAhead_46

set_option maxRecDepth 10000 in
set_option maxHeartbeats 2000000 in
theorem c_X6_comes {l : Launch} {n : Nat} {E : Ev} {σ : St} {P : Pl} (hn : 69 ≤ n) (hM : MP σ P) (hBd : PB P) (hLm : ∀ l, l < P.nl → LampOK P l) {E0 : List Dr} (hR : EvM σ E0) (hRB : RB E0) (hlen : E0.length < 128) (l0 x y : Nat) (hl : l0 < P.nl) (hx : x ≤ 9) (hy : y ≤ 9) : Ct l yX6_comes cX6_comes 9 none 2 n E [.ref (E.1 + 55), .int (nI (l0)), .int (nI (x)), .int (nI (y))] σ (fun v' σ' => v' = none ∧ EvM σ' (insE (dirP (P.lp l0 0) (P.lp l0 1) x y) E0) ∧ FrE σ σ') := by
  refine Ct.of (lv0 := [some (.ref (E.1 + 55)), some (.int (nI (l0))), some (.int (nI (x))), some (.int (nI (y))), none, none, none, none, none]) (by decide) (Nat.le_of_ble_eq_true rfl) rfl ?_
  intro X hXn hXE hXl hXL F hRt
  subst hXn hXE hXl
  have hL : ∀ i, i < 9 → i < X.nL := fun i h => by rw [hXL]; exact h
  have hB0 := hBd
  obtain ⟨b1, b2, b3, b4, b5, b6, b7⟩ := hB0
  have hlo := hLm l0 hl
  unfold LampOK at hlo
  obtain ⟨a, hae⟩ : ∃ a : Int, a = 2 * (x : Int) - (2 * (P.lp l0 0 : Int) + 1) := ⟨_, rfl⟩
  obtain ⟨b, hbe⟩ : ∃ b : Int, b = 2 * (y : Int) - (2 * (P.lp l0 1 : Int) + 1) := ⟨_, rfl⟩
  have hd0 : dirP (P.lp l0 0) (P.lp l0 1) x y = red a b := by rw [hae, hbe]; rfl
  rw [hd0] at hRt
  have ha : bd a 20 := ⟨by omega, by omega⟩
  have hb : bd b 20 := ⟨by omega, by omega⟩
  have ha0 : ¬ a = 0 := by omega
  have hb0 : ¬ b = 0 := by omega
  have g0 : 0 < gc a b := gc_pos ha0
  have g1 : gc a b ≤ 20 := Nat.le_trans (gc_le ha0) (bd_na.mp ha)
  have r1 : bd (red a b).1 20 := bd_td ha
  have r2 : bd (red a b).2 20 := bd_td hb
  refine j_iconst (v := nI (2)) F dX6_comes_0 rfl (by decide) ?_
  refine j_iload_n F dX6_comes_1 rfl rfl ?_
  refine j_imulN (a := 2) (b := x) F dX6_comes_2 rfl ?_
  refine j_iconst (v := nI (2)) F dX6_comes_3 rfl (by decide) ?_
  refine j_aload_n F dX6_comes_4 rfl rfl ?_
  refine j_iload_n F dX6_comes_5 rfl rfl ?_
  refine j_iconst (v := nI (0)) F dX6_comes_6 rfl (by decide) ?_
  refine kX6_70 hn F (As := [.int (nI (l0)), .int (nI (0))]) (rest := [.int (nI (2)), .int (nI (2 * x))]) (c_X6_ofLamp hn hM hBd l0 0 (by omega) (by omega)) (by decide) rfl rfl (Nat.le_of_ble_eq_true rfl) dX6_comes_7 rfl (ro_k ?_)
  refine j_imulN (a := 2) (b := P.lp l0 0) F dX6_comes_10 rfl ?_
  refine j_isubZ F (a := ((2 * x : Nat) : Int)) (b := ((2 * (P.lp l0 0) : Nat) : Int)) (nI_iI _) (nI_iI _) dX6_comes_11 rfl ?_
  refine j_iconst (v := nI (1)) F dX6_comes_12 rfl (by decide) ?_
  refine j_isubZ F (a := ((2 * x : Nat) : Int) - ((2 * (P.lp l0 0) : Nat) : Int)) (b := ((1 : Nat) : Int)) rfl (nI_iI _) dX6_comes_13 rfl ?_
  refine j_int (y := iI (a)) (by congr 1; omega) ?_
  refine j_istore (lv' := [some (.ref (X.E.1 + 55)), some (.int (nI (l0))), some (.int (nI (x))), some (.int (nI (y))), some (.int (iI (a))), none, none, none, none]) F dX6_comes_14 rfl (hL _ (by decide)) rfl rfl ?_
  refine j_iconst (v := nI (2)) F dX6_comes_16 rfl (by decide) ?_
  refine j_iload_n F dX6_comes_17 rfl rfl ?_
  refine j_imulN (a := 2) (b := y) F dX6_comes_18 rfl ?_
  refine j_iconst (v := nI (2)) F dX6_comes_19 rfl (by decide) ?_
  refine j_aload_n F dX6_comes_20 rfl rfl ?_
  refine j_iload_n F dX6_comes_21 rfl rfl ?_
  refine j_iconst (v := nI (1)) F dX6_comes_22 rfl (by decide) ?_
  refine kX6_70 hn F (As := [.int (nI (l0)), .int (nI (1))]) (rest := [.int (nI (2)), .int (nI (2 * y))]) (c_X6_ofLamp hn hM hBd l0 1 (by omega) (by omega)) (by decide) rfl rfl (Nat.le_of_ble_eq_true rfl) dX6_comes_23 rfl (ro_k ?_)
  refine j_imulN (a := 2) (b := P.lp l0 1) F dX6_comes_26 rfl ?_
  refine j_isubZ F (a := ((2 * y : Nat) : Int)) (b := ((2 * (P.lp l0 1) : Nat) : Int)) (nI_iI _) (nI_iI _) dX6_comes_27 rfl ?_
  refine j_iconst (v := nI (1)) F dX6_comes_28 rfl (by decide) ?_
  refine j_isubZ F (a := ((2 * y : Nat) : Int) - ((2 * (P.lp l0 1) : Nat) : Int)) (b := ((1 : Nat) : Int)) rfl (nI_iI _) dX6_comes_29 rfl ?_
  refine j_int (y := iI (b)) (by congr 1; omega) ?_
  refine j_istore (lv' := [some (.ref (X.E.1 + 55)), some (.int (nI (l0))), some (.int (nI (x))), some (.int (nI (y))), some (.int (iI (a))), some (.int (iI (b))), none, none, none]) F dX6_comes_30 rfl (hL _ (by decide)) rfl rfl ?_
  refine j_iload F dX6_comes_32 rfl rfl ?_
  refine j_iload F dX6_comes_34 rfl rfl ?_
  refine kX6_173 F (As := [.int (iI (a)), .int (iI (b))]) (rest := []) (c_X6_divisor a b (bd_mono ha (by decide)) (bd_mono hb (by decide))) (by decide) rfl rfl (Nat.le_of_ble_eq_true rfl) dX6_comes_36 rfl (ro_k ?_)
  refine j_istore (lv' := [some (.ref (X.E.1 + 55)), some (.int (nI (l0))), some (.int (nI (x))), some (.int (nI (y))), some (.int (iI (a))), some (.int (iI (b))), some (.int (nI (gc a b))), none, none]) F dX6_comes_39 rfl (hL _ (by decide)) rfl rfl ?_
  refine j_iload F dX6_comes_41 rfl rfl ?_
  refine j_iload F dX6_comes_43 rfl rfl ?_
  refine j_idivZ F (a := a) (b := ((gc a b : Nat) : Int)) rfl (nI_iI _) ha (bd_n g1) (by decide) (by decide) (by omega) dX6_comes_45 rfl ?_
  refine j_istore (lv' := [some (.ref (X.E.1 + 55)), some (.int (nI (l0))), some (.int (nI (x))), some (.int (nI (y))), some (.int (iI ((red a b).1))), some (.int (iI (b))), some (.int (nI (gc a b))), none, none]) F dX6_comes_46 rfl (hL _ (by decide)) rfl rfl ?_
  refine j_iload F dX6_comes_48 rfl rfl ?_
  refine j_iload F dX6_comes_50 rfl rfl ?_
  refine j_idivZ F (a := b) (b := ((gc a b : Nat) : Int)) rfl (nI_iI _) hb (bd_n g1) (by decide) (by decide) (by omega) dX6_comes_52 rfl ?_
  refine j_istore (lv' := [some (.ref (X.E.1 + 55)), some (.int (nI (l0))), some (.int (nI (x))), some (.int (nI (y))), some (.int (iI ((red a b).1))), some (.int (iI ((red a b).2))), some (.int (nI (gc a b))), none, none]) F dX6_comes_53 rfl (hL _ (by decide)) rfl rfl ?_
  have join_97 : ∀ (p : Nat), (p ≤ E0.length) → (∀ j, j < p → ahd (E0.getD j (0, 0)) (red a b) = true) → (p < E0.length → ahd (E0.getD p (0, 0)) (red a b) = false) → J X 97 [some (.ref (X.E.1 + 55)), some (.int (nI (l0))), some (.int (nI (x))), some (.int (nI (y))), some (.int (iI ((red a b).1))), some (.int (iI ((red a b).2))), some (.int (nI (gc a b))), some (.int (nI (p))), none] [] σ := by
    intro p hpl hp1 hp2
    have join_131 : (¬ (p < E0.length ∧ E0.getD p (0, 0) = red a b)) → J X 131 [some (.ref (X.E.1 + 55)), some (.int (nI (l0))), some (.int (nI (x))), some (.int (nI (y))), some (.int (iI ((red a b).1))), some (.int (iI ((red a b).2))), some (.int (nI (gc a b))), some (.int (nI (p))), none] [] σ := by
      intro hp3
      refine j_aload_n F dX6_comes_131 rfl rfl ?_
      refine gX6_176 hn F dX6_comes_132 rfl ?_
      refine j_int (y := nI (E0.length)) (hR.1) ?_
      refine j_istore (lv' := [some (.ref (X.E.1 + 55)), some (.int (nI (l0))), some (.int (nI (x))), some (.int (nI (y))), some (.int (iI ((red a b).1))), some (.int (iI ((red a b).2))), some (.int (nI (gc a b))), some (.int (nI (p))), some (.int (nI (E0.length)))]) F dX6_comes_135 rfl (hL _ (by decide)) rfl rfl ?_
      refine j_store (σ' := S6 σ (shf (σ 66) E0.length E0.length) (shf (σ 67) E0.length E0.length)) (by rw [shf_0, shf_0, S6_id]) ?_
      have loop_137 : ∀ (m_137 : Nat), ∀ (nn : Nat), (p ≤ nn) → (nn ≤ E0.length) → nn ≤ m_137 → J X 137 [some (.ref (X.E.1 + 55)), some (.int (nI (l0))), some (.int (nI (x))), some (.int (nI (y))), some (.int (iI ((red a b).1))), some (.int (iI ((red a b).2))), some (.int (nI (gc a b))), some (.int (nI (p))), some (.int (nI (nn)))] [] (S6 σ (shf (σ 66) nn E0.length) (shf (σ 67) nn E0.length)) := by
        intro m_137
        induction m_137 using Nat.strongRecOn with | _ m_137 ih_137 => ?_
        intro nn hn1 hn2
        intro hm_137
        refine j_iload F dX6_comes_137 rfl rfl ?_
        refine j_iload F dX6_comes_139 rfl rfl ?_
        refine j_icmp_leN (a := nn) (b := p) F (by omega) (by omega) (tgt := 182) dX6_comes_141 (by decide) rfl (fun c_141 => ?_) (fun c_141 => ?_)
        · have hnn : nn = p := by omega
          refine j_store (σ' := S6 σ (shf (σ 66) p E0.length) (shf (σ 67) p E0.length)) (by rw [hnn]) ?_
          refine j_lv (lv' := [some (.ref (X.E.1 + 55)), some (.int (nI (l0))), some (.int (nI (x))), some (.int (nI (y))), some (.int (iI ((red a b).1))), some (.int (iI ((red a b).2))), some (.int (nI (gc a b))), some (.int (nI (p))), none]) (sbl (ks := [0, 1, 2, 3, 4, 5, 6, 7]) rfl) ?_
          refine j_aload_n F dX6_comes_182 rfl rfl ?_
          refine gX6_41 hn F dX6_comes_183 rfl ?_
          refine j_iload F dX6_comes_186 rfl rfl ?_
          refine j_iload F dX6_comes_188 rfl rfl ?_
          refine j_iastore (a := p) F (by omega) rfl rfl (by omega) (by decide) dX6_comes_190 rfl ?_
          refine j_store (σ' := S6 σ (upd (shf (σ 66) p E0.length) p (iI (red a b).1)) (shf (σ 67) p E0.length)) (S6_u4 _ _ _ _ _) ?_
          refine j_aload_n F dX6_comes_191 rfl rfl ?_
          refine gX6_44 hn F dX6_comes_192 rfl ?_
          refine j_iload F dX6_comes_195 rfl rfl ?_
          refine j_iload F dX6_comes_197 rfl rfl ?_
          refine j_iastore (a := p) F (by omega) rfl rfl (by omega) (by decide) dX6_comes_199 rfl ?_
          refine j_store (σ' := S6 σ (upd (shf (σ 66) p E0.length) p (iI (red a b).1)) (upd (shf (σ 67) p E0.length) p (iI (red a b).2))) (S6_u5 _ _ _ _ _) ?_
          refine j_aload_n F dX6_comes_200 rfl rfl ?_
          refine j_dup F dX6_comes_201 rfl rfl ?_
          refine gX6_176 hn F dX6_comes_202 rfl ?_
          refine j_int (y := nI (E0.length)) (by rw [S6_n _ _ _ (by decide) (by decide)]; exact hR.1) ?_
          refine j_iconst (v := nI (1)) F dX6_comes_205 rfl (by decide) ?_
          refine j_iaddN (a := E0.length) (b := 1) F dX6_comes_206 rfl ?_
          refine pX6_176 hn F dX6_comes_207 rfl ?_
          exact j_vret F hRt (⟨rfl, ev_ins hR hpl hp1 hp2 hp3, ⟨fun a h1 h2 h3 => (upR_n _ _ h1).trans (S6_n _ _ _ h2 h3), fun i hi => (up_o55 (by omega)).trans (by rw [S6_n _ _ _ (by decide) (by decide)])⟩⟩) dX6_comes_210
        · refine j_aload_n F dX6_comes_144 rfl rfl ?_
          refine gX6_41 hn F dX6_comes_145 rfl ?_
          refine j_iload F dX6_comes_148 rfl rfl ?_
          refine j_aload_n F dX6_comes_150 rfl rfl ?_
          refine gX6_41 hn F dX6_comes_151 rfl ?_
          refine j_iload F dX6_comes_154 rfl rfl ?_
          refine j_iconst (v := nI (1)) F dX6_comes_156 rfl (by decide) ?_
          refine j_isubN (a := nn) (b := 1) F (by omega) dX6_comes_157 rfl ?_
          refine j_iaload (a := nn - 1) F (by omega) rfl rfl (by omega) (by decide) dX6_comes_158 rfl ?_
          refine j_iastore (a := nn) F (by omega) rfl rfl (by omega) (by decide) dX6_comes_159 rfl ?_
          refine j_store (σ' := S6 σ (shf (σ 66) (nn - 1) E0.length) (shf (σ 67) nn E0.length)) (by rw [S6_u4, S6_66, shf_s (by omega) hn2]) ?_
          refine j_aload_n F dX6_comes_160 rfl rfl ?_
          refine gX6_44 hn F dX6_comes_161 rfl ?_
          refine j_iload F dX6_comes_164 rfl rfl ?_
          refine j_aload_n F dX6_comes_166 rfl rfl ?_
          refine gX6_44 hn F dX6_comes_167 rfl ?_
          refine j_iload F dX6_comes_170 rfl rfl ?_
          refine j_iconst (v := nI (1)) F dX6_comes_172 rfl (by decide) ?_
          refine j_isubN (a := nn) (b := 1) F (by omega) dX6_comes_173 rfl ?_
          refine j_iaload (a := nn - 1) F (by omega) rfl rfl (by omega) (by decide) dX6_comes_174 rfl ?_
          refine j_iastore (a := nn) F (by omega) rfl rfl (by omega) (by decide) dX6_comes_175 rfl ?_
          refine j_store (σ' := S6 σ (shf (σ 66) (nn - 1) E0.length) (shf (σ 67) (nn - 1) E0.length)) (by rw [S6_u5, S6_67, shf_s (by omega) hn2]) ?_
          refine j_iinc (x := nI (nn)) (v := nI (nn - 1)) (lv' := [some (.ref (X.E.1 + 55)), some (.int (nI (l0))), some (.int (nI (x))), some (.int (nI (y))), some (.int (iI ((red a b).1))), some (.int (iI ((red a b).2))), some (.int (nI (gc a b))), some (.int (nI (p))), some (.int (nI (nn - 1)))]) F dX6_comes_176 rfl rfl (sb_m1 (by omega)) (hL _ (by decide)) rfl rfl ?_
          refine j_goto (pc' := 137) F dX6_comes_179 (by decide) ?_
          exact ih_137 _ (by omega) (nn - 1) (by omega) (by omega) (Nat.le_refl _)
      exact loop_137 _ E0.length hpl (Nat.le_refl _) (Nat.le_refl _)
    refine j_iload F dX6_comes_97 rfl rfl ?_
    refine j_aload_n F dX6_comes_99 rfl rfl ?_
    refine gX6_176 hn F dX6_comes_100 rfl ?_
    refine j_int (y := nI (E0.length)) (hR.1) ?_
    refine j_icmp_geN (a := p) (b := E0.length) F (by omega) (by omega) (tgt := 131) dX6_comes_103 (by decide) rfl (fun c_103 => ?_) (fun c_103 => ?_)
    · have hp3 : ¬ (p < E0.length ∧ E0.getD p (0, 0) = red a b) := fun h => absurd h.1 (by omega)
      exact join_131  hp3
    · refine j_aload_n F dX6_comes_106 rfl rfl ?_
      refine gX6_41 hn F dX6_comes_107 rfl ?_
      refine j_iload F dX6_comes_110 rfl rfl ?_
      refine j_iaload (a := p) F (by omega) rfl rfl (by omega) (by decide) dX6_comes_112 rfl ?_
      refine j_int (y := iI ((E0.getD p (0, 0)).1)) ((hR.2 p (by omega)).1) ?_
      refine j_iload F dX6_comes_113 rfl rfl ?_
      refine j_icmp_neZ F (a := (E0.getD p (0, 0)).1) (b := (red a b).1) rfl rfl (RB_get hRB (show p < E0.length by omega)).1 r1 (by decide) (by decide) (tgt := 131) dX6_comes_115 (by decide) rfl (fun c_115 => ?_) (fun c_115 => ?_)
      · have hp3 : ¬ (p < E0.length ∧ E0.getD p (0, 0) = red a b) := fun h => c_115 (by rw [h.2])
        exact join_131  hp3
      · refine j_aload_n F dX6_comes_118 rfl rfl ?_
        refine gX6_44 hn F dX6_comes_119 rfl ?_
        refine j_iload F dX6_comes_122 rfl rfl ?_
        refine j_iaload (a := p) F (by omega) rfl rfl (by omega) (by decide) dX6_comes_124 rfl ?_
        refine j_int (y := iI ((E0.getD p (0, 0)).2)) ((hR.2 p (by omega)).2) ?_
        refine j_iload F dX6_comes_125 rfl rfl ?_
        refine j_icmp_neZ F (a := (E0.getD p (0, 0)).2) (b := (red a b).2) rfl rfl (RB_get hRB (show p < E0.length by omega)).2 r2 (by decide) (by decide) (tgt := 131) dX6_comes_127 (by decide) rfl (fun c_127 => ?_) (fun c_127 => ?_)
        · have hp3 : ¬ (p < E0.length ∧ E0.getD p (0, 0) = red a b) := fun h => c_127 (by rw [h.2])
          exact join_131  hp3
        · exact j_vret F hRt (by have hI := insE_at E0 (red a b) p hpl hp1 hp2; rw [if_pos ⟨c_103, Prod.ext (by first | exact c_115 | exact Classical.byContradiction c_115) (by first | exact c_127 | exact Classical.byContradiction c_127)⟩] at hI; rw [hI]; exact ⟨rfl, hR, FrE.rf⟩) dX6_comes_130
  refine j_iconst (v := nI (0)) F dX6_comes_55 rfl (by decide) ?_
  refine j_istore (lv' := [some (.ref (X.E.1 + 55)), some (.int (nI (l0))), some (.int (nI (x))), some (.int (nI (y))), some (.int (iI ((red a b).1))), some (.int (iI ((red a b).2))), some (.int (nI (gc a b))), some (.int (nI (0))), none]) F dX6_comes_56 rfl (hL _ (by decide)) rfl rfl ?_
  have loop_58 : ∀ (ii : Nat), ii ≤ E0.length → (∀ j, j < ii → ahd (E0.getD j (0, 0)) (red a b) = true) → J X 58 [some (.ref (X.E.1 + 55)), some (.int (nI (l0))), some (.int (nI (x))), some (.int (nI (y))), some (.int (iI ((red a b).1))), some (.int (iI ((red a b).2))), some (.int (nI (gc a b))), some (.int (nI (ii))), none] [] σ := by
    refine dnL (fun ii hii ih_58 => ?_)
    intro hpre
    refine j_iload F dX6_comes_58 rfl rfl ?_
    refine j_aload_n F dX6_comes_60 rfl rfl ?_
    refine gX6_176 hn F dX6_comes_61 rfl ?_
    refine j_int (y := nI (E0.length)) (hR.1) ?_
    refine j_icmp_geN (a := ii) (b := E0.length) F (by omega) (by omega) (tgt := 97) dX6_comes_64 (by decide) rfl (fun c_64 => ?_) (fun c_64 => ?_)
    · have hp2 : ii < E0.length → ahd (E0.getD ii (0, 0)) (red a b) = false := fun h => absurd h (by omega)
      exact join_97 ii hii hpre hp2
    · refine j_aload_n F dX6_comes_67 rfl rfl ?_
      refine gX6_41 hn F dX6_comes_68 rfl ?_
      refine j_iload F dX6_comes_71 rfl rfl ?_
      refine j_iaload (a := ii) F (by omega) rfl rfl (by omega) (by decide) dX6_comes_73 rfl ?_
      refine j_int (y := iI ((E0.getD ii (0, 0)).1)) ((hR.2 ii (by omega)).1) ?_
      refine j_aload_n F dX6_comes_74 rfl rfl ?_
      refine gX6_44 hn F dX6_comes_75 rfl ?_
      refine j_iload F dX6_comes_78 rfl rfl ?_
      refine j_iaload (a := ii) F (by omega) rfl rfl (by omega) (by decide) dX6_comes_80 rfl ?_
      refine j_int (y := iI ((E0.getD ii (0, 0)).2)) ((hR.2 ii (by omega)).2) ?_
      refine j_iload F dX6_comes_81 rfl rfl ?_
      refine j_iload F dX6_comes_83 rfl rfl ?_
      refine kX6_179 F (As := [.int (iI ((E0.getD ii (0, 0)).1)), .int (iI ((E0.getD ii (0, 0)).2)), .int (iI ((red a b).1)), .int (iI ((red a b).2))]) (rest := []) (c_X6_isAhead ((E0.getD ii (0, 0)).1) ((E0.getD ii (0, 0)).2) ((red a b).1) ((red a b).2) (bd_mono (RB_get hRB (show ii < E0.length by omega)).1 (by decide)) (bd_mono (RB_get hRB (show ii < E0.length by omega)).2 (by decide)) (bd_mono r1 (by decide)) (bd_mono r2 (by decide))) (by decide) rfl rfl (Nat.le_of_ble_eq_true rfl) dX6_comes_85 rfl (ro_k ?_)
      refine j_if_eqB F (x := ahd ((E0.getD ii (0, 0)).1, (E0.getD ii (0, 0)).2) ((red a b).1, (red a b).2)) (tgt := 97) dX6_comes_88 (by decide) rfl (fun c_88 => ?_) (fun c_88 => ?_)
      · have hp2 : ii < E0.length → ahd (E0.getD ii (0, 0)) (red a b) = false := fun _ => c_88
        exact join_97 ii hii hpre hp2
      · refine j_iincN (a := ii) (c := 1) (lv' := [some (.ref (X.E.1 + 55)), some (.int (nI (l0))), some (.int (nI (x))), some (.int (nI (y))), some (.int (iI ((red a b).1))), some (.int (iI ((red a b).2))), some (.int (nI (gc a b))), some (.int (nI (ii + 1))), none]) F dX6_comes_91 rfl rfl (by decide) (hL _ (by decide)) rfl rfl ?_
        refine j_goto (pc' := 58) F dX6_comes_94 (by decide) ?_
        exact ih_58 (by omega)  (fun j h => by rcases (show j < ii ∨ j = ii by omega) with t | rfl; exact hpre j t; exact c_88)
  exact loop_58 0 (by omega)  (fun j h => absurd h (Nat.not_lt_zero j))

set_option maxRecDepth 10000 in
set_option maxHeartbeats 2000000 in
theorem c_X6_laysEvents {l : Launch} {n : Nat} {E : Ev} {σ : St} {P : Pl} (hn : 69 ≤ n) (hM : MP σ P) (hBd : PB P) (hWl : ∀ w, w < P.nw → WallOK P w) (hLm : ∀ l, l < P.nl → LampOK P l) (l0 : Nat) (hl : l0 < P.nl) : Ct l yX6_laysEvents cX6_laysEvents 9 none 3 n E [.ref (E.1 + 55), .int (nI (l0))] σ (fun v' σ' => v' = none ∧ EvM σ' (P.evW (P.lp l0 0) (P.lp l0 1) P.nw) ∧ FrE σ σ') := by
  refine Ct.of (lv0 := [some (.ref (E.1 + 55)), some (.int (nI (l0))), none, none, none, none, none, none, none]) (by decide) (Nat.le_of_ble_eq_true rfl) rfl ?_
  intro X hXn hXE hXl hXL F hRt
  subst hXn hXE hXl
  have hL : ∀ i, i < 9 → i < X.nL := fun i h => by rw [hXL]; exact h
  have hB0 := hBd
  obtain ⟨b1, b2, b3, b4, b5, b6, b7⟩ := hB0
  have hlo := hLm l0 hl
  unfold LampOK at hlo
  refine j_aload_n F dX6_laysEvents_0 rfl rfl ?_
  refine j_iconst (v := nI (0)) F dX6_laysEvents_1 rfl (by decide) ?_
  refine pX6_176 hn F dX6_laysEvents_2 rfl ?_
  refine j_iconst (v := nI (0)) F dX6_laysEvents_5 rfl (by decide) ?_
  refine j_istore_n (lv' := [some (.ref (X.E.1 + 55)), some (.int (nI (l0))), some (.int (nI (0))), none, none, none, none, none, none]) F dX6_laysEvents_6 rfl (hL _ (by decide)) rfl rfl ?_
  have loop_7 : ∀ (ii : Nat), ii ≤ P.nw → ∀ (τ : St), (EvM τ (P.evW (P.lp l0 0) (P.lp l0 1) ii)) → (FrE σ τ) → J X 7 [some (.ref (X.E.1 + 55)), some (.int (nI (l0))), some (.int (nI (ii))), none, none, none, none, none, none] [] τ := by
    refine dnL (fun ii hii ih_7 => ?_)
    intro τ hτE hτF
    have hMt := hτF.mp hM
    have hOt : EvOK P (P.lp l0 0) (P.lp l0 1) (P.evW (P.lp l0 0) (P.lp l0 1) ii) := evW_ok hWl ii hii
    refine j_iload_n F dX6_laysEvents_7 rfl rfl ?_
    refine j_aload_n F dX6_laysEvents_8 rfl rfl ?_
    refine gX6_7 hn F dX6_laysEvents_9 rfl ?_
    refine j_iconst (v := nI (1)) F dX6_laysEvents_12 rfl (by decide) ?_
    refine j_iaload (a := 1) F (by omega) rfl rfl (by omega) (by decide) dX6_laysEvents_13 rfl ?_
    refine j_int (y := nI (P.nw)) (hMt.nw) ?_
    refine j_icmp_geN (a := ii) (b := P.nw) F (by omega) (by omega) (tgt := 213) dX6_laysEvents_14 (by decide) rfl (fun c_14 => ?_) (fun c_14 => ?_)
    · have hiN : ii = P.nw := by omega
      exact j_vret F hRt (⟨rfl, by rw [hiN] at hτE; exact hτE, hτF⟩) dX6_laysEvents_213
    · obtain ⟨w1, w2, w3, w4, w5, w6⟩ := hWl ii c_14
      refine j_aload_n F dX6_laysEvents_17 rfl rfl ?_
      refine j_iload_n F dX6_laysEvents_18 rfl rfl ?_
      refine j_iconst (v := nI (0)) F dX6_laysEvents_19 rfl (by decide) ?_
      refine kX6_138 hn F (As := [.int (nI (ii)), .int (nI (0))]) (rest := []) (c_X6_ofWall hn hMt hBd ii 0 (by omega) (by omega)) (by decide) rfl rfl (Nat.le_of_ble_eq_true rfl) dX6_laysEvents_20 rfl (ro_k ?_)
      refine j_istore_n (lv' := [some (.ref (X.E.1 + 55)), some (.int (nI (l0))), some (.int (nI (ii))), some (.int (nI (P.wl ii 0))), none, none, none, none, none]) F dX6_laysEvents_23 rfl (hL _ (by decide)) rfl rfl ?_
      refine j_aload_n F dX6_laysEvents_24 rfl rfl ?_
      refine j_iload_n F dX6_laysEvents_25 rfl rfl ?_
      refine j_iconst (v := nI (1)) F dX6_laysEvents_26 rfl (by decide) ?_
      refine kX6_138 hn F (As := [.int (nI (ii)), .int (nI (1))]) (rest := []) (c_X6_ofWall hn hMt hBd ii 1 (by omega) (by omega)) (by decide) rfl rfl (Nat.le_of_ble_eq_true rfl) dX6_laysEvents_27 rfl (ro_k ?_)
      refine j_istore (lv' := [some (.ref (X.E.1 + 55)), some (.int (nI (l0))), some (.int (nI (ii))), some (.int (nI (P.wl ii 0))), some (.int (nI (P.wl ii 1))), none, none, none, none]) F dX6_laysEvents_30 rfl (hL _ (by decide)) rfl rfl ?_
      refine j_aload_n F dX6_laysEvents_32 rfl rfl ?_
      refine j_iload_n F dX6_laysEvents_33 rfl rfl ?_
      refine j_iconst (v := nI (2)) F dX6_laysEvents_34 rfl (by decide) ?_
      refine kX6_138 hn F (As := [.int (nI (ii)), .int (nI (2))]) (rest := []) (c_X6_ofWall hn hMt hBd ii 2 (by omega) (by omega)) (by decide) rfl rfl (Nat.le_of_ble_eq_true rfl) dX6_laysEvents_35 rfl (ro_k ?_)
      refine j_istore (lv' := [some (.ref (X.E.1 + 55)), some (.int (nI (l0))), some (.int (nI (ii))), some (.int (nI (P.wl ii 0))), some (.int (nI (P.wl ii 1))), some (.int (nI (P.wl ii 2))), none, none, none]) F dX6_laysEvents_38 rfl (hL _ (by decide)) rfl rfl ?_
      refine j_aload_n F dX6_laysEvents_40 rfl rfl ?_
      refine j_iload_n F dX6_laysEvents_41 rfl rfl ?_
      refine j_iconst (v := nI (3)) F dX6_laysEvents_42 rfl (by decide) ?_
      refine kX6_138 hn F (As := [.int (nI (ii)), .int (nI (3))]) (rest := []) (c_X6_ofWall hn hMt hBd ii 3 (by omega) (by omega)) (by decide) rfl rfl (Nat.le_of_ble_eq_true rfl) dX6_laysEvents_43 rfl (ro_k ?_)
      refine j_iconst (v := nI (1)) F dX6_laysEvents_46 rfl (by decide) ?_
      refine j_icmp_neN (a := P.wl ii 3) (b := 1) F (by omega) (by omega) (tgt := 54) dX6_laysEvents_47 (by decide) rfl (fun c_47 => ?_) (fun c_47 => ?_)
      · have c_47z : ¬ P.wl ii 3 = 1 := c_47
        refine j_iconst (v := nI (0)) F dX6_laysEvents_54 rfl (by decide) ?_
        refine j_istore (lv' := [some (.ref (X.E.1 + 55)), some (.int (nI (l0))), some (.int (nI (ii))), some (.int (nI (P.wl ii 0))), some (.int (nI (P.wl ii 1))), some (.int (nI (P.wl ii 2))), some (.int (nI (0))), none, none]) F dX6_laysEvents_55 rfl (hL _ (by decide)) rfl rfl ?_
        refine j_aload_n F dX6_laysEvents_57 rfl rfl ?_
        refine j_iload_n F dX6_laysEvents_58 rfl rfl ?_
        refine j_iload_n F dX6_laysEvents_59 rfl rfl ?_
        refine j_iload F dX6_laysEvents_60 rfl rfl ?_
        refine kX6_182 hn F (As := [.int (nI (l0)), .int (nI (P.wl ii 0)), .int (nI (P.wl ii 1))]) (rest := []) (c_X6_comes hn hMt hBd hLm hτE (EvOK_RB hBd (by omega) (by omega) hOt) (Nat.lt_of_le_of_lt (EvOK_len hBd hOt) (by decide)) l0 (P.wl ii 0) (P.wl ii 1) hl (by omega) (by omega)) (by decide) rfl rfl (Nat.le_of_ble_eq_true rfl) dX6_laysEvents_62 rfl (fun v_62 σ_62 q_62 => ?_)
        obtain ⟨rfl, v_62z, f_62⟩ := q_62
        have hM_62 := f_62.mp hMt
        have hO_62 : EvOK P (P.lp l0 0) (P.lp l0 1) (insE (dirP (P.lp l0 0) (P.lp l0 1) (P.wl ii 0) (P.wl ii 1)) (P.evW (P.lp l0 0) (P.lp l0 1) ii)) := EvOK_ins hOt (by omega) (by omega)
        refine j_aload_n F dX6_laysEvents_65 rfl rfl ?_
        refine j_iload_n F dX6_laysEvents_66 rfl rfl ?_
        refine j_iload F dX6_laysEvents_67 rfl rfl ?_
        refine j_if_eqN (a := 0) F (by omega) (tgt := 76) dX6_laysEvents_69 (by decide) rfl (fun c_69 => ?_) (fun c_69 => False.elim (by revert c_69; decide))
        refine j_iload_n F dX6_laysEvents_76 rfl rfl ?_
        refine j_iload F dX6_laysEvents_77 rfl rfl ?_
        refine j_iaddN (a := P.wl ii 0) (b := P.wl ii 2) F dX6_laysEvents_79 rfl ?_
        refine j_iload F dX6_laysEvents_80 rfl rfl ?_
        refine j_if_eqN (a := 0) F (by omega) (tgt := 93) dX6_laysEvents_82 (by decide) rfl (fun c_82 => ?_) (fun c_82 => False.elim (by revert c_82; decide))
        refine j_iload F dX6_laysEvents_93 rfl rfl ?_
        refine kX6_182 hn F (As := [.int (nI (l0)), .int (nI ((P.wl ii 0) + (P.wl ii 2))), .int (nI (P.wl ii 1))]) (rest := []) (c_X6_comes hn hM_62 hBd hLm v_62z (EvOK_RB hBd (by omega) (by omega) hO_62) (Nat.lt_of_le_of_lt (EvOK_len hBd hO_62) (by decide)) l0 ((P.wl ii 0) + (P.wl ii 2)) (P.wl ii 1) hl (by omega) (by omega)) (by decide) rfl rfl (Nat.le_of_ble_eq_true rfl) dX6_laysEvents_95 rfl (fun v_95 σ_95 q_95 => ?_)
        obtain ⟨rfl, v_95z, f_95⟩ := q_95
        have hM_95 := f_95.mp hM_62
        have hO_95 : EvOK P (P.lp l0 0) (P.lp l0 1) (insE (dirP (P.lp l0 0) (P.lp l0 1) ((P.wl ii 0) + (P.wl ii 2)) (P.wl ii 1)) (insE (dirP (P.lp l0 0) (P.lp l0 1) (P.wl ii 0) (P.wl ii 1)) (P.evW (P.lp l0 0) (P.lp l0 1) ii))) := EvOK_ins hO_62 (by omega) (by omega)
        refine j_iconst (v := nI (0)) F dX6_laysEvents_98 rfl (by decide) ?_
        refine j_istore (lv' := [some (.ref (X.E.1 + 55)), some (.int (nI (l0))), some (.int (nI (ii))), some (.int (nI (P.wl ii 0))), some (.int (nI (P.wl ii 1))), some (.int (nI (P.wl ii 2))), some (.int (nI (0))), some (.int (nI (0))), none]) F dX6_laysEvents_99 rfl (hL _ (by decide)) rfl rfl ?_
        refine j_iload F dX6_laysEvents_101 rfl rfl ?_
        refine j_aload_n F dX6_laysEvents_103 rfl rfl ?_
        refine gX6_7 hn F dX6_laysEvents_104 rfl ?_
        refine j_iconst (v := nI (1)) F dX6_laysEvents_107 rfl (by decide) ?_
        refine j_iaload (a := 1) F (by omega) rfl rfl (by omega) (by decide) dX6_laysEvents_108 rfl ?_
        refine j_int (y := nI (P.nw)) (hM_95.nw) ?_
        refine j_icmp_geN (a := 0) (b := P.nw) F (by omega) (by omega) (tgt := 207) dX6_laysEvents_109 (by decide) rfl (fun c_109 => False.elim (by omega)) (fun c_109 => ?_)
        refine j_iload F dX6_laysEvents_112 rfl rfl ?_
        refine j_if_eqN (a := 0) F (by omega) (tgt := 207) dX6_laysEvents_114 (by decide) rfl (fun c_114 => ?_) (fun c_114 => False.elim (by revert c_114; decide))
        refine j_iincN (a := ii) (c := 1) (lv' := [some (.ref (X.E.1 + 55)), some (.int (nI (l0))), some (.int (nI (ii + 1))), some (.int (nI (P.wl ii 0))), some (.int (nI (P.wl ii 1))), some (.int (nI (P.wl ii 2))), some (.int (nI (0))), some (.int (nI (0))), none]) F dX6_laysEvents_207 rfl rfl (by decide) (hL _ (by decide)) rfl rfl ?_
        refine j_goto (pc' := 7) F dX6_laysEvents_210 (by decide) ?_
        refine j_lv (lv' := [some (.ref (X.E.1 + 55)), some (.int (nI (l0))), some (.int (nI (ii + 1))), none, none, none, none, none, none]) (sbl (ks := [0, 1, 2]) rfl) ?_
        exact ih_7 (by omega) σ_95 (by rw [Pl.evW, if_neg c_47z]; unfold Pl.evE; rw [if_neg c_47z]; exact v_95z) ((hτF.tr f_62).tr f_95)
      · have c_47z : P.wl ii 3 = 1 := by omega
        have w6z := w6 c_47z
        refine j_iconst (v := nI (1)) F dX6_laysEvents_50 rfl (by decide) ?_
        refine j_goto (pc' := 55) F dX6_laysEvents_51 (by decide) ?_
        refine j_istore (lv' := [some (.ref (X.E.1 + 55)), some (.int (nI (l0))), some (.int (nI (ii))), some (.int (nI (P.wl ii 0))), some (.int (nI (P.wl ii 1))), some (.int (nI (P.wl ii 2))), some (.int (nI (1))), none, none]) F dX6_laysEvents_55 rfl (hL _ (by decide)) rfl rfl ?_
        refine j_aload_n F dX6_laysEvents_57 rfl rfl ?_
        refine j_iload_n F dX6_laysEvents_58 rfl rfl ?_
        refine j_iload_n F dX6_laysEvents_59 rfl rfl ?_
        refine j_iload F dX6_laysEvents_60 rfl rfl ?_
        refine kX6_182 hn F (As := [.int (nI (l0)), .int (nI (P.wl ii 0)), .int (nI (P.wl ii 1))]) (rest := []) (c_X6_comes hn hMt hBd hLm hτE (EvOK_RB hBd (by omega) (by omega) hOt) (Nat.lt_of_le_of_lt (EvOK_len hBd hOt) (by decide)) l0 (P.wl ii 0) (P.wl ii 1) hl (by omega) (by omega)) (by decide) rfl rfl (Nat.le_of_ble_eq_true rfl) dX6_laysEvents_62 rfl (fun v_62 σ_62 q_62 => ?_)
        obtain ⟨rfl, v_62z, f_62⟩ := q_62
        have hM_62 := f_62.mp hMt
        have hO_62 : EvOK P (P.lp l0 0) (P.lp l0 1) (insE (dirP (P.lp l0 0) (P.lp l0 1) (P.wl ii 0) (P.wl ii 1)) (P.evW (P.lp l0 0) (P.lp l0 1) ii)) := EvOK_ins hOt (by omega) (by omega)
        refine j_aload_n F dX6_laysEvents_65 rfl rfl ?_
        refine j_iload_n F dX6_laysEvents_66 rfl rfl ?_
        refine j_iload F dX6_laysEvents_67 rfl rfl ?_
        refine j_if_eqN (a := 1) F (by omega) (tgt := 76) dX6_laysEvents_69 (by decide) rfl (fun c_69 => False.elim (by revert c_69; decide)) (fun c_69 => ?_)
        refine j_iload_n F dX6_laysEvents_72 rfl rfl ?_
        refine j_goto (pc' := 80) F dX6_laysEvents_73 (by decide) ?_
        refine j_iload F dX6_laysEvents_80 rfl rfl ?_
        refine j_if_eqN (a := 1) F (by omega) (tgt := 93) dX6_laysEvents_82 (by decide) rfl (fun c_82 => False.elim (by revert c_82; decide)) (fun c_82 => ?_)
        refine j_iload F dX6_laysEvents_85 rfl rfl ?_
        refine j_iload F dX6_laysEvents_87 rfl rfl ?_
        refine j_iaddN (a := P.wl ii 1) (b := P.wl ii 2) F dX6_laysEvents_89 rfl ?_
        refine j_goto (pc' := 95) F dX6_laysEvents_90 (by decide) ?_
        refine kX6_182 hn F (As := [.int (nI (l0)), .int (nI (P.wl ii 0)), .int (nI ((P.wl ii 1) + (P.wl ii 2)))]) (rest := []) (c_X6_comes hn hM_62 hBd hLm v_62z (EvOK_RB hBd (by omega) (by omega) hO_62) (Nat.lt_of_le_of_lt (EvOK_len hBd hO_62) (by decide)) l0 (P.wl ii 0) ((P.wl ii 1) + (P.wl ii 2)) hl (by omega) (by omega)) (by decide) rfl rfl (Nat.le_of_ble_eq_true rfl) dX6_laysEvents_95 rfl (fun v_95 σ_95 q_95 => ?_)
        obtain ⟨rfl, v_95z, f_95⟩ := q_95
        have hM_95 := f_95.mp hM_62
        have hO_95 : EvOK P (P.lp l0 0) (P.lp l0 1) (insE (dirP (P.lp l0 0) (P.lp l0 1) (P.wl ii 0) ((P.wl ii 1) + (P.wl ii 2))) (insE (dirP (P.lp l0 0) (P.lp l0 1) (P.wl ii 0) (P.wl ii 1)) (P.evW (P.lp l0 0) (P.lp l0 1) ii))) := EvOK_ins hO_62 (by omega) (by omega)
        refine j_iconst (v := nI (0)) F dX6_laysEvents_98 rfl (by decide) ?_
        refine j_istore (lv' := [some (.ref (X.E.1 + 55)), some (.int (nI (l0))), some (.int (nI (ii))), some (.int (nI (P.wl ii 0))), some (.int (nI (P.wl ii 1))), some (.int (nI (P.wl ii 2))), some (.int (nI (1))), some (.int (nI (0))), none]) F dX6_laysEvents_99 rfl (hL _ (by decide)) rfl rfl ?_
        have hEe : EvM σ_95 (P.evE (P.lp l0 0) (P.lp l0 1) ii (P.evW (P.lp l0 0) (P.lp l0 1) ii)) := by unfold Pl.evE; rw [if_pos c_47z]; exact v_95z
        have loop_101 : ∀ (jj : Nat), jj ≤ P.nw → ∀ (ρ : St), (EvM ρ (P.evV (P.lp l0 0) (P.lp l0 1) ii (P.evE (P.lp l0 0) (P.lp l0 1) ii (P.evW (P.lp l0 0) (P.lp l0 1) ii)) jj)) → (FrE σ ρ) → J X 101 [some (.ref (X.E.1 + 55)), some (.int (nI (l0))), some (.int (nI (ii))), some (.int (nI (P.wl ii 0))), some (.int (nI (P.wl ii 1))), some (.int (nI (P.wl ii 2))), some (.int (nI (1))), some (.int (nI (jj))), none] [] ρ := by
          refine dnL (fun jj hjj ih_101 => ?_)
          intro ρ hρE hρF
          have hMr := hρF.mp hM
          have hOr : EvOK P (P.lp l0 0) (P.lp l0 1) (P.evV (P.lp l0 0) (P.lp l0 1) ii (P.evE (P.lp l0 0) (P.lp l0 1) ii (P.evW (P.lp l0 0) (P.lp l0 1) ii)) jj) := evV_ok hWl c_14 (evE_ok hWl c_14 hOt) jj hjj
          refine j_iload F dX6_laysEvents_101 rfl rfl ?_
          refine j_aload_n F dX6_laysEvents_103 rfl rfl ?_
          refine gX6_7 hn F dX6_laysEvents_104 rfl ?_
          refine j_iconst (v := nI (1)) F dX6_laysEvents_107 rfl (by decide) ?_
          refine j_iaload (a := 1) F (by omega) rfl rfl (by omega) (by decide) dX6_laysEvents_108 rfl ?_
          refine j_int (y := nI (P.nw)) (hMr.nw) ?_
          refine j_icmp_geN (a := jj) (b := P.nw) F (by omega) (by omega) (tgt := 207) dX6_laysEvents_109 (by decide) rfl (fun c_109 => ?_) (fun c_109 => ?_)
          · have hjN : jj = P.nw := by omega
            refine j_iincN (a := ii) (c := 1) (lv' := [some (.ref (X.E.1 + 55)), some (.int (nI (l0))), some (.int (nI (ii + 1))), some (.int (nI (P.wl ii 0))), some (.int (nI (P.wl ii 1))), some (.int (nI (P.wl ii 2))), some (.int (nI (1))), some (.int (nI (jj))), none]) F dX6_laysEvents_207 rfl rfl (by decide) (hL _ (by decide)) rfl rfl ?_
            refine j_goto (pc' := 7) F dX6_laysEvents_210 (by decide) ?_
            refine j_lv (lv' := [some (.ref (X.E.1 + 55)), some (.int (nI (l0))), some (.int (nI (ii + 1))), none, none, none, none, none, none]) (sbl (ks := [0, 1, 2]) rfl) ?_
            exact ih_7 (by omega) ρ (by rw [Pl.evW, if_pos c_47z]; have z := hρE; rw [hjN] at z; exact z) hρF
          · obtain ⟨v1, v2, v3, v4, v5, v6⟩ := hWl jj c_109
            refine j_iload F dX6_laysEvents_112 rfl rfl ?_
            refine j_if_eqN (a := 1) F (by omega) (tgt := 207) dX6_laysEvents_114 (by decide) rfl (fun c_114 => False.elim (by revert c_114; decide)) (fun c_114 => ?_)
            refine j_aload_n F dX6_laysEvents_117 rfl rfl ?_
            refine j_iload F dX6_laysEvents_118 rfl rfl ?_
            refine j_iconst (v := nI (3)) F dX6_laysEvents_120 rfl (by decide) ?_
            refine kX6_138 hn F (As := [.int (nI (jj)), .int (nI (3))]) (rest := []) (c_X6_ofWall hn hMr hBd jj 3 (by omega) (by omega)) (by decide) rfl rfl (Nat.le_of_ble_eq_true rfl) dX6_laysEvents_121 rfl (ro_k ?_)
            refine j_if_neN (a := P.wl jj 3) F (by omega) (tgt := 131) dX6_laysEvents_124 (by decide) rfl (fun c_124 => ?_) (fun c_124 => ?_)
            · have hcr : ¬ P.crB ii jj = true := fun q => by have z := of_decide_eq_true q; omega
              refine j_iconst (v := nI (0)) F dX6_laysEvents_131 rfl (by decide) ?_
              refine j_istore (lv' := [some (.ref (X.E.1 + 55)), some (.int (nI (l0))), some (.int (nI (ii))), some (.int (nI (P.wl ii 0))), some (.int (nI (P.wl ii 1))), some (.int (nI (P.wl ii 2))), some (.int (nI (1))), some (.int (nI (jj))), some (.int (nI (0)))]) F dX6_laysEvents_132 rfl (hL _ (by decide)) rfl rfl ?_
              refine j_iload F dX6_laysEvents_134 rfl rfl ?_
              refine j_if_eqN (a := 0) F (by omega) (tgt := 201) dX6_laysEvents_136 (by decide) rfl (fun c_136 => ?_) (fun c_136 => False.elim (by revert c_136; decide))
              refine j_iincN (a := jj) (c := 1) (lv' := [some (.ref (X.E.1 + 55)), some (.int (nI (l0))), some (.int (nI (ii))), some (.int (nI (P.wl ii 0))), some (.int (nI (P.wl ii 1))), some (.int (nI (P.wl ii 2))), some (.int (nI (1))), some (.int (nI (jj + 1))), some (.int (nI (0)))]) F dX6_laysEvents_201 rfl rfl (by decide) (hL _ (by decide)) rfl rfl ?_
              refine j_goto (pc' := 101) F dX6_laysEvents_204 (by decide) ?_
              refine j_lv (lv' := [some (.ref (X.E.1 + 55)), some (.int (nI (l0))), some (.int (nI (ii))), some (.int (nI (P.wl ii 0))), some (.int (nI (P.wl ii 1))), some (.int (nI (P.wl ii 2))), some (.int (nI (1))), some (.int (nI (jj + 1))), none]) (sbl (ks := [0, 1, 2, 3, 4, 5, 6, 7]) rfl) ?_
              exact ih_101 (by omega) ρ (by rw [Pl.evV, if_neg hcr]; exact hρE) hρF
            · have v5z := v5 (by omega)
              refine j_iconst (v := nI (1)) F dX6_laysEvents_127 rfl (by decide) ?_
              refine j_goto (pc' := 132) F dX6_laysEvents_128 (by decide) ?_
              refine j_istore (lv' := [some (.ref (X.E.1 + 55)), some (.int (nI (l0))), some (.int (nI (ii))), some (.int (nI (P.wl ii 0))), some (.int (nI (P.wl ii 1))), some (.int (nI (P.wl ii 2))), some (.int (nI (1))), some (.int (nI (jj))), some (.int (nI (1)))]) F dX6_laysEvents_132 rfl (hL _ (by decide)) rfl rfl ?_
              refine j_iload F dX6_laysEvents_134 rfl rfl ?_
              refine j_if_eqN (a := 1) F (by omega) (tgt := 201) dX6_laysEvents_136 (by decide) rfl (fun c_136 => False.elim (by revert c_136; decide)) (fun c_136 => ?_)
              refine j_iload_n F dX6_laysEvents_139 rfl rfl ?_
              refine j_aload_n F dX6_laysEvents_140 rfl rfl ?_
              refine j_iload F dX6_laysEvents_141 rfl rfl ?_
              refine j_iconst (v := nI (0)) F dX6_laysEvents_143 rfl (by decide) ?_
              refine kX6_138 hn F (As := [.int (nI (jj)), .int (nI (0))]) (rest := [.int (nI (P.wl ii 0))]) (c_X6_ofWall hn hMr hBd jj 0 (by omega) (by omega)) (by decide) rfl rfl (Nat.le_of_ble_eq_true rfl) dX6_laysEvents_144 rfl (ro_k ?_)
              refine j_aload_n F dX6_laysEvents_147 rfl rfl ?_
              refine j_iload F dX6_laysEvents_148 rfl rfl ?_
              refine j_iconst (v := nI (0)) F dX6_laysEvents_150 rfl (by decide) ?_
              refine kX6_138 hn F (As := [.int (nI (jj)), .int (nI (0))]) (rest := [.int (nI (P.wl jj 0)), .int (nI (P.wl ii 0))]) (c_X6_ofWall hn hMr hBd jj 0 (by omega) (by omega)) (by decide) rfl rfl (Nat.le_of_ble_eq_true rfl) dX6_laysEvents_151 rfl (ro_k ?_)
              refine j_aload_n F dX6_laysEvents_154 rfl rfl ?_
              refine j_iload F dX6_laysEvents_155 rfl rfl ?_
              refine j_iconst (v := nI (2)) F dX6_laysEvents_157 rfl (by decide) ?_
              refine kX6_138 hn F (As := [.int (nI (jj)), .int (nI (2))]) (rest := [.int (nI (P.wl jj 0)), .int (nI (P.wl jj 0)), .int (nI (P.wl ii 0))]) (c_X6_ofWall hn hMr hBd jj 2 (by omega) (by omega)) (by decide) rfl rfl (Nat.le_of_ble_eq_true rfl) dX6_laysEvents_158 rfl (ro_k ?_)
              refine j_iaddN (a := P.wl jj 0) (b := P.wl jj 2) F dX6_laysEvents_161 rfl ?_
              refine kX6_63 F (As := [.int (nI (P.wl ii 0)), .int (nI (P.wl jj 0)), .int (nI ((P.wl jj 0) + (P.wl jj 2)))]) (rest := []) (c_X6_in (nI (P.wl ii 0)) (nI (P.wl jj 0)) (nI ((P.wl jj 0) + (P.wl jj 2)))) (by decide) rfl rfl (Nat.le_of_ble_eq_true rfl) dX6_laysEvents_162 rfl (ro_k ?_)
              refine j_int (y := bI (decide (P.wl jj 0 ≤ P.wl ii 0 ∧ P.wl ii 0 ≤ P.wl jj 0 + P.wl jj 2))) (congrArg bI (inN (by omega) (by omega) (by omega))) ?_
              refine j_if_eqB F (x := decide (P.wl jj 0 ≤ P.wl ii 0 ∧ P.wl ii 0 ≤ P.wl jj 0 + P.wl jj 2)) (tgt := 201) dX6_laysEvents_165 (by decide) rfl (fun c_165 => ?_) (fun c_165 => ?_)
              · have d_165 := of_decide_eq_false c_165
                have hcr : ¬ P.crB ii jj = true := fun q => by have z := of_decide_eq_true q; omega
                refine j_iincN (a := jj) (c := 1) (lv' := [some (.ref (X.E.1 + 55)), some (.int (nI (l0))), some (.int (nI (ii))), some (.int (nI (P.wl ii 0))), some (.int (nI (P.wl ii 1))), some (.int (nI (P.wl ii 2))), some (.int (nI (1))), some (.int (nI (jj + 1))), some (.int (nI (1)))]) F dX6_laysEvents_201 rfl rfl (by decide) (hL _ (by decide)) rfl rfl ?_
                refine j_goto (pc' := 101) F dX6_laysEvents_204 (by decide) ?_
                refine j_lv (lv' := [some (.ref (X.E.1 + 55)), some (.int (nI (l0))), some (.int (nI (ii))), some (.int (nI (P.wl ii 0))), some (.int (nI (P.wl ii 1))), some (.int (nI (P.wl ii 2))), some (.int (nI (1))), some (.int (nI (jj + 1))), none]) (sbl (ks := [0, 1, 2, 3, 4, 5, 6, 7]) rfl) ?_
                exact ih_101 (by omega) ρ (by rw [Pl.evV, if_neg hcr]; exact hρE) hρF
              · have d_165 := of_decide_eq_true c_165
                refine j_aload_n F dX6_laysEvents_168 rfl rfl ?_
                refine j_iload F dX6_laysEvents_169 rfl rfl ?_
                refine j_iconst (v := nI (1)) F dX6_laysEvents_171 rfl (by decide) ?_
                refine kX6_138 hn F (As := [.int (nI (jj)), .int (nI (1))]) (rest := []) (c_X6_ofWall hn hMr hBd jj 1 (by omega) (by omega)) (by decide) rfl rfl (Nat.le_of_ble_eq_true rfl) dX6_laysEvents_172 rfl (ro_k ?_)
                refine j_iload F dX6_laysEvents_175 rfl rfl ?_
                refine j_iload F dX6_laysEvents_177 rfl rfl ?_
                refine j_iload F dX6_laysEvents_179 rfl rfl ?_
                refine j_iaddN (a := P.wl ii 1) (b := P.wl ii 2) F dX6_laysEvents_181 rfl ?_
                refine kX6_63 F (As := [.int (nI (P.wl jj 1)), .int (nI (P.wl ii 1)), .int (nI ((P.wl ii 1) + (P.wl ii 2)))]) (rest := []) (c_X6_in (nI (P.wl jj 1)) (nI (P.wl ii 1)) (nI ((P.wl ii 1) + (P.wl ii 2)))) (by decide) rfl rfl (Nat.le_of_ble_eq_true rfl) dX6_laysEvents_182 rfl (ro_k ?_)
                refine j_int (y := bI (decide (P.wl ii 1 ≤ P.wl jj 1 ∧ P.wl jj 1 ≤ P.wl ii 1 + P.wl ii 2))) (congrArg bI (inN (by omega) (by omega) (by omega))) ?_
                refine j_if_eqB F (x := decide (P.wl ii 1 ≤ P.wl jj 1 ∧ P.wl jj 1 ≤ P.wl ii 1 + P.wl ii 2)) (tgt := 201) dX6_laysEvents_185 (by decide) rfl (fun c_185 => ?_) (fun c_185 => ?_)
                · have d_185 := of_decide_eq_false c_185
                  have hcr : ¬ P.crB ii jj = true := fun q => by have z := of_decide_eq_true q; omega
                  refine j_iincN (a := jj) (c := 1) (lv' := [some (.ref (X.E.1 + 55)), some (.int (nI (l0))), some (.int (nI (ii))), some (.int (nI (P.wl ii 0))), some (.int (nI (P.wl ii 1))), some (.int (nI (P.wl ii 2))), some (.int (nI (1))), some (.int (nI (jj + 1))), some (.int (nI (1)))]) F dX6_laysEvents_201 rfl rfl (by decide) (hL _ (by decide)) rfl rfl ?_
                  refine j_goto (pc' := 101) F dX6_laysEvents_204 (by decide) ?_
                  refine j_lv (lv' := [some (.ref (X.E.1 + 55)), some (.int (nI (l0))), some (.int (nI (ii))), some (.int (nI (P.wl ii 0))), some (.int (nI (P.wl ii 1))), some (.int (nI (P.wl ii 2))), some (.int (nI (1))), some (.int (nI (jj + 1))), none]) (sbl (ks := [0, 1, 2, 3, 4, 5, 6, 7]) rfl) ?_
                  exact ih_101 (by omega) ρ (by rw [Pl.evV, if_neg hcr]; exact hρE) hρF
                · have d_185 := of_decide_eq_true c_185
                  have hcr : P.crB ii jj = true := decide_eq_true ⟨by omega, d_165, d_185⟩
                  refine j_aload_n F dX6_laysEvents_188 rfl rfl ?_
                  refine j_iload_n F dX6_laysEvents_189 rfl rfl ?_
                  refine j_iload_n F dX6_laysEvents_190 rfl rfl ?_
                  refine j_aload_n F dX6_laysEvents_191 rfl rfl ?_
                  refine j_iload F dX6_laysEvents_192 rfl rfl ?_
                  refine j_iconst (v := nI (1)) F dX6_laysEvents_194 rfl (by decide) ?_
                  refine kX6_138 hn F (As := [.int (nI (jj)), .int (nI (1))]) (rest := [.int (nI (P.wl ii 0)), .int (nI (l0)), .ref (X.E.1 + 55)]) (c_X6_ofWall hn hMr hBd jj 1 (by omega) (by omega)) (by decide) rfl rfl (Nat.le_of_ble_eq_true rfl) dX6_laysEvents_195 rfl (ro_k ?_)
                  refine kX6_182 hn F (As := [.int (nI (l0)), .int (nI (P.wl ii 0)), .int (nI (P.wl jj 1))]) (rest := []) (c_X6_comes hn hMr hBd hLm hρE (EvOK_RB hBd (by omega) (by omega) hOr) (Nat.lt_of_le_of_lt (EvOK_len hBd hOr) (by decide)) l0 (P.wl ii 0) (P.wl jj 1) hl (by omega) (by omega)) (by decide) rfl rfl (Nat.le_of_ble_eq_true rfl) dX6_laysEvents_198 rfl (fun v_198 σ_198 q_198 => ?_)
                  obtain ⟨rfl, v_198z, f_198⟩ := q_198
                  have hM_198 := f_198.mp hMr
                  have hO_198 : EvOK P (P.lp l0 0) (P.lp l0 1) (insE (dirP (P.lp l0 0) (P.lp l0 1) (P.wl ii 0) (P.wl jj 1)) (P.evV (P.lp l0 0) (P.lp l0 1) ii (P.evE (P.lp l0 0) (P.lp l0 1) ii (P.evW (P.lp l0 0) (P.lp l0 1) ii)) jj)) := EvOK_ins hOr (by omega) (by omega)
                  refine j_iincN (a := jj) (c := 1) (lv' := [some (.ref (X.E.1 + 55)), some (.int (nI (l0))), some (.int (nI (ii))), some (.int (nI (P.wl ii 0))), some (.int (nI (P.wl ii 1))), some (.int (nI (P.wl ii 2))), some (.int (nI (1))), some (.int (nI (jj + 1))), some (.int (nI (1)))]) F dX6_laysEvents_201 rfl rfl (by decide) (hL _ (by decide)) rfl rfl ?_
                  refine j_goto (pc' := 101) F dX6_laysEvents_204 (by decide) ?_
                  refine j_lv (lv' := [some (.ref (X.E.1 + 55)), some (.int (nI (l0))), some (.int (nI (ii))), some (.int (nI (P.wl ii 0))), some (.int (nI (P.wl ii 1))), some (.int (nI (P.wl ii 2))), some (.int (nI (1))), some (.int (nI (jj + 1))), none]) (sbl (ks := [0, 1, 2, 3, 4, 5, 6, 7]) rfl) ?_
                  exact ih_101 (by omega) σ_198 (by rw [Pl.evV, if_pos hcr]; exact v_198z) (hρF.tr f_198)
        exact loop_101 0 (by omega) σ_95 hEe ((hτF.tr f_62).tr f_95)
  exact loop_7 0 (by omega) (up σ 55 24 (nI (0))) (⟨up_i55, fun i h => absurd h (Nat.not_lt_zero i)⟩) (⟨fun a h1 _ _ => upR_n _ _ h1, fun i hi => up_o55 (by omega)⟩)
