set_option maxRecDepth 10000 in
set_option maxHeartbeats 2000000 in
theorem c_X3_commonDivisor {l : Launch} {n : Nat} {E : Ev} {σ : St} (a b : Int) (ha : bd a 1000000) (hb : bd b 1000000) : Ct l yX3_commonDivisor cX3_commonDivisor 6 (some .int) 1 n E [.int (iI (a)), .int (iI (b))] σ (ro (.int (nI (gc a b))) σ) := by
  refine Ct.of (lv0 := [some (.int (iI (a))), some (.int (iI (b))), none, none, none, none]) (by decide) (Nat.le_of_ble_eq_true rfl) rfl ?_
  intro X hXn hXE hXl hXL F hRt
  subst hXn hXE hXl
  have hL : ∀ i, i < 6 → i < X.nL := fun i h => by rw [hXL]; exact h
  have na := bd_na.mp ha
  have nb := bd_na.mp hb
  refine j_iload_n F dX3_commonDivisor_0 rfl rfl ?_
  refine j_mabs F (a := a) rfl ha (by decide) (by decide) (Nat.le_of_ble_eq_true rfl) dX3_commonDivisor_1 rfl ?_
  refine j_istore_n (lv' := [some (.int (iI (a))), some (.int (iI (b))), some (.int (nI (Int.natAbs (a)))), none, none, none]) F dX3_commonDivisor_4 rfl (hL _ (by decide)) rfl rfl ?_
  refine j_iload_n F dX3_commonDivisor_5 rfl rfl ?_
  refine j_mabs F (a := b) rfl hb (by decide) (by decide) (Nat.le_of_ble_eq_true rfl) dX3_commonDivisor_6 rfl ?_
  refine j_istore_n (lv' := [some (.int (iI (a))), some (.int (iI (b))), some (.int (nI (Int.natAbs (a)))), some (.int (nI (Int.natAbs (b)))), none, none]) F dX3_commonDivisor_9 rfl (hL _ (by decide)) rfl rfl ?_
  refine j_iconst (v := nI (0)) F dX3_commonDivisor_10 rfl (by decide) ?_
  refine j_istore (lv' := [some (.int (iI (a))), some (.int (iI (b))), some (.int (nI (Int.natAbs (a)))), some (.int (nI (Int.natAbs (b)))), some (.int (nI (0))), none]) F dX3_commonDivisor_11 rfl (hL _ (by decide)) rfl rfl ?_
  have loop_13 : ∀ (t : Nat), t ≤ 50 → ∀ (u : Nat) (v : Nat), (u < 1048576) → (v < 1048576) → (t = 0 ∧ u < 1048576 ∧ v < 1048576 ∨ (v < u ∧ u * v < 2 ^ (50 - t))) → (Nat.gcd u v = gc a b) → J X 13 [some (.int (iI (a))), some (.int (iI (b))), some (.int (nI (u))), some (.int (nI (v))), some (.int (nI (t))), none] [] σ := by
    refine dnL (fun t ht ih_13 => ?_)
    intro u v hu hv hI hG
    refine j_iload F dX3_commonDivisor_13 rfl rfl ?_
    refine j_bipush (v := nI (50)) F dX3_commonDivisor_15 rfl (by decide) ?_
    refine j_icmp_geN (a := t) (b := 50) F (by omega) (by omega) (tgt := 40) dX3_commonDivisor_17 (by decide) rfl (fun c_17 => ?_) (fun c_17 => ?_)
    · have hv0 : v = 0 := eu_end c_17 hI
      have hz : u = gc a b := by rw [← hG, hv0, Nat.gcd_zero_right]
      refine j_iload_n F dX3_commonDivisor_40 rfl rfl ?_
      exact j_iret F hRt rfl (roI (by rw [hz])) dX3_commonDivisor_41
    · refine j_iload_n F dX3_commonDivisor_20 rfl rfl ?_
      refine j_if_eqN (a := v) F (by omega) (tgt := 40) dX3_commonDivisor_21 (by decide) rfl (fun c_21 => ?_) (fun c_21 => ?_)
      · have hz : u = gc a b := by rw [← hG, c_21, Nat.gcd_zero_right]
        refine j_iload_n F dX3_commonDivisor_40 rfl rfl ?_
        exact j_iret F hRt rfl (roI (by rw [hz])) dX3_commonDivisor_41
      · have hs := eu_step c_21 c_17 hI
        have hs1 := hs.1
        refine j_iload_n F dX3_commonDivisor_24 rfl rfl ?_
        refine j_iload_n F dX3_commonDivisor_25 rfl rfl ?_
        refine j_iremN (a := u) (b := v) F (by omega) (by omega) (by omega) dX3_commonDivisor_26 rfl ?_
        refine j_istore (lv' := [some (.int (iI (a))), some (.int (iI (b))), some (.int (nI (u))), some (.int (nI (v))), some (.int (nI (t))), some (.int (nI (u % v)))]) F dX3_commonDivisor_27 rfl (hL _ (by decide)) rfl rfl ?_
        refine j_iload_n F dX3_commonDivisor_29 rfl rfl ?_
        refine j_istore_n (lv' := [some (.int (iI (a))), some (.int (iI (b))), some (.int (nI (v))), some (.int (nI (v))), some (.int (nI (t))), some (.int (nI (u % v)))]) F dX3_commonDivisor_30 rfl (hL _ (by decide)) rfl rfl ?_
        refine j_iload F dX3_commonDivisor_31 rfl rfl ?_
        refine j_istore_n (lv' := [some (.int (iI (a))), some (.int (iI (b))), some (.int (nI (v))), some (.int (nI (u % v))), some (.int (nI (t))), some (.int (nI (u % v)))]) F dX3_commonDivisor_33 rfl (hL _ (by decide)) rfl rfl ?_
        refine j_iincN (a := t) (c := 1) (lv' := [some (.int (iI (a))), some (.int (iI (b))), some (.int (nI (v))), some (.int (nI (u % v))), some (.int (nI (t + 1))), some (.int (nI (u % v)))]) F dX3_commonDivisor_34 rfl rfl (by decide) (hL _ (by decide)) rfl rfl ?_
        refine j_goto (pc' := 13) F dX3_commonDivisor_37 (by decide) ?_
        refine j_lv (lv' := [some (.int (iI (a))), some (.int (iI (b))), some (.int (nI (v))), some (.int (nI (u % v))), some (.int (nI (t + 1))), none]) (sbl (ks := [0, 1, 2, 3, 4]) rfl) ?_
        exact ih_13 (by omega) v (u % v) hv (by omega) (Or.inr hs) (by rw [eu_gcd]; exact hG)
  exact loop_13 0 (by omega) a.natAbs b.natAbs (by omega) (by omega) (Or.inl ⟨rfl, by omega, by omega⟩) rfl

set_option maxRecDepth 10000 in
set_option maxHeartbeats 2000000 in
theorem c_X3_isAhead {l : Launch} {n : Nat} {E : Ev} {σ : St} (a b c d : Int) (ha : bd a 20) (hb : bd b 20) (hc : bd c 20) (hd : bd d 20) : Ct l yX3_isAhead cX3_isAhead 4 (some .boolean) 0 n E [.int (iI (a)), .int (iI (b)), .int (iI (c)), .int (iI (d))] σ (ro (.int (bI (ahd (a, b) (c, d)))) σ) := by
  refine Ct.of (lv0 := [some (.int (iI (a))), some (.int (iI (b))), some (.int (iI (c))), some (.int (iI (d)))]) (by decide) (Nat.le_of_ble_eq_true rfl) rfl ?_
  intro X hXn hXE hXl hXL F hRt
  subst hXn hXE hXl
  have hL : ∀ i, i < 4 → i < X.nL := fun i h => by rw [hXL]; exact h
  refine j_iload_n F dX3_isAhead_0 rfl rfl ?_
  refine j_if_leZ F (a := b) rfl hb (by decide) (tgt := 8) dX3_isAhead_1 (by decide) rfl (fun c_1 => ?_) (fun c_1 => ?_)
  · refine j_iconst (v := nI (0)) F dX3_isAhead_8 rfl (by decide) ?_
    refine j_iload_n F dX3_isAhead_9 rfl rfl ?_
    refine j_if_leZ F (a := d) rfl hd (by decide) (tgt := 17) dX3_isAhead_10 (by decide) rfl (fun c_10 => ?_) (fun c_10 => ?_)
    · refine j_iconst (v := nI (0)) F dX3_isAhead_17 rfl (by decide) ?_
      refine j_icmp_eqN (a := 0) (b := 0) F (by omega) (by omega) (tgt := 31) dX3_isAhead_18 (by decide) rfl (fun c_18 => ?_) (fun c_18 => False.elim (by revert c_18; decide))
      refine j_iload_n F dX3_isAhead_31 rfl rfl ?_
      refine j_iload_n F dX3_isAhead_32 rfl rfl ?_
      refine j_imulZ F (a := a) (b := d) rfl rfl dX3_isAhead_33 rfl ?_
      refine j_iload_n F dX3_isAhead_34 rfl rfl ?_
      refine j_iload_n F dX3_isAhead_35 rfl rfl ?_
      refine j_imulZ F (a := b) (b := c) rfl rfl dX3_isAhead_36 rfl ?_
      refine j_isubZ F (a := a * d) (b := b * c) rfl rfl dX3_isAhead_37 rfl ?_
      refine j_if_leZ F (a := (a * d) - (b * c)) rfl (bd_sub (bd_mul ha hd) (bd_mul hb hc)) (by decide) (tgt := 45) dX3_isAhead_38 (by decide) rfl (fun c_38 => ?_) (fun c_38 => ?_)
      · have hz : ahd (a, b) (c, d) = false := by
          unfold ahd
          rw [if_pos (by omega)]
          exact decide_eq_false (by show ¬ 0 < a * d - b * c; omega)
        refine j_iconst (v := nI (0)) F dX3_isAhead_45 rfl (by decide) ?_
        exact j_iret F hRt rfl (roB_f hz) dX3_isAhead_46
      · have hz : ahd (a, b) (c, d) = true := by
          unfold ahd
          rw [if_pos (by omega)]
          exact decide_eq_true c_38
        refine j_iconst (v := nI (1)) F dX3_isAhead_41 rfl (by decide) ?_
        refine j_goto (pc' := 46) F dX3_isAhead_42 (by decide) ?_
        exact j_iret F hRt rfl (roB_t hz) dX3_isAhead_46
    · refine j_iconst (v := nI (1)) F dX3_isAhead_13 rfl (by decide) ?_
      refine j_goto (pc' := 18) F dX3_isAhead_14 (by decide) ?_
      refine j_icmp_eqN (a := 0) (b := 1) F (by omega) (by omega) (tgt := 31) dX3_isAhead_18 (by decide) rfl (fun c_18 => False.elim (by revert c_18; decide)) (fun c_18 => ?_)
      refine j_iload_n F dX3_isAhead_21 rfl rfl ?_
      refine j_if_leZ F (a := b) rfl hb (by decide) (tgt := 29) dX3_isAhead_22 (by decide) rfl (fun c_22 => ?_) (fun c_22 => ?_)
      · have hz : ahd (a, b) (c, d) = false := by
          unfold ahd
          rw [if_neg (by omega)]
          exact decide_eq_false (by omega)
        refine j_iconst (v := nI (0)) F dX3_isAhead_29 rfl (by decide) ?_
        exact j_iret F hRt rfl (roB_f hz) dX3_isAhead_30
      · have hz : ahd (a, b) (c, d) = true := by
          unfold ahd
          rw [if_neg (by omega)]
          exact decide_eq_true (by omega)
        refine j_iconst (v := nI (1)) F dX3_isAhead_25 rfl (by decide) ?_
        refine j_goto (pc' := 30) F dX3_isAhead_26 (by decide) ?_
        exact j_iret F hRt rfl (roB_t hz) dX3_isAhead_30
  · refine j_iconst (v := nI (1)) F dX3_isAhead_4 rfl (by decide) ?_
    refine j_goto (pc' := 9) F dX3_isAhead_5 (by decide) ?_
    refine j_iload_n F dX3_isAhead_9 rfl rfl ?_
    refine j_if_leZ F (a := d) rfl hd (by decide) (tgt := 17) dX3_isAhead_10 (by decide) rfl (fun c_10 => ?_) (fun c_10 => ?_)
    · refine j_iconst (v := nI (0)) F dX3_isAhead_17 rfl (by decide) ?_
      refine j_icmp_eqN (a := 1) (b := 0) F (by omega) (by omega) (tgt := 31) dX3_isAhead_18 (by decide) rfl (fun c_18 => False.elim (by revert c_18; decide)) (fun c_18 => ?_)
      refine j_iload_n F dX3_isAhead_21 rfl rfl ?_
      refine j_if_leZ F (a := b) rfl hb (by decide) (tgt := 29) dX3_isAhead_22 (by decide) rfl (fun c_22 => ?_) (fun c_22 => ?_)
      · have hz : ahd (a, b) (c, d) = false := by
          unfold ahd
          rw [if_neg (by omega)]
          exact decide_eq_false (by omega)
        refine j_iconst (v := nI (0)) F dX3_isAhead_29 rfl (by decide) ?_
        exact j_iret F hRt rfl (roB_f hz) dX3_isAhead_30
      · have hz : ahd (a, b) (c, d) = true := by
          unfold ahd
          rw [if_neg (by omega)]
          exact decide_eq_true (by omega)
        refine j_iconst (v := nI (1)) F dX3_isAhead_25 rfl (by decide) ?_
        refine j_goto (pc' := 30) F dX3_isAhead_26 (by decide) ?_
        exact j_iret F hRt rfl (roB_t hz) dX3_isAhead_30
    · refine j_iconst (v := nI (1)) F dX3_isAhead_13 rfl (by decide) ?_
      refine j_goto (pc' := 18) F dX3_isAhead_14 (by decide) ?_
      refine j_icmp_eqN (a := 1) (b := 1) F (by omega) (by omega) (tgt := 31) dX3_isAhead_18 (by decide) rfl (fun c_18 => ?_) (fun c_18 => False.elim (by revert c_18; decide))
      refine j_iload_n F dX3_isAhead_31 rfl rfl ?_
      refine j_iload_n F dX3_isAhead_32 rfl rfl ?_
      refine j_imulZ F (a := a) (b := d) rfl rfl dX3_isAhead_33 rfl ?_
      refine j_iload_n F dX3_isAhead_34 rfl rfl ?_
      refine j_iload_n F dX3_isAhead_35 rfl rfl ?_
      refine j_imulZ F (a := b) (b := c) rfl rfl dX3_isAhead_36 rfl ?_
      refine j_isubZ F (a := a * d) (b := b * c) rfl rfl dX3_isAhead_37 rfl ?_
      refine j_if_leZ F (a := (a * d) - (b * c)) rfl (bd_sub (bd_mul ha hd) (bd_mul hb hc)) (by decide) (tgt := 45) dX3_isAhead_38 (by decide) rfl (fun c_38 => ?_) (fun c_38 => ?_)
      · have hz : ahd (a, b) (c, d) = false := by
          unfold ahd
          rw [if_pos (by omega)]
          exact decide_eq_false (by show ¬ 0 < a * d - b * c; omega)
        refine j_iconst (v := nI (0)) F dX3_isAhead_45 rfl (by decide) ?_
        exact j_iret F hRt rfl (roB_f hz) dX3_isAhead_46
      · have hz : ahd (a, b) (c, d) = true := by
          unfold ahd
          rw [if_pos (by omega)]
          exact decide_eq_true c_38
        refine j_iconst (v := nI (1)) F dX3_isAhead_41 rfl (by decide) ?_
        refine j_goto (pc' := 46) F dX3_isAhead_42 (by decide) ?_
        exact j_iret F hRt rfl (roB_t hz) dX3_isAhead_46

set_option maxRecDepth 10000 in
set_option maxHeartbeats 2000000 in
theorem c_X3_addEvent {l : Launch} {n : Nat} {E : Ev} {σ : St} {E0 : List Dr} {lx ly : Nat} (hn : 55 ≤ n) (hR : RayOK σ E0) (hLa : LamOK σ lx ly) (hRB : RB E0) (hlen : E0.length < 100) (a b : Int) (ha : bd a 20) (hb : bd b 20) (ha0 : ¬ a = 0) (hb0 : ¬ b = 0) : Ct l yX3_addEvent cX3_addEvent 8 none 2 n E [.ref (E.1 + 43), .int (iI (a)), .int (iI (b))] σ (fun v' σ' => v' = none ∧ RayOK σ' (insE (red a b) E0) ∧ LamOK σ' lx ly ∧ Fr [43, 44, 45] σ σ') := by
  refine Ct.of (lv0 := [some (.ref (E.1 + 43)), some (.int (iI (a))), some (.int (iI (b))), none, none, none, none, none]) (by decide) (Nat.le_of_ble_eq_true rfl) rfl ?_
  intro X hXn hXE hXl hXL F hRt
  subst hXn hXE hXl
  have hL : ∀ i, i < 8 → i < X.nL := fun i h => by rw [hXL]; exact h
  have g0 : 0 < gc a b := gc_pos ha0
  have g1 : gc a b ≤ 20 := Nat.le_trans (gc_le ha0) (bd_na.mp ha)
  have r1 : bd (red a b).1 20 := bd_td ha
  have r2 : bd (red a b).2 20 := bd_td hb
  refine j_iload_n F dX3_addEvent_0 rfl rfl ?_
  refine j_iload_n F dX3_addEvent_1 rfl rfl ?_
  refine kX3_54 F (As := [.int (iI (a)), .int (iI (b))]) (rest := []) (c_X3_commonDivisor a b (bd_mono ha (by decide)) (bd_mono hb (by decide))) (by decide) rfl rfl (Nat.le_of_ble_eq_true rfl) dX3_addEvent_2 rfl (ro_k ?_)
  refine j_istore_n (lv' := [some (.ref (X.E.1 + 43)), some (.int (iI (a))), some (.int (iI (b))), some (.int (nI (gc a b))), none, none, none, none]) F dX3_addEvent_5 rfl (hL _ (by decide)) rfl rfl ?_
  refine j_iload_n F dX3_addEvent_6 rfl rfl ?_
  refine j_if_leN (a := gc a b) F (by omega) (tgt := 19) dX3_addEvent_7 (by decide) rfl (fun c_7 => False.elim (by omega)) (fun c_7 => ?_)
  refine j_aload_n F dX3_addEvent_10 rfl rfl ?_
  refine gX3_31 hn F dX3_addEvent_11 rfl ?_
  refine j_int (y := nI (E0.length)) (hR.1) ?_
  refine j_bipush (v := nI (100)) F dX3_addEvent_14 rfl (by decide) ?_
  refine j_icmp_ltN (a := E0.length) (b := 100) F (by omega) (by omega) (tgt := 20) dX3_addEvent_16 (by decide) rfl (fun c_16 => ?_) (fun c_16 => False.elim (by omega))
  refine j_iload_n F dX3_addEvent_20 rfl rfl ?_
  refine j_iload_n F dX3_addEvent_21 rfl rfl ?_
  refine j_idivZ F (a := a) (b := ((gc a b : Nat) : Int)) rfl (nI_iI _) ha (bd_n g1) (by decide) (by decide) (by omega) dX3_addEvent_22 rfl ?_
  refine j_istore (lv' := [some (.ref (X.E.1 + 43)), some (.int (iI (a))), some (.int (iI (b))), some (.int (nI (gc a b))), some (.int (iI ((red a b).1))), none, none, none]) F dX3_addEvent_23 rfl (hL _ (by decide)) rfl rfl ?_
  refine j_iload_n F dX3_addEvent_25 rfl rfl ?_
  refine j_iload_n F dX3_addEvent_26 rfl rfl ?_
  refine j_idivZ F (a := b) (b := ((gc a b : Nat) : Int)) rfl (nI_iI _) hb (bd_n g1) (by decide) (by decide) (by omega) dX3_addEvent_27 rfl ?_
  refine j_istore (lv' := [some (.ref (X.E.1 + 43)), some (.int (iI (a))), some (.int (iI (b))), some (.int (nI (gc a b))), some (.int (iI ((red a b).1))), some (.int (iI ((red a b).2))), none, none]) F dX3_addEvent_28 rfl (hL _ (by decide)) rfl rfl ?_
  have join_72 : ∀ (p : Nat), (p ≤ E0.length) → (∀ j, j < p → ahd (E0.getD j (0, 0)) (red a b) = true) → (p < E0.length → ahd (E0.getD p (0, 0)) (red a b) = false) → J X 72 [some (.ref (X.E.1 + 43)), some (.int (iI (a))), some (.int (iI (b))), some (.int (nI (gc a b))), some (.int (iI ((red a b).1))), some (.int (iI ((red a b).2))), some (.int (nI (p))), none] [] σ := by
    intro p hpl hp1 hp2
    have join_106 : (¬ (p < E0.length ∧ E0.getD p (0, 0) = red a b)) → J X 106 [some (.ref (X.E.1 + 43)), some (.int (iI (a))), some (.int (iI (b))), some (.int (nI (gc a b))), some (.int (iI ((red a b).1))), some (.int (iI ((red a b).2))), some (.int (nI (p))), none] [] σ := by
      intro hp3
      refine j_aload_n F dX3_addEvent_106 rfl rfl ?_
      refine gX3_31 hn F dX3_addEvent_107 rfl ?_
      refine j_int (y := nI (E0.length)) (hR.1) ?_
      refine j_istore (lv' := [some (.ref (X.E.1 + 43)), some (.int (iI (a))), some (.int (iI (b))), some (.int (nI (gc a b))), some (.int (iI ((red a b).1))), some (.int (iI ((red a b).2))), some (.int (nI (p))), some (.int (nI (E0.length)))]) F dX3_addEvent_110 rfl (hL _ (by decide)) rfl rfl ?_
      refine j_store (σ' := S2 σ (shf (σ 44) E0.length E0.length) (shf (σ 45) E0.length E0.length)) (by rw [shf_0, shf_0, S2_id]) ?_
      have loop_112 : ∀ (m_112 : Nat), ∀ (nn : Nat), (p ≤ nn) → (nn ≤ E0.length) → nn ≤ m_112 → J X 112 [some (.ref (X.E.1 + 43)), some (.int (iI (a))), some (.int (iI (b))), some (.int (nI (gc a b))), some (.int (iI ((red a b).1))), some (.int (iI ((red a b).2))), some (.int (nI (p))), some (.int (nI (nn)))] [] (S2 σ (shf (σ 44) nn E0.length) (shf (σ 45) nn E0.length)) := by
        intro m_112
        induction m_112 using Nat.strongRecOn with | _ m_112 ih_112 => ?_
        intro nn hn1 hn2
        intro hm_112
        refine j_iload F dX3_addEvent_112 rfl rfl ?_
        refine j_iload F dX3_addEvent_114 rfl rfl ?_
        refine j_icmp_leN (a := nn) (b := p) F (by omega) (by omega) (tgt := 157) dX3_addEvent_116 (by decide) rfl (fun c_116 => ?_) (fun c_116 => ?_)
        · have hnn : nn = p := by omega
          refine j_store (σ' := S2 σ (shf (σ 44) p E0.length) (shf (σ 45) p E0.length)) (by rw [hnn]) ?_
          refine j_lv (lv' := [some (.ref (X.E.1 + 43)), some (.int (iI (a))), some (.int (iI (b))), some (.int (nI (gc a b))), some (.int (iI ((red a b).1))), some (.int (iI ((red a b).2))), some (.int (nI (p))), none]) (sbl (ks := [0, 1, 2, 3, 4, 5, 6]) rfl) ?_
          refine j_aload_n F dX3_addEvent_157 rfl rfl ?_
          refine gX3_9 hn F dX3_addEvent_158 rfl ?_
          refine j_iload F dX3_addEvent_161 rfl rfl ?_
          refine j_iload F dX3_addEvent_163 rfl rfl ?_
          refine j_iastore (a := p) F (by omega) rfl rfl (by omega) (by decide) dX3_addEvent_165 rfl ?_
          refine j_store (σ' := S2 σ (upd (shf (σ 44) p E0.length) p (iI (red a b).1)) (shf (σ 45) p E0.length)) (S2_u4 _ _ _ _ _) ?_
          refine j_aload_n F dX3_addEvent_166 rfl rfl ?_
          refine gX3_15 hn F dX3_addEvent_167 rfl ?_
          refine j_iload F dX3_addEvent_170 rfl rfl ?_
          refine j_iload F dX3_addEvent_172 rfl rfl ?_
          refine j_iastore (a := p) F (by omega) rfl rfl (by omega) (by decide) dX3_addEvent_174 rfl ?_
          refine j_store (σ' := S2 σ (upd (shf (σ 44) p E0.length) p (iI (red a b).1)) (upd (shf (σ 45) p E0.length) p (iI (red a b).2))) (S2_u5 _ _ _ _ _) ?_
          refine j_aload_n F dX3_addEvent_175 rfl rfl ?_
          refine j_dup F dX3_addEvent_176 rfl rfl ?_
          refine gX3_31 hn F dX3_addEvent_177 rfl ?_
          refine j_int (y := nI (E0.length)) (by rw [S2_n _ _ _ (by decide) (by decide)]; exact hR.1) ?_
          refine j_iconst (v := nI (1)) F dX3_addEvent_180 rfl (by decide) ?_
          refine j_iaddN (a := E0.length) (b := 1) F dX3_addEvent_181 rfl ?_
          refine pX3_31 hn F dX3_addEvent_182 rfl ?_
          exact j_vret F hRt (by have z := ray_ins hR hLa hpl hp1 hp2 hp3; exact ⟨rfl, z.1, z.2, fun a ha => by rw [show up _ 43 2 _ a = _ from upR_n _ _ (fun q => ha (by rw [q]; simp)), S2_n _ _ _ (fun q => ha (by rw [q]; simp)) (fun q => ha (by rw [q]; simp))]⟩) dX3_addEvent_185
        · refine j_aload_n F dX3_addEvent_119 rfl rfl ?_
          refine gX3_9 hn F dX3_addEvent_120 rfl ?_
          refine j_iload F dX3_addEvent_123 rfl rfl ?_
          refine j_aload_n F dX3_addEvent_125 rfl rfl ?_
          refine gX3_9 hn F dX3_addEvent_126 rfl ?_
          refine j_iload F dX3_addEvent_129 rfl rfl ?_
          refine j_iconst (v := nI (1)) F dX3_addEvent_131 rfl (by decide) ?_
          refine j_isubN (a := nn) (b := 1) F (by omega) dX3_addEvent_132 rfl ?_
          refine j_iaload (a := nn - 1) F (by omega) rfl rfl (by omega) (by decide) dX3_addEvent_133 rfl ?_
          refine j_iastore (a := nn) F (by omega) rfl rfl (by omega) (by decide) dX3_addEvent_134 rfl ?_
          refine j_store (σ' := S2 σ (shf (σ 44) (nn - 1) E0.length) (shf (σ 45) nn E0.length)) (by rw [S2_u4, S2_44, shf_s (by omega) hn2]) ?_
          refine j_aload_n F dX3_addEvent_135 rfl rfl ?_
          refine gX3_15 hn F dX3_addEvent_136 rfl ?_
          refine j_iload F dX3_addEvent_139 rfl rfl ?_
          refine j_aload_n F dX3_addEvent_141 rfl rfl ?_
          refine gX3_15 hn F dX3_addEvent_142 rfl ?_
          refine j_iload F dX3_addEvent_145 rfl rfl ?_
          refine j_iconst (v := nI (1)) F dX3_addEvent_147 rfl (by decide) ?_
          refine j_isubN (a := nn) (b := 1) F (by omega) dX3_addEvent_148 rfl ?_
          refine j_iaload (a := nn - 1) F (by omega) rfl rfl (by omega) (by decide) dX3_addEvent_149 rfl ?_
          refine j_iastore (a := nn) F (by omega) rfl rfl (by omega) (by decide) dX3_addEvent_150 rfl ?_
          refine j_store (σ' := S2 σ (shf (σ 44) (nn - 1) E0.length) (shf (σ 45) (nn - 1) E0.length)) (by rw [S2_u5, S2_45, shf_s (by omega) hn2]) ?_
          refine j_iinc (x := nI (nn)) (v := nI (nn - 1)) (lv' := [some (.ref (X.E.1 + 43)), some (.int (iI (a))), some (.int (iI (b))), some (.int (nI (gc a b))), some (.int (iI ((red a b).1))), some (.int (iI ((red a b).2))), some (.int (nI (p))), some (.int (nI (nn - 1)))]) F dX3_addEvent_151 rfl rfl (sb_m1 (by omega)) (hL _ (by decide)) rfl rfl ?_
          refine j_goto (pc' := 112) F dX3_addEvent_154 (by decide) ?_
          exact ih_112 _ (by omega) (nn - 1) (by omega) (by omega) (Nat.le_refl _)
      exact loop_112 _ E0.length hpl (Nat.le_refl _) (Nat.le_refl _)
    refine j_iload F dX3_addEvent_72 rfl rfl ?_
    refine j_aload_n F dX3_addEvent_74 rfl rfl ?_
    refine gX3_31 hn F dX3_addEvent_75 rfl ?_
    refine j_int (y := nI (E0.length)) (hR.1) ?_
    refine j_icmp_geN (a := p) (b := E0.length) F (by omega) (by omega) (tgt := 106) dX3_addEvent_78 (by decide) rfl (fun c_78 => ?_) (fun c_78 => ?_)
    · have hp3 : ¬ (p < E0.length ∧ E0.getD p (0, 0) = red a b) := fun h => absurd h.1 (by omega)
      exact join_106  hp3
    · refine j_aload_n F dX3_addEvent_81 rfl rfl ?_
      refine gX3_9 hn F dX3_addEvent_82 rfl ?_
      refine j_iload F dX3_addEvent_85 rfl rfl ?_
      refine j_iaload (a := p) F (by omega) rfl rfl (by omega) (by decide) dX3_addEvent_87 rfl ?_
      refine j_int (y := iI ((E0.getD p (0, 0)).1)) ((hR.2 p (by omega)).1) ?_
      refine j_iload F dX3_addEvent_88 rfl rfl ?_
      refine j_icmp_neZ F (a := (E0.getD p (0, 0)).1) (b := (red a b).1) rfl rfl (RB_get hRB (show p < E0.length by omega)).1 r1 (by decide) (by decide) (tgt := 106) dX3_addEvent_90 (by decide) rfl (fun c_90 => ?_) (fun c_90 => ?_)
      · have hp3 : ¬ (p < E0.length ∧ E0.getD p (0, 0) = red a b) := fun h => c_90 (by rw [h.2])
        exact join_106  hp3
      · refine j_aload_n F dX3_addEvent_93 rfl rfl ?_
        refine gX3_15 hn F dX3_addEvent_94 rfl ?_
        refine j_iload F dX3_addEvent_97 rfl rfl ?_
        refine j_iaload (a := p) F (by omega) rfl rfl (by omega) (by decide) dX3_addEvent_99 rfl ?_
        refine j_int (y := iI ((E0.getD p (0, 0)).2)) ((hR.2 p (by omega)).2) ?_
        refine j_iload F dX3_addEvent_100 rfl rfl ?_
        refine j_icmp_neZ F (a := (E0.getD p (0, 0)).2) (b := (red a b).2) rfl rfl (RB_get hRB (show p < E0.length by omega)).2 r2 (by decide) (by decide) (tgt := 106) dX3_addEvent_102 (by decide) rfl (fun c_102 => ?_) (fun c_102 => ?_)
        · have hp3 : ¬ (p < E0.length ∧ E0.getD p (0, 0) = red a b) := fun h => c_102 (by rw [h.2])
          exact join_106  hp3
        · exact j_vret F hRt (by have hI := insE_at E0 (red a b) p hpl hp1 hp2; rw [if_pos ⟨c_78, Prod.ext c_90 c_102⟩] at hI; rw [hI]; exact ⟨rfl, hR, hLa, Fr.rf⟩) dX3_addEvent_105
  refine j_iconst (v := nI (0)) F dX3_addEvent_30 rfl (by decide) ?_
  refine j_istore (lv' := [some (.ref (X.E.1 + 43)), some (.int (iI (a))), some (.int (iI (b))), some (.int (nI (gc a b))), some (.int (iI ((red a b).1))), some (.int (iI ((red a b).2))), some (.int (nI (0))), none]) F dX3_addEvent_31 rfl (hL _ (by decide)) rfl rfl ?_
  have loop_33 : ∀ (ii : Nat), ii ≤ E0.length → (∀ j, j < ii → ahd (E0.getD j (0, 0)) (red a b) = true) → J X 33 [some (.ref (X.E.1 + 43)), some (.int (iI (a))), some (.int (iI (b))), some (.int (nI (gc a b))), some (.int (iI ((red a b).1))), some (.int (iI ((red a b).2))), some (.int (nI (ii))), none] [] σ := by
    refine dnL (fun ii hii ih_33 => ?_)
    intro hpre
    refine j_iload F dX3_addEvent_33 rfl rfl ?_
    refine j_aload_n F dX3_addEvent_35 rfl rfl ?_
    refine gX3_31 hn F dX3_addEvent_36 rfl ?_
    refine j_int (y := nI (E0.length)) (hR.1) ?_
    refine j_icmp_geN (a := ii) (b := E0.length) F (by omega) (by omega) (tgt := 72) dX3_addEvent_39 (by decide) rfl (fun c_39 => ?_) (fun c_39 => ?_)
    · have hp2 : ii < E0.length → ahd (E0.getD ii (0, 0)) (red a b) = false := fun h => absurd h (by omega)
      exact join_72 ii hii hpre hp2
    · refine j_aload_n F dX3_addEvent_42 rfl rfl ?_
      refine gX3_9 hn F dX3_addEvent_43 rfl ?_
      refine j_iload F dX3_addEvent_46 rfl rfl ?_
      refine j_iaload (a := ii) F (by omega) rfl rfl (by omega) (by decide) dX3_addEvent_48 rfl ?_
      refine j_int (y := iI ((E0.getD ii (0, 0)).1)) ((hR.2 ii (by omega)).1) ?_
      refine j_aload_n F dX3_addEvent_49 rfl rfl ?_
      refine gX3_15 hn F dX3_addEvent_50 rfl ?_
      refine j_iload F dX3_addEvent_53 rfl rfl ?_
      refine j_iaload (a := ii) F (by omega) rfl rfl (by omega) (by decide) dX3_addEvent_55 rfl ?_
      refine j_int (y := iI ((E0.getD ii (0, 0)).2)) ((hR.2 ii (by omega)).2) ?_
      refine j_iload F dX3_addEvent_56 rfl rfl ?_
      refine j_iload F dX3_addEvent_58 rfl rfl ?_
      refine kX3_57 F (As := [.int (iI ((E0.getD ii (0, 0)).1)), .int (iI ((E0.getD ii (0, 0)).2)), .int (iI ((red a b).1)), .int (iI ((red a b).2))]) (rest := []) (c_X3_isAhead ((E0.getD ii (0, 0)).1) ((E0.getD ii (0, 0)).2) ((red a b).1) ((red a b).2) (bd_mono (RB_get hRB (show ii < E0.length by omega)).1 (by decide)) (bd_mono (RB_get hRB (show ii < E0.length by omega)).2 (by decide)) (bd_mono r1 (by decide)) (bd_mono r2 (by decide))) (by decide) rfl rfl (Nat.le_of_ble_eq_true rfl) dX3_addEvent_60 rfl (ro_k ?_)
      refine j_if_eqB F (x := ahd ((E0.getD ii (0, 0)).1, (E0.getD ii (0, 0)).2) ((red a b).1, (red a b).2)) (tgt := 72) dX3_addEvent_63 (by decide) rfl (fun c_63 => ?_) (fun c_63 => ?_)
      · have hp2 : ii < E0.length → ahd (E0.getD ii (0, 0)) (red a b) = false := fun _ => c_63
        exact join_72 ii hii hpre hp2
      · refine j_iincN (a := ii) (c := 1) (lv' := [some (.ref (X.E.1 + 43)), some (.int (iI (a))), some (.int (iI (b))), some (.int (nI (gc a b))), some (.int (iI ((red a b).1))), some (.int (iI ((red a b).2))), some (.int (nI (ii + 1))), none]) F dX3_addEvent_66 rfl rfl (by decide) (hL _ (by decide)) rfl rfl ?_
        refine j_goto (pc' := 33) F dX3_addEvent_69 (by decide) ?_
        exact ih_33 (by omega)  (fun j h => by rcases (show j < ii ∨ j = ii by omega) with t | rfl; exact hpre j t; exact c_63)
  exact loop_33 0 (by omega)  (fun j h => absurd h (by omega))

set_option maxRecDepth 10000 in
set_option maxHeartbeats 2000000 in
theorem c_X3_eventBehind {l : Launch} {n : Nat} {E : Ev} {σ : St} {E0 : List Dr} (hn : 55 ≤ n) (hR : RayOK σ E0) (hlen : E0.length ≤ 100) (i : Nat) (hi : i < E0.length) : Ct l yX3_eventBehind cX3_eventBehind 2 (some .int) 0 n E [.ref (E.1 + 43), .int (nI (i))] σ (ro (.int (nI (if i + 1 < E0.length then i + 1 else 0))) σ) := by
  refine Ct.of (lv0 := [some (.ref (E.1 + 43)), some (.int (nI (i)))]) (by decide) (Nat.le_of_ble_eq_true rfl) rfl ?_
  intro X hXn hXE hXl hXL F hRt
  subst hXn hXE hXl
  have hL : ∀ i, i < 2 → i < X.nL := fun i h => by rw [hXL]; exact h
  refine j_iload_n F dX3_eventBehind_0 rfl rfl ?_
  refine j_iconst (v := nI (1)) F dX3_eventBehind_1 rfl (by decide) ?_
  refine j_iaddN (a := i) (b := 1) F dX3_eventBehind_2 rfl ?_
  refine j_aload_n F dX3_eventBehind_3 rfl rfl ?_
  refine gX3_31 hn F dX3_eventBehind_4 rfl ?_
  refine j_int (y := nI (E0.length)) (hR.1) ?_
  refine j_icmp_geN (a := i + 1) (b := E0.length) F (by omega) (by omega) (tgt := 16) dX3_eventBehind_7 (by decide) rfl (fun c_7 => ?_) (fun c_7 => ?_)
  · refine j_iconst (v := nI (0)) F dX3_eventBehind_16 rfl (by decide) ?_
    exact j_iret F hRt rfl (roI (by rw [if_neg (by omega)])) dX3_eventBehind_17
  · refine j_iload_n F dX3_eventBehind_10 rfl rfl ?_
    refine j_iconst (v := nI (1)) F dX3_eventBehind_11 rfl (by decide) ?_
    refine j_iaddN (a := i) (b := 1) F dX3_eventBehind_12 rfl ?_
    refine j_goto (pc' := 17) F dX3_eventBehind_13 (by decide) ?_
    exact j_iret F hRt rfl (roI (by rw [if_pos c_7])) dX3_eventBehind_17
