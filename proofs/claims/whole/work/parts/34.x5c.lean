set_option maxRecDepth 10000 in
set_option maxHeartbeats 2000000 in
theorem c_J6_bitCount_0f7a4 {l : Launch} {n : Nat} {E : Ev} {σ : St} (a : Nat) (ha : a < 256) : Ct l yJ6_bitCount_0f7a4 cJ6_bitCount_0f7a4 1 (some .int) 0 n E [.int (nI (a))] σ (ro (.int (nI (pop8 a))) σ) := by
  refine Ct.of (lv0 := [some (.int (nI (a)))]) (by decide) (Nat.le_of_ble_eq_true rfl) rfl ?_
  intro X hXn hXE hXl hXL F hRt
  subst hXn hXE hXl
  have hL : ∀ i, i < 1 → i < X.nL := fun i h => by rw [hXL]; exact h
  refine j_iload_n F dJ6_bitCount_0f7a4_0 rfl rfl ?_
  refine j_iload_n F dJ6_bitCount_0f7a4_1 rfl rfl ?_
  refine j_iconst (v := nI (1)) F dJ6_bitCount_0f7a4_2 rfl (by decide) ?_
  refine j_iushr (v := (Int32.toUInt32 (nI (a)) >>> (Int32.toUInt32 (nI (1)) &&& Int32.toUInt32 31)).toInt32) F dJ6_bitCount_0f7a4_3 rfl rfl ?_
  refine j_ldcw (v := 1431655765) F wk_265 dJ6_bitCount_0f7a4_4 rfl ?_
  refine j_iand F dJ6_bitCount_0f7a4_7 rfl ?_
  refine j_isub F dJ6_bitCount_0f7a4_8 rfl ?_
  refine j_int (y := nI (bc1 a)) (bc1_ok a ha) ?_
  refine j_istore_n (lv' := [some (.int (nI (bc1 a)))]) F dJ6_bitCount_0f7a4_9 rfl (hL _ (by decide)) rfl rfl ?_
  refine j_iload_n F dJ6_bitCount_0f7a4_10 rfl rfl ?_
  refine j_ldcw (v := 858993459) F wk_266 dJ6_bitCount_0f7a4_11 rfl ?_
  refine j_iand F dJ6_bitCount_0f7a4_14 rfl ?_
  refine j_iload_n F dJ6_bitCount_0f7a4_15 rfl rfl ?_
  refine j_iconst (v := nI (2)) F dJ6_bitCount_0f7a4_16 rfl (by decide) ?_
  refine j_iushr (v := (Int32.toUInt32 (nI (bc1 a)) >>> (Int32.toUInt32 (nI (2)) &&& Int32.toUInt32 31)).toInt32) F dJ6_bitCount_0f7a4_17 rfl rfl ?_
  refine j_ldcw (v := 858993459) F wk_266 dJ6_bitCount_0f7a4_18 rfl ?_
  refine j_iand F dJ6_bitCount_0f7a4_21 rfl ?_
  refine j_iadd F dJ6_bitCount_0f7a4_22 rfl ?_
  refine j_int (y := nI (bc2 a)) (bc2_ok a ha) ?_
  refine j_istore_n (lv' := [some (.int (nI (bc2 a)))]) F dJ6_bitCount_0f7a4_23 rfl (hL _ (by decide)) rfl rfl ?_
  refine j_iload_n F dJ6_bitCount_0f7a4_24 rfl rfl ?_
  refine j_iload_n F dJ6_bitCount_0f7a4_25 rfl rfl ?_
  refine j_iconst (v := nI (4)) F dJ6_bitCount_0f7a4_26 rfl (by decide) ?_
  refine j_iushr (v := (Int32.toUInt32 (nI (bc2 a)) >>> (Int32.toUInt32 (nI (4)) &&& Int32.toUInt32 31)).toInt32) F dJ6_bitCount_0f7a4_27 rfl rfl ?_
  refine j_iadd F dJ6_bitCount_0f7a4_28 rfl ?_
  refine j_ldcw (v := 252645135) F wk_267 dJ6_bitCount_0f7a4_29 rfl ?_
  refine j_iand F dJ6_bitCount_0f7a4_32 rfl ?_
  refine j_int (y := nI (bc3 a)) (bc3_ok a ha) ?_
  refine j_istore_n (lv' := [some (.int (nI (bc3 a)))]) F dJ6_bitCount_0f7a4_33 rfl (hL _ (by decide)) rfl rfl ?_
  refine j_iload_n F dJ6_bitCount_0f7a4_34 rfl rfl ?_
  refine j_iload_n F dJ6_bitCount_0f7a4_35 rfl rfl ?_
  refine j_bipush (v := nI (8)) F dJ6_bitCount_0f7a4_36 rfl (by decide) ?_
  refine j_iushr (v := (Int32.toUInt32 (nI (bc3 a)) >>> (Int32.toUInt32 (nI (8)) &&& Int32.toUInt32 31)).toInt32) F dJ6_bitCount_0f7a4_38 rfl rfl ?_
  refine j_iadd F dJ6_bitCount_0f7a4_39 rfl ?_
  refine j_int (y := nI (bc4 a)) (bc4_ok a ha) ?_
  refine j_istore_n (lv' := [some (.int (nI (bc4 a)))]) F dJ6_bitCount_0f7a4_40 rfl (hL _ (by decide)) rfl rfl ?_
  refine j_iload_n F dJ6_bitCount_0f7a4_41 rfl rfl ?_
  refine j_iload_n F dJ6_bitCount_0f7a4_42 rfl rfl ?_
  refine j_bipush (v := nI (16)) F dJ6_bitCount_0f7a4_43 rfl (by decide) ?_
  refine j_iushr (v := (Int32.toUInt32 (nI (bc4 a)) >>> (Int32.toUInt32 (nI (16)) &&& Int32.toUInt32 31)).toInt32) F dJ6_bitCount_0f7a4_45 rfl rfl ?_
  refine j_iadd F dJ6_bitCount_0f7a4_46 rfl ?_
  refine j_int (y := nI (bc5 a)) (bc5_ok a ha) ?_
  refine j_istore_n (lv' := [some (.int (nI (bc5 a)))]) F dJ6_bitCount_0f7a4_47 rfl (hL _ (by decide)) rfl rfl ?_
  refine j_iload_n F dJ6_bitCount_0f7a4_48 rfl rfl ?_
  refine j_bipush (v := nI (63)) F dJ6_bitCount_0f7a4_49 rfl (by decide) ?_
  refine j_iand F dJ6_bitCount_0f7a4_51 rfl ?_
  refine j_int (y := nI (pop8 a)) (bc6_ok a ha) ?_
  exact j_iret F hRt rfl (⟨rfl, rfl⟩) dJ6_bitCount_0f7a4_52

set_option maxRecDepth 10000 in
set_option maxHeartbeats 2000000 in
theorem c_X5_events {l : Launch} {n : Nat} {E : Ev} {σ : St} {A : Ab} (hn : 55 ≤ n) (hA : AI A) (hC : CR σ A) (x : Int32) : Ct l yX5_events cX5_events 2 (some .int) 4 n E [.ref (E.1 + 0), .int (x)] σ (oC σ (o_events A x)) := by
  refine Ct.of (lv0 := [some (.ref (E.1 + 0)), some (.int (x))]) (by decide) (Nat.le_of_ble_eq_true rfl) rfl ?_
  intro X hXn hXE hXl hXL F hRt
  subst hXn hXE hXl
  have hL : ∀ i, i < 2 → i < X.nL := fun i h => by rw [hXL]; exact h
  have hP := hC.1
  have hT := hC.2.1
  have hPa := hC.2.2.1
  have hG := hA.1
  have hBd := hG.1
  have hWl := hG.2.1
  have hLm := hG.2.2.1
  have hB0 := hBd
  obtain ⟨b1, b2, b3, b4, b5, b6, b7⟩ := hB0
  refine j_aload_n F dX5_events_0 rfl rfl ?_
  refine gX5_12 hn F dX5_events_1 rfl ?_
  refine j_iload_n F dX5_events_4 rfl rfl ?_
  refine kX5_93 (isPl_1 hn) F (As := [.int (x)]) (rest := []) (c_X2_hasLamp hn (isPl_1 hn) hP hBd x) (by decide) rfl rfl (Nat.le_of_ble_eq_true rfl) dX5_events_5 rfl (ro_k ?_)
  refine j_if_neB F (x := inR (x) A.P.nl) (tgt := 13) dX5_events_8 (by decide) rfl (fun c_8 => ?_) (fun c_8 => ?_)
  · have hz := c_8
    obtain ⟨j, hj, rfl⟩ := inR_t c_8 (by omega)
    refine j_aload_n F dX5_events_13 rfl rfl ?_
    refine gX5_43 hn F dX5_events_14 rfl ?_
    refine j_aload_n F dX5_events_17 rfl rfl ?_
    refine gX5_12 hn F dX5_events_18 rfl ?_
    refine j_iload_n F dX5_events_21 rfl rfl ?_
    refine kX5_158 hn F (As := [.ref (X.E.1 + 1), .int (nI (j))]) (rest := []) (c_X3_turnRound hn hP hBd hWl hLm j hj) (by decide) rfl rfl (Nat.le_of_ble_eq_true rfl) dX5_events_22 rfl (fun v_22 σ_22 q_22 => ?_)
    obtain ⟨rfl, R_22, L_22, f_22⟩ := q_22
    have hP_22 : PlanOK σ_22 1 A.P := hP.frame (f_22 1 (by decide)) (f_22 2 (by decide)) (f_22 3 (by decide))
    have hC_22 := CR_scr hC (f_22.sub (by decide))
    have fc_22 := FrC.of f_22 (by decide)
    have hE100 := EC_len hBd j
    have hERB := EC_RB hBd (hLm j hj)
    have hlo := hLm j hj
    unfold LampOK at hlo
    obtain ⟨o1, o2, o3⟩ := hlo
    refine j_aload_n F dX5_events_25 rfl rfl ?_
    refine gX5_43 hn F dX5_events_26 rfl ?_
    refine gX5_162 hn F dX5_events_29 rfl ?_
    refine j_int (y := nI ((A.P.EC j).length)) (R_22.1) ?_
    exact j_iret F hRt rfl (oC_q (by rw [if_pos hz, tn_n (by omega)]) hC_22 fc_22) dX5_events_32
  · have hz : ¬ inR x A.P.nl = true := by rw [c_8]; decide
    refine j_iconst (v := (-1 : Int32)) F dX5_events_11 rfl (by decide) ?_
    exact j_iret F hRt rfl (oC_q (if_neg hz) hC FrC.rf) dX5_events_12

set_option maxRecDepth 10000 in
set_option maxHeartbeats 2000000 in
theorem c_X5_event {l : Launch} {n : Nat} {E : Ev} {σ : St} {A : Ab} (hn : 55 ≤ n) (hA : AI A) (hC : CR σ A) (l0 k0 x : Int32) : Ct l yX5_event cX5_event 4 (some .int) 4 n E [.ref (E.1 + 0), .int (l0), .int (k0), .int (x)] σ (oC σ (o_event A l0 k0 x)) := by
  refine Ct.of (lv0 := [some (.ref (E.1 + 0)), some (.int (l0)), some (.int (k0)), some (.int (x))]) (by decide) (Nat.le_of_ble_eq_true rfl) rfl ?_
  intro X hXn hXE hXl hXL F hRt
  subst hXn hXE hXl
  have hL : ∀ i, i < 4 → i < X.nL := fun i h => by rw [hXL]; exact h
  have hP := hC.1
  have hT := hC.2.1
  have hPa := hC.2.2.1
  have hG := hA.1
  have hBd := hG.1
  have hWl := hG.2.1
  have hLm := hG.2.2.1
  have hB0 := hBd
  obtain ⟨b1, b2, b3, b4, b5, b6, b7⟩ := hB0
  refine j_aload_n F dX5_event_0 rfl rfl ?_
  refine gX5_12 hn F dX5_event_1 rfl ?_
  refine j_iload_n F dX5_event_4 rfl rfl ?_
  refine kX5_93 (isPl_1 hn) F (As := [.int (l0)]) (rest := []) (c_X2_hasLamp hn (isPl_1 hn) hP hBd l0) (by decide) rfl rfl (Nat.le_of_ble_eq_true rfl) dX5_event_5 rfl (ro_k ?_)
  refine j_if_eqB F (x := inR (l0) A.P.nl) (tgt := 24) dX5_event_8 (by decide) rfl (fun c_8 => ?_) (fun c_8 => ?_)
  · have hz : ¬ (inR l0 A.P.nl = true ∧ ¬ k0 < 0 ∧ ¬ x < 0 ∧ x ≤ nI 1 ∧ k0 < nI (A.P.EC (tn l0)).length) := fun q => by rw [c_8] at q; exact absurd q.1 (by decide)
    refine j_sipush (v := (-1000 : Int32)) F dX5_event_24 rfl (by decide) ?_
    exact j_iret F hRt rfl (oC_q (if_neg hz) hC FrC.rf) dX5_event_27
  · refine j_iload_n F dX5_event_11 rfl rfl ?_
    refine j_if_lt F (tgt := 24) dX5_event_12 (by decide) rfl (fun c_12 => ?_) (fun c_12 => ?_)
    · have hz : ¬ (inR l0 A.P.nl = true ∧ ¬ k0 < 0 ∧ ¬ x < 0 ∧ x ≤ nI 1 ∧ k0 < nI (A.P.EC (tn l0)).length) := fun q => q.2.1 c_12
      refine j_sipush (v := (-1000 : Int32)) F dX5_event_24 rfl (by decide) ?_
      exact j_iret F hRt rfl (oC_q (if_neg hz) hC FrC.rf) dX5_event_27
    · refine j_iload_n F dX5_event_15 rfl rfl ?_
      refine j_if_lt F (tgt := 24) dX5_event_16 (by decide) rfl (fun c_16 => ?_) (fun c_16 => ?_)
      · have hz : ¬ (inR l0 A.P.nl = true ∧ ¬ k0 < 0 ∧ ¬ x < 0 ∧ x ≤ nI 1 ∧ k0 < nI (A.P.EC (tn l0)).length) := fun q => q.2.2.1 c_16
        refine j_sipush (v := (-1000 : Int32)) F dX5_event_24 rfl (by decide) ?_
        exact j_iret F hRt rfl (oC_q (if_neg hz) hC FrC.rf) dX5_event_27
      · refine j_iload_n F dX5_event_19 rfl rfl ?_
        refine j_iconst (v := nI (1)) F dX5_event_20 rfl (by decide) ?_
        refine j_icmp_le F (tgt := 28) dX5_event_21 (by decide) rfl (fun c_21 => ?_) (fun c_21 => ?_)
        · have hs0 := c_8
          obtain ⟨j, hj, rfl⟩ := inR_t c_8 (by omega)
          refine j_aload_n F dX5_event_28 rfl rfl ?_
          refine gX5_43 hn F dX5_event_29 rfl ?_
          refine j_aload_n F dX5_event_32 rfl rfl ?_
          refine gX5_12 hn F dX5_event_33 rfl ?_
          refine j_iload_n F dX5_event_36 rfl rfl ?_
          refine kX5_158 hn F (As := [.ref (X.E.1 + 1), .int (nI (j))]) (rest := []) (c_X3_turnRound hn hP hBd hWl hLm j hj) (by decide) rfl rfl (Nat.le_of_ble_eq_true rfl) dX5_event_37 rfl (fun v_37 σ_37 q_37 => ?_)
          obtain ⟨rfl, R_37, L_37, f_37⟩ := q_37
          have hP_37 : PlanOK σ_37 1 A.P := hP.frame (f_37 1 (by decide)) (f_37 2 (by decide)) (f_37 3 (by decide))
          have hC_37 := CR_scr hC (f_37.sub (by decide))
          have fc_37 := FrC.of f_37 (by decide)
          have hE100 := EC_len hBd j
          have hERB := EC_RB hBd (hLm j hj)
          have hlo := hLm j hj
          unfold LampOK at hlo
          obtain ⟨o1, o2, o3⟩ := hlo
          refine j_iload_n F dX5_event_40 rfl rfl ?_
          refine j_aload_n F dX5_event_41 rfl rfl ?_
          refine gX5_43 hn F dX5_event_42 rfl ?_
          refine gX5_162 hn F dX5_event_45 rfl ?_
          refine j_int (y := nI ((A.P.EC j).length)) (R_37.1) ?_
          refine j_icmp_lt F (tgt := 55) dX5_event_48 (by decide) rfl (fun c_48 => ?_) (fun c_48 => ?_)
          · have hz : inR (nI j) A.P.nl = true ∧ ¬ k0 < 0 ∧ ¬ x < 0 ∧ x ≤ nI 1 ∧ k0 < nI (A.P.EC (tn (nI j))).length := ⟨hs0, c_12, c_16, c_21, by rw [tn_n (by omega)]; exact c_48⟩
            obtain ⟨i, hi, rfl⟩ := rg_lt c_12 c_48 (by omega)
            refine j_iload_n F dX5_event_55 rfl rfl ?_
            refine j_if_ne F (tgt := 71) dX5_event_56 (by decide) rfl (fun c_56 => ?_) (fun c_56 => ?_)
            · refine j_aload_n F dX5_event_71 rfl rfl ?_
              refine gX5_43 hn F dX5_event_72 rfl ?_
              refine gX5_166 hn F dX5_event_75 rfl ?_
              refine j_iload_n F dX5_event_78 rfl rfl ?_
              refine j_iaload (a := i) F (by omega) rfl rfl (by omega) (by decide) dX5_event_79 rfl ?_
              refine j_int (y := iI (((A.P.EC j).getD i (0, 0)).2)) ((R_37.2 i hi).2) ?_
              exact j_iret F hRt rfl (oC_q (by rw [if_pos hz, tn_n (show j < 2147483648 by omega), tn_n (show i < 2147483648 by omega)]; first | rw [if_pos c_56] | rw [if_neg c_56]) hC_37 fc_37) dX5_event_80
            · refine j_aload_n F dX5_event_59 rfl rfl ?_
              refine gX5_43 hn F dX5_event_60 rfl ?_
              refine gX5_163 hn F dX5_event_63 rfl ?_
              refine j_iload_n F dX5_event_66 rfl rfl ?_
              refine j_iaload (a := i) F (by omega) rfl rfl (by omega) (by decide) dX5_event_67 rfl ?_
              refine j_int (y := iI (((A.P.EC j).getD i (0, 0)).1)) ((R_37.2 i hi).1) ?_
              refine j_goto (pc' := 80) F dX5_event_68 (by decide) ?_
              exact j_iret F hRt rfl (oC_q (by rw [if_pos hz, tn_n (show j < 2147483648 by omega), tn_n (show i < 2147483648 by omega)]; first | rw [if_pos c_56] | rw [if_neg c_56]) hC_37 fc_37) dX5_event_80
          · have hz : ¬ (inR (nI j) A.P.nl = true ∧ ¬ k0 < 0 ∧ ¬ x < 0 ∧ x ≤ nI 1 ∧ k0 < nI (A.P.EC (tn (nI j))).length) := fun q => c_48 (by have r := q.2.2.2.2; rw [tn_n (by omega)] at r; exact r)
            refine j_sipush (v := (-1000 : Int32)) F dX5_event_51 rfl (by decide) ?_
            exact j_iret F hRt rfl (oC_q (if_neg hz) hC_37 fc_37) dX5_event_54
        · have hz : ¬ (inR l0 A.P.nl = true ∧ ¬ k0 < 0 ∧ ¬ x < 0 ∧ x ≤ nI 1 ∧ k0 < nI (A.P.EC (tn l0)).length) := fun q => c_21 q.2.2.2.1
          refine j_sipush (v := (-1000 : Int32)) F dX5_event_24 rfl (by decide) ?_
          exact j_iret F hRt rfl (oC_q (if_neg hz) hC FrC.rf) dX5_event_27

set_option maxRecDepth 10000 in
set_option maxHeartbeats 2000000 in
theorem c_X5_sector {l : Launch} {n : Nat} {E : Ev} {σ : St} {A : Ab} (hn : 55 ≤ n) (hA : AI A) (hC : CR σ A) (l0 k0 x : Int32) : Ct l yX5_sector cX5_sector 5 (some .int) 4 n E [.ref (E.1 + 0), .int (l0), .int (k0), .int (x)] σ (oC σ (o_sector A l0 k0 x)) := by
  refine Ct.of (lv0 := [some (.ref (E.1 + 0)), some (.int (l0)), some (.int (k0)), some (.int (x)), none]) (by decide) (Nat.le_of_ble_eq_true rfl) rfl ?_
  intro X hXn hXE hXl hXL F hRt
  subst hXn hXE hXl
  have hL : ∀ i, i < 5 → i < X.nL := fun i h => by rw [hXL]; exact h
  have hP := hC.1
  have hT := hC.2.1
  have hPa := hC.2.2.1
  have hG := hA.1
  have hBd := hG.1
  have hWl := hG.2.1
  have hLm := hG.2.2.1
  have hB0 := hBd
  obtain ⟨b1, b2, b3, b4, b5, b6, b7⟩ := hB0
  refine j_aload_n F dX5_sector_0 rfl rfl ?_
  refine gX5_12 hn F dX5_sector_1 rfl ?_
  refine j_iload_n F dX5_sector_4 rfl rfl ?_
  refine kX5_93 (isPl_1 hn) F (As := [.int (l0)]) (rest := []) (c_X2_hasLamp hn (isPl_1 hn) hP hBd l0) (by decide) rfl rfl (Nat.le_of_ble_eq_true rfl) dX5_sector_5 rfl (ro_k ?_)
  refine j_if_eqB F (x := inR (l0) A.P.nl) (tgt := 24) dX5_sector_8 (by decide) rfl (fun c_8 => ?_) (fun c_8 => ?_)
  · have hz : ¬ (inR l0 A.P.nl = true ∧ ¬ k0 < 0 ∧ ¬ x < 0 ∧ x ≤ nI 2) := fun q => by rw [c_8] at q; exact absurd q.1 (by decide)
    refine j_iconst (v := (-1 : Int32)) F dX5_sector_24 rfl (by decide) ?_
    exact j_iret F hRt rfl (oC_q (if_neg hz) hC FrC.rf) dX5_sector_25
  · refine j_iload_n F dX5_sector_11 rfl rfl ?_
    refine j_if_lt F (tgt := 24) dX5_sector_12 (by decide) rfl (fun c_12 => ?_) (fun c_12 => ?_)
    · have hz : ¬ (inR l0 A.P.nl = true ∧ ¬ k0 < 0 ∧ ¬ x < 0 ∧ x ≤ nI 2) := fun q => q.2.1 c_12
      refine j_iconst (v := (-1 : Int32)) F dX5_sector_24 rfl (by decide) ?_
      exact j_iret F hRt rfl (oC_q (if_neg hz) hC FrC.rf) dX5_sector_25
    · refine j_iload_n F dX5_sector_15 rfl rfl ?_
      refine j_if_lt F (tgt := 24) dX5_sector_16 (by decide) rfl (fun c_16 => ?_) (fun c_16 => ?_)
      · have hz : ¬ (inR l0 A.P.nl = true ∧ ¬ k0 < 0 ∧ ¬ x < 0 ∧ x ≤ nI 2) := fun q => q.2.2.1 c_16
        refine j_iconst (v := (-1 : Int32)) F dX5_sector_24 rfl (by decide) ?_
        exact j_iret F hRt rfl (oC_q (if_neg hz) hC FrC.rf) dX5_sector_25
      · refine j_iload_n F dX5_sector_19 rfl rfl ?_
        refine j_iconst (v := nI (2)) F dX5_sector_20 rfl (by decide) ?_
        refine j_icmp_le F (tgt := 26) dX5_sector_21 (by decide) rfl (fun c_21 => ?_) (fun c_21 => ?_)
        · have hz : inR l0 A.P.nl = true ∧ ¬ k0 < 0 ∧ ¬ x < 0 ∧ x ≤ nI 2 := ⟨c_8, c_12, c_16, c_21⟩
          obtain ⟨j, hj, rfl⟩ := inR_t c_8 (by omega)
          refine j_aload_n F dX5_sector_26 rfl rfl ?_
          refine gX5_43 hn F dX5_sector_27 rfl ?_
          refine j_aload_n F dX5_sector_30 rfl rfl ?_
          refine gX5_12 hn F dX5_sector_31 rfl ?_
          refine j_iload_n F dX5_sector_34 rfl rfl ?_
          refine kX5_158 hn F (As := [.ref (X.E.1 + 1), .int (nI (j))]) (rest := []) (c_X3_turnRound hn hP hBd hWl hLm j hj) (by decide) rfl rfl (Nat.le_of_ble_eq_true rfl) dX5_sector_35 rfl (fun v_35 σ_35 q_35 => ?_)
          obtain ⟨rfl, R_35, L_35, f_35⟩ := q_35
          have hP_35 : PlanOK σ_35 1 A.P := hP.frame (f_35 1 (by decide)) (f_35 2 (by decide)) (f_35 3 (by decide))
          have hC_35 := CR_scr hC (f_35.sub (by decide))
          have fc_35 := FrC.of f_35 (by decide)
          have hE100 := EC_len hBd j
          have hERB := EC_RB hBd (hLm j hj)
          have hlo := hLm j hj
          unfold LampOK at hlo
          obtain ⟨o1, o2, o3⟩ := hlo
          refine j_iload_n F dX5_sector_38 rfl rfl ?_
          refine j_aload_n F dX5_sector_39 rfl rfl ?_
          refine gX5_43 hn F dX5_sector_40 rfl ?_
          refine gX5_162 hn F dX5_sector_43 rfl ?_
          refine j_int (y := nI ((A.P.EC j).length)) (R_35.1) ?_
          refine j_icmp_lt F (tgt := 52) dX5_sector_46 (by decide) rfl (fun c_46 => ?_) (fun c_46 => ?_)
          · have hk : k0 < nI (A.P.EC (tn (nI j))).length := by rw [tn_n (by omega)]; exact c_46
            obtain ⟨i, hi, rfl⟩ := rg_lt c_12 c_46 (by omega)
            refine j_aload_n F dX5_sector_52 rfl rfl ?_
            refine gX5_43 hn F dX5_sector_53 rfl ?_
            refine j_aload_n F dX5_sector_56 rfl rfl ?_
            refine gX5_12 hn F dX5_sector_57 rfl ?_
            refine j_iload_n F dX5_sector_60 rfl rfl ?_
            refine kX5_169 hn F (As := [.ref (X.E.1 + 1), .int (nI (i))]) (rest := []) (c_X3_wallOfSector hn hP_35 hBd hWl hLm (A.P.lp j 0) (A.P.lp j 1) L_35 (by omega) (by omega) R_35 hERB hE100 i (by omega)) (by decide) rfl rfl (Nat.le_of_ble_eq_true rfl) dX5_sector_61 rfl (ro_k ?_)
            rcases hw : A.P.wsl j i with _ | q
            · refine j_int (y := (-9 : Int32)) (by show fwR (A.P.wsl j i) = _; rw [hw]; rfl) ?_
              refine j_istore (lv' := [some (.ref (X.E.1 + 0)), some (.int (nI (j))), some (.int (nI (i))), some (.int (x)), some (.int ((-9 : Int32)))]) F dX5_sector_64 rfl (hL _ (by decide)) rfl rfl ?_
              refine j_iload_n F dX5_sector_66 rfl rfl ?_
              refine j_if_eq F (tgt := 75) dX5_sector_67 (by decide) rfl (fun c_67 => ?_) (fun c_67 => ?_)
              · refine j_iload F dX5_sector_75 rfl rfl ?_
                exact j_iret F hRt rfl (oC_q (by rw [if_pos hz, if_pos hk, tn_n (show j < 2147483648 by omega), tn_n (show i < 2147483648 by omega)]; unfold secA; rw [hw]) hC_35 fc_35) dX5_sector_77
              · refine j_iload F dX5_sector_70 rfl rfl ?_
                refine j_if_ge F (tgt := 78) dX5_sector_72 (by decide) rfl (fun c_72 => False.elim (absurd c_72 (by decide))) (fun c_72 => ?_)
                refine j_iload F dX5_sector_75 rfl rfl ?_
                exact j_iret F hRt rfl (oC_q (by rw [if_pos hz, if_pos hk, tn_n (show j < 2147483648 by omega), tn_n (show i < 2147483648 by omega)]; unfold secA; rw [hw]) hC_35 fc_35) dX5_sector_77
            · have hq14 := fw_lt hw
              refine j_int (y := nI (q.1)) (by show fwR (A.P.wsl j i) = _; rw [hw]; rfl) ?_
              refine j_istore (lv' := [some (.ref (X.E.1 + 0)), some (.int (nI (j))), some (.int (nI (i))), some (.int (x)), some (.int (nI (q.1)))]) F dX5_sector_64 rfl (hL _ (by decide)) rfl rfl ?_
              refine j_iload_n F dX5_sector_66 rfl rfl ?_
              refine j_if_eq F (tgt := 75) dX5_sector_67 (by decide) rfl (fun c_67 => ?_) (fun c_67 => ?_)
              · refine j_iload F dX5_sector_75 rfl rfl ?_
                exact j_iret F hRt rfl (oC_q (by rw [if_pos hz, if_pos hk, tn_n (show j < 2147483648 by omega), tn_n (show i < 2147483648 by omega)]; unfold secA; rw [hw]; exact if_pos c_67) hC_35 fc_35) dX5_sector_77
              · refine j_iload F dX5_sector_70 rfl rfl ?_
                refine j_if_geN (a := q.1) F (by omega) (tgt := 78) dX5_sector_72 (by decide) rfl ?_
                refine j_aload_n F dX5_sector_78 rfl rfl ?_
                refine gX5_43 hn F dX5_sector_79 rfl ?_
                refine j_aload_n F dX5_sector_82 rfl rfl ?_
                refine gX5_12 hn F dX5_sector_83 rfl ?_
                refine j_iload_n F dX5_sector_86 rfl rfl ?_
                refine j_iload F dX5_sector_87 rfl rfl ?_
                refine kX5_173 hn F (As := [.ref (X.E.1 + 1), .int (nI (i)), .int (nI (q.1))]) (rest := []) (c_X3_measure hn hP_35 hBd hWl hLm (A.P.lp j 0) (A.P.lp j 1) L_35 (by omega) (by omega) R_35 hERB hE100 i (by omega) q.1 hq14) (by decide) rfl rfl (Nat.le_of_ble_eq_true rfl) dX5_sector_89 rfl (fun v_89 σ_89 q_89 => ?_)
                obtain ⟨rfl, u_89, w_89, f_89⟩ := q_89
                have hC_89 := CR_scr hC_35 (f_89.sub (by decide))
                have fc_89 := fc_35.tr (FrC.of f_89 (by decide))
                refine j_iload_n F dX5_sector_92 rfl rfl ?_
                refine j_iconst (v := nI (1)) F dX5_sector_93 rfl (by decide) ?_
                refine j_icmp_ne F (tgt := 107) dX5_sector_94 (by decide) rfl (fun c_94 => ?_) (fun c_94 => ?_)
                · refine j_aload_n F dX5_sector_107 rfl rfl ?_
                  refine gX5_43 hn F dX5_sector_108 rfl ?_
                  refine gX5_180 hn F dX5_sector_111 rfl ?_
                  refine j_int (y := iI (A.P.arL (A.P.lp j 0) (A.P.lp j 1) (A.P.EC j) i q.1)) (w_89) ?_
                  exact j_iret F hRt rfl (oC_q (by rw [if_pos hz, if_pos hk, tn_n (show j < 2147483648 by omega), tn_n (show i < 2147483648 by omega)]; unfold secA; rw [hw]; show (if x = 0 then _ else _) = _; rw [if_neg c_67]; first | exact if_pos c_94 | exact if_neg c_94) hC_89 fc_89) dX5_sector_114
                · refine j_aload_n F dX5_sector_97 rfl rfl ?_
                  refine gX5_43 hn F dX5_sector_98 rfl ?_
                  refine gX5_177 hn F dX5_sector_101 rfl ?_
                  refine j_int (y := iI (A.P.arU (A.P.lp j 0) (A.P.lp j 1) (A.P.EC j) i q.1)) (u_89) ?_
                  refine j_goto (pc' := 114) F dX5_sector_104 (by decide) ?_
                  exact j_iret F hRt rfl (oC_q (by rw [if_pos hz, if_pos hk, tn_n (show j < 2147483648 by omega), tn_n (show i < 2147483648 by omega)]; unfold secA; rw [hw]; show (if x = 0 then _ else _) = _; rw [if_neg c_67]; first | exact if_pos c_94 | exact if_neg c_94) hC_89 fc_89) dX5_sector_114
          · have hk : ¬ k0 < nI (A.P.EC (tn (nI j))).length := by rw [tn_n (by omega)]; exact c_46
            refine j_bipush (v := (-9 : Int32)) F dX5_sector_49 rfl (by decide) ?_
            exact j_iret F hRt rfl (oC_q (by rw [if_pos hz, if_neg hk]) hC_35 fc_35) dX5_sector_51
        · have hz : ¬ (inR l0 A.P.nl = true ∧ ¬ k0 < 0 ∧ ¬ x < 0 ∧ x ≤ nI 2) := fun q => c_21 q.2.2.2
          refine j_iconst (v := (-1 : Int32)) F dX5_sector_24 rfl (by decide) ?_
          exact j_iret F hRt rfl (oC_q (if_neg hz) hC FrC.rf) dX5_sector_25

set_option maxRecDepth 10000 in
set_option maxHeartbeats 2000000 in
theorem c_X5_walls {l : Launch} {n : Nat} {E : Ev} {σ : St} {A : Ab} (hn : 55 ≤ n) (hA : AI A) (hC : CR σ A) (x : Int32) : Ct l yX5_walls cX5_walls 5 (some .int) 4 n E [.ref (E.1 + 0), .int (x)] σ (oC σ (o_walls A x)) := by
  refine Ct.of (lv0 := [some (.ref (E.1 + 0)), some (.int (x)), none, none, none]) (by decide) (Nat.le_of_ble_eq_true rfl) rfl ?_
  intro X hXn hXE hXl hXL F hRt
  subst hXn hXE hXl
  have hL : ∀ i, i < 5 → i < X.nL := fun i h => by rw [hXL]; exact h
  have hP := hC.1
  have hT := hC.2.1
  have hPa := hC.2.2.1
  have hG := hA.1
  have hBd := hG.1
  have hWl := hG.2.1
  have hLm := hG.2.2.1
  have hB0 := hBd
  obtain ⟨b1, b2, b3, b4, b5, b6, b7⟩ := hB0
  refine j_aload_n F dX5_walls_0 rfl rfl ?_
  refine gX5_12 hn F dX5_walls_1 rfl ?_
  refine j_iload_n F dX5_walls_4 rfl rfl ?_
  refine kX5_93 (isPl_1 hn) F (As := [.int (x)]) (rest := []) (c_X2_hasLamp hn (isPl_1 hn) hP hBd x) (by decide) rfl rfl (Nat.le_of_ble_eq_true rfl) dX5_walls_5 rfl (ro_k ?_)
  refine j_if_neB F (x := inR (x) A.P.nl) (tgt := 13) dX5_walls_8 (by decide) rfl (fun c_8 => ?_) (fun c_8 => ?_)
  · have hz := c_8
    obtain ⟨j, hj, rfl⟩ := inR_t c_8 (by omega)
    refine j_aload_n F dX5_walls_13 rfl rfl ?_
    refine gX5_43 hn F dX5_walls_14 rfl ?_
    refine j_aload_n F dX5_walls_17 rfl rfl ?_
    refine gX5_12 hn F dX5_walls_18 rfl ?_
    refine j_iload_n F dX5_walls_21 rfl rfl ?_
    refine kX5_158 hn F (As := [.ref (X.E.1 + 1), .int (nI (j))]) (rest := []) (c_X3_turnRound hn hP hBd hWl hLm j hj) (by decide) rfl rfl (Nat.le_of_ble_eq_true rfl) dX5_walls_22 rfl (fun v_22 σ_22 q_22 => ?_)
    obtain ⟨rfl, R_22, L_22, f_22⟩ := q_22
    have hP_22 : PlanOK σ_22 1 A.P := hP.frame (f_22 1 (by decide)) (f_22 2 (by decide)) (f_22 3 (by decide))
    have hC_22 := CR_scr hC (f_22.sub (by decide))
    have fc_22 := FrC.of f_22 (by decide)
    have hE100 := EC_len hBd j
    have hERB := EC_RB hBd (hLm j hj)
    have hlo := hLm j hj
    unfold LampOK at hlo
    obtain ⟨o1, o2, o3⟩ := hlo
    refine j_iconst (v := nI (0)) F dX5_walls_25 rfl (by decide) ?_
    refine j_istore_n (lv' := [some (.ref (X.E.1 + 0)), some (.int (nI (j))), some (.int (nI (0))), none, none]) F dX5_walls_26 rfl (hL _ (by decide)) rfl rfl ?_
    refine j_iconst (v := nI (0)) F dX5_walls_27 rfl (by decide) ?_
    refine j_istore_n (lv' := [some (.ref (X.E.1 + 0)), some (.int (nI (j))), some (.int (nI (0))), some (.int (nI (0))), none]) F dX5_walls_28 rfl (hL _ (by decide)) rfl rfl ?_
    have loop_29 : ∀ (ii : Nat), ii ≤ (A.P.EC j).length → J X 29 [some (.ref (X.E.1 + 0)), some (.int (nI (j))), some (.int (nI (wbits A.P j ii))), some (.int (nI (ii))), none] [] σ_22 := by
      refine dnL (fun ii hii ih_29 => ?_)
      refine j_iload_n F dX5_walls_29 rfl rfl ?_
      refine j_aload_n F dX5_walls_30 rfl rfl ?_
      refine gX5_43 hn F dX5_walls_31 rfl ?_
      refine gX5_162 hn F dX5_walls_34 rfl ?_
      refine j_int (y := nI ((A.P.EC j).length)) (R_22.1) ?_
      refine j_icmp_geN (a := ii) (b := (A.P.EC j).length) F (by omega) (by omega) (tgt := 72) dX5_walls_37 (by decide) rfl (fun c_37 => ?_) (fun c_37 => ?_)
      · have hiN : ii = (A.P.EC j).length := by omega
        refine j_iload_n F dX5_walls_72 rfl rfl ?_
        exact j_iret F hRt rfl (oC_q (by rw [if_pos hz, tn_n (by omega), hiN]) hC_22 fc_22) dX5_walls_73
      · refine j_aload_n F dX5_walls_40 rfl rfl ?_
        refine gX5_43 hn F dX5_walls_41 rfl ?_
        refine j_aload_n F dX5_walls_44 rfl rfl ?_
        refine gX5_12 hn F dX5_walls_45 rfl ?_
        refine j_iload_n F dX5_walls_48 rfl rfl ?_
        refine kX5_169 hn F (As := [.ref (X.E.1 + 1), .int (nI (ii))]) (rest := []) (c_X3_wallOfSector hn hP_22 hBd hWl hLm (A.P.lp j 0) (A.P.lp j 1) L_22 (by omega) (by omega) R_22 hERB hE100 ii (by omega)) (by decide) rfl rfl (Nat.le_of_ble_eq_true rfl) dX5_walls_49 rfl (ro_k ?_)
        rcases hw : A.P.wsl j ii with _ | q
        · refine j_int (y := (-9 : Int32)) (by show fwR (A.P.wsl j ii) = _; rw [hw]; rfl) ?_
          refine j_istore (lv' := [some (.ref (X.E.1 + 0)), some (.int (nI (j))), some (.int (nI (wbits A.P j ii))), some (.int (nI (ii))), some (.int ((-9 : Int32)))]) F dX5_walls_52 rfl (hL _ (by decide)) rfl rfl ?_
          refine j_iload F dX5_walls_54 rfl rfl ?_
          refine j_if_lt F (tgt := 66) dX5_walls_56 (by decide) rfl (fun c_56 => ?_) (fun c_56 => False.elim (absurd (by decide) c_56))
          refine j_iincN (a := ii) (c := 1) (lv' := [some (.ref (X.E.1 + 0)), some (.int (nI (j))), some (.int (nI (wbits A.P j ii))), some (.int (nI (ii + 1))), some (.int ((-9 : Int32)))]) F dX5_walls_66 rfl rfl (by decide) (hL _ (by decide)) rfl rfl ?_
          refine j_goto (pc' := 29) F dX5_walls_69 (by decide) ?_
          refine j_lv (lv' := [some (.ref (X.E.1 + 0)), some (.int (nI (j))), some (.int (nI (wbits A.P j ii))), some (.int (nI (ii + 1))), none]) (sbl (ks := [0, 1, 2, 3]) rfl) ?_
          refine j_lvq (lv' := [some (.ref (X.E.1 + 0)), some (.int (nI (j))), some (.int (nI (wbits A.P j (ii + 1)))), some (.int (nI (ii + 1))), none]) (by rw [(show wbits A.P j ii = wbits A.P j (ii + 1) from by show _ = wbits A.P j ii ||| wbit A.P j ii; unfold wbit; rw [hw]; exact (Nat.or_zero _).symm)]) ?_
          exact ih_29 (by omega)
        · have hq14 := fw_lt hw
          refine j_int (y := nI (q.1)) (by show fwR (A.P.wsl j ii) = _; rw [hw]; rfl) ?_
          refine j_istore (lv' := [some (.ref (X.E.1 + 0)), some (.int (nI (j))), some (.int (nI (wbits A.P j ii))), some (.int (nI (ii))), some (.int (nI (q.1)))]) F dX5_walls_52 rfl (hL _ (by decide)) rfl rfl ?_
          refine j_iload F dX5_walls_54 rfl rfl ?_
          refine j_if_ltN (a := q.1) F (by omega) (tgt := 66) dX5_walls_56 (by decide) rfl ?_
          refine j_iload_n F dX5_walls_59 rfl rfl ?_
          refine j_iconst (v := nI (1)) F dX5_walls_60 rfl (by decide) ?_
          refine j_iload F dX5_walls_61 rfl rfl ?_
          refine j_ishl F dX5_walls_63 rfl ?_
          refine j_ior F dX5_walls_64 rfl ?_
          refine j_int (y := nI (wbits A.P j ii ||| 2 ^ q.1)) (or_1 (by omega)) ?_
          refine j_istore_n (lv' := [some (.ref (X.E.1 + 0)), some (.int (nI (j))), some (.int (nI (wbits A.P j ii ||| 2 ^ q.1))), some (.int (nI (ii))), some (.int (nI (q.1)))]) F dX5_walls_65 rfl (hL _ (by decide)) rfl rfl ?_
          refine j_iincN (a := ii) (c := 1) (lv' := [some (.ref (X.E.1 + 0)), some (.int (nI (j))), some (.int (nI (wbits A.P j ii ||| 2 ^ q.1))), some (.int (nI (ii + 1))), some (.int (nI (q.1)))]) F dX5_walls_66 rfl rfl (by decide) (hL _ (by decide)) rfl rfl ?_
          refine j_goto (pc' := 29) F dX5_walls_69 (by decide) ?_
          refine j_lv (lv' := [some (.ref (X.E.1 + 0)), some (.int (nI (j))), some (.int (nI (wbits A.P j ii ||| 2 ^ q.1))), some (.int (nI (ii + 1))), none]) (sbl (ks := [0, 1, 2, 3]) rfl) ?_
          refine j_lvq (lv' := [some (.ref (X.E.1 + 0)), some (.int (nI (j))), some (.int (nI (wbits A.P j (ii + 1)))), some (.int (nI (ii + 1))), none]) (by rw [(show wbits A.P j ii ||| 2 ^ q.1 = wbits A.P j (ii + 1) from by show _ = wbits A.P j ii ||| wbit A.P j ii; unfold wbit; rw [hw])]) ?_
          exact ih_29 (by omega)
    exact loop_29 0 (by omega)  
  · have hz : ¬ inR x A.P.nl = true := by rw [c_8]; decide
    refine j_iconst (v := (-1 : Int32)) F dX5_walls_11 rfl (by decide) ?_
    exact j_iret F hRt rfl (oC_q (if_neg hz) hC FrC.rf) dX5_walls_12

set_option maxRecDepth 10000 in
set_option maxHeartbeats 2000000 in
theorem c_X5_fewest {l : Launch} {n : Nat} {E : Ev} {σ : St} {A : Ab} (hn : 55 ≤ n) (hA : AI A) (hC : CR σ A) : Ct l yX5_fewest cX5_fewest 4 (some .int) 6 n E [.ref (E.1 + 0)] σ (oC σ (o_fewest A)) := by
  refine Ct.of (lv0 := [some (.ref (E.1 + 0)), none, none, none]) (by decide) (Nat.le_of_ble_eq_true rfl) rfl ?_
  intro X hXn hXE hXl hXL F hRt
  subst hXn hXE hXl
  have hL : ∀ i, i < 4 → i < X.nL := fun i h => by rw [hXL]; exact h
  have hP := hC.1
  have hT := hC.2.1
  have hPa := hC.2.2.1
  have hG := hA.1
  have hBd := hG.1
  have hWl := hG.2.1
  have hLm := hG.2.2.1
  have hB0 := hBd
  obtain ⟨b1, b2, b3, b4, b5, b6, b7⟩ := hB0
  have hp1 : 1 ≤ 2 ^ A.P.nl := Nat.one_le_two_pow
  have hp2 : 2 ^ A.P.nl ≤ 256 := Nat.pow_le_pow_right (n := 2) (by decide) b7
  have har := ar_le b2 b4
  refine j_iconst (v := nI (1)) F dX5_fewest_0 rfl (by decide) ?_
  refine j_aload_n F dX5_fewest_1 rfl rfl ?_
  refine gX5_12 hn F dX5_fewest_2 rfl ?_
  refine gX5_106 (isPl_1 hn) F dX5_fewest_5 rfl ?_
  refine j_int (y := nI (A.P.nl)) (hP.nl) ?_
  refine j_ishl F dX5_fewest_8 rfl ?_
  refine j_int (y := nI (2 ^ A.P.nl)) (sh_n (Nat.le_refl 1) (by omega)) ?_
  refine j_iconst (v := nI (1)) F dX5_fewest_9 rfl (by decide) ?_
  refine j_isubN (a := 2 ^ A.P.nl) (b := 1) F (by omega) dX5_fewest_10 rfl ?_
  refine j_istore_n (lv' := [some (.ref (X.E.1 + 0)), some (.int (nI ((2 ^ A.P.nl) - 1))), none, none]) F dX5_fewest_11 rfl (hL _ (by decide)) rfl rfl ?_
  refine j_aload_n F dX5_fewest_12 rfl rfl ?_
  refine gX5_36 hn F dX5_fewest_13 rfl ?_
  refine j_aload_n F dX5_fewest_16 rfl rfl ?_
  refine gX5_12 hn F dX5_fewest_17 rfl ?_
  refine j_iload_n F dX5_fewest_20 rfl rfl ?_
  refine j_bipush (v := (-9 : Int32)) F dX5_fewest_21 rfl (by decide) ?_
  refine kX5_183 hn F (As := [.ref (X.E.1 + 1), .int (nI ((2 ^ A.P.nl) - 1)), .int ((-9 : Int32))]) (rest := []) (c_X0_shine hn hP hBd hWl hLm ((2 ^ A.P.nl) - 1) ((-9 : Int32)) (by omega)) (by decide) rfl rfl (Nat.le_of_ble_eq_true rfl) dX5_fewest_23 rfl (fun v_23 σ_23 q_23 => ?_)
  obtain ⟨rfl, g_23, rfl, hg_23⟩ := q_23
  have hP_23 : PlanOK (upR σ 42 g_23) 1 A.P := hP.frame (upR_n _ _ (by decide)) (upR_n _ _ (by decide)) (upR_n _ _ (by decide))
  have hC_23 := CR_scr hC (Fr.row (g := g_23) Fr.rf (show 42 ∈ scr by decide))
  have fc_23 : FrC σ (upR σ 42 g_23) := fun a ha => upR_n _ _ (by omega)
  refine j_iload_n F dX5_fewest_26 rfl rfl ?_
  refine j_istore_n (lv' := [some (.ref (X.E.1 + 0)), some (.int (nI ((2 ^ A.P.nl) - 1))), some (.int (nI ((2 ^ A.P.nl) - 1))), none]) F dX5_fewest_27 rfl (hL _ (by decide)) rfl rfl ?_
  refine j_iconst (v := nI (0)) F dX5_fewest_28 rfl (by decide) ?_
  refine j_istore_n (lv' := [some (.ref (X.E.1 + 0)), some (.int (nI ((2 ^ A.P.nl) - 1))), some (.int (nI ((2 ^ A.P.nl) - 1))), some (.int (nI (0)))]) F dX5_fewest_29 rfl (hL _ (by decide)) rfl rfl ?_
  have loop_30 : ∀ (ii : Nat), ii ≤ (2 ^ A.P.nl - 1) → J X 30 [some (.ref (X.E.1 + 0)), some (.int (nI (2 ^ A.P.nl - 1))), some (.int (nI (fewC (A.P.LS (2 ^ A.P.nl - 1) (-9)) (A.P.W * A.P.H) (2 ^ A.P.nl - 1) ii))), some (.int (nI (ii)))] [] (upR σ 42 g_23) := by
    refine dnL (fun ii hii ih_30 => ?_)
    have hfl : fewC (A.P.LS (2 ^ A.P.nl - 1) (-9)) (A.P.W * A.P.H) (2 ^ A.P.nl - 1) ii ≤ 2 ^ A.P.nl - 1 := fewC_le (by omega)
    refine j_iload_n F dX5_fewest_30 rfl rfl ?_
    refine j_iload_n F dX5_fewest_31 rfl rfl ?_
    refine j_icmp_geN (a := ii) (b := 2 ^ A.P.nl - 1) F (by omega) (by omega) (tgt := 69) dX5_fewest_32 (by decide) rfl (fun c_32 => ?_) (fun c_32 => ?_)
    · have hiN : ii = 2 ^ A.P.nl - 1 := by omega
      refine j_iload_n F dX5_fewest_69 rfl rfl ?_
      exact j_iret F hRt rfl (oC_q (by unfold Pl.few; rw [hiN]) hC_23 fc_23) dX5_fewest_70
    · refine j_iload_n F dX5_fewest_35 rfl rfl ?_
      refine kX5_186 F (As := [.int (nI (ii))]) (rest := []) (c_J6_bitCount_0f7a4 ii (by omega)) (by decide) rfl rfl (Nat.le_of_ble_eq_true rfl) dX5_fewest_36 rfl (ro_k ?_)
      refine j_iload_n F dX5_fewest_39 rfl rfl ?_
      refine kX5_186 F (As := [.int (nI (fewC (A.P.LS (2 ^ A.P.nl - 1) (-9)) (A.P.W * A.P.H) (2 ^ A.P.nl - 1) ii))]) (rest := [.int (nI (pop8 ii))]) (c_J6_bitCount_0f7a4 (fewC (A.P.LS (2 ^ A.P.nl - 1) (-9)) (A.P.W * A.P.H) (2 ^ A.P.nl - 1) ii) (by omega)) (by decide) rfl rfl (Nat.le_of_ble_eq_true rfl) dX5_fewest_40 rfl (ro_k ?_)
      refine j_icmp_geN (a := pop8 ii) (b := pop8 (fewC (A.P.LS (2 ^ A.P.nl - 1) (-9)) (A.P.W * A.P.H) (2 ^ A.P.nl - 1) ii)) F (by have := pop8_le ii; omega) (by have := pop8_le (fewC (A.P.LS (2 ^ A.P.nl - 1) (-9)) (A.P.W * A.P.H) (2 ^ A.P.nl - 1) ii); omega) (tgt := 63) dX5_fewest_43 (by decide) rfl (fun c_43 => ?_) (fun c_43 => ?_)
      · have hnx : fewC (A.P.LS (2 ^ A.P.nl - 1) (-9)) (A.P.W * A.P.H) (2 ^ A.P.nl - 1) (ii + 1) = fewC (A.P.LS (2 ^ A.P.nl - 1) (-9)) (A.P.W * A.P.H) (2 ^ A.P.nl - 1) ii := by rw [fewC, if_neg (fun q => by have := q.1; omega)]
        refine j_iincN (a := ii) (c := 1) (lv' := [some (.ref (X.E.1 + 0)), some (.int (nI (2 ^ A.P.nl - 1))), some (.int (nI (fewC (A.P.LS (2 ^ A.P.nl - 1) (-9)) (A.P.W * A.P.H) (2 ^ A.P.nl - 1) ii))), some (.int (nI (ii + 1)))]) F dX5_fewest_63 rfl rfl (by decide) (hL _ (by decide)) rfl rfl ?_
        refine j_goto (pc' := 30) F dX5_fewest_66 (by decide) ?_
        refine j_lvq (lv' := [some (.ref (X.E.1 + 0)), some (.int (nI (2 ^ A.P.nl - 1))), some (.int (nI (fewC (A.P.LS (2 ^ A.P.nl - 1) (-9)) (A.P.W * A.P.H) (2 ^ A.P.nl - 1) (ii + 1)))), some (.int (nI (ii + 1)))]) (by rw [hnx]) ?_
        exact ih_30 (by omega)
      · refine j_aload_n F dX5_fewest_46 rfl rfl ?_
        refine gX5_36 hn F dX5_fewest_47 rfl ?_
        refine j_aload_n F dX5_fewest_50 rfl rfl ?_
        refine gX5_12 hn F dX5_fewest_51 rfl ?_
        refine j_iload_n F dX5_fewest_54 rfl rfl ?_
        refine kX5_191 hn F (As := [.ref (X.E.1 + 1), .int (nI (ii))]) (rest := []) (c_X0_isEnough hn hP_23 hBd hWl hLm (A.P.LS (2 ^ A.P.nl - 1) (-9)) (fun s hs => by rw [upR_s]; exact hg_23 s hs) (LS_lt b7 _ _) ii (by omega)) (by decide) rfl rfl (Nat.le_of_ble_eq_true rfl) dX5_fewest_55 rfl (ro_k ?_)
        refine j_if_eqB F (x := enoughL (A.P.LS (2 ^ A.P.nl - 1) (-9)) (A.P.W * A.P.H) ii) (tgt := 63) dX5_fewest_58 (by decide) rfl (fun c_58 => ?_) (fun c_58 => ?_)
        · have hnx : fewC (A.P.LS (2 ^ A.P.nl - 1) (-9)) (A.P.W * A.P.H) (2 ^ A.P.nl - 1) (ii + 1) = fewC (A.P.LS (2 ^ A.P.nl - 1) (-9)) (A.P.W * A.P.H) (2 ^ A.P.nl - 1) ii := by rw [fewC, if_neg (fun q => by rw [c_58] at q; exact absurd q.2 (by decide))]
          refine j_iincN (a := ii) (c := 1) (lv' := [some (.ref (X.E.1 + 0)), some (.int (nI (2 ^ A.P.nl - 1))), some (.int (nI (fewC (A.P.LS (2 ^ A.P.nl - 1) (-9)) (A.P.W * A.P.H) (2 ^ A.P.nl - 1) ii))), some (.int (nI (ii + 1)))]) F dX5_fewest_63 rfl rfl (by decide) (hL _ (by decide)) rfl rfl ?_
          refine j_goto (pc' := 30) F dX5_fewest_66 (by decide) ?_
          refine j_lvq (lv' := [some (.ref (X.E.1 + 0)), some (.int (nI (2 ^ A.P.nl - 1))), some (.int (nI (fewC (A.P.LS (2 ^ A.P.nl - 1) (-9)) (A.P.W * A.P.H) (2 ^ A.P.nl - 1) (ii + 1)))), some (.int (nI (ii + 1)))]) (by rw [hnx]) ?_
          exact ih_30 (by omega)
        · have hnx : fewC (A.P.LS (2 ^ A.P.nl - 1) (-9)) (A.P.W * A.P.H) (2 ^ A.P.nl - 1) (ii + 1) = ii := by rw [fewC, if_pos ⟨c_43, c_58⟩]
          refine j_iload_n F dX5_fewest_61 rfl rfl ?_
          refine j_istore_n (lv' := [some (.ref (X.E.1 + 0)), some (.int (nI (2 ^ A.P.nl - 1))), some (.int (nI (ii))), some (.int (nI (ii)))]) F dX5_fewest_62 rfl (hL _ (by decide)) rfl rfl ?_
          refine j_iincN (a := ii) (c := 1) (lv' := [some (.ref (X.E.1 + 0)), some (.int (nI (2 ^ A.P.nl - 1))), some (.int (nI (ii))), some (.int (nI (ii + 1)))]) F dX5_fewest_63 rfl rfl (by decide) (hL _ (by decide)) rfl rfl ?_
          refine j_goto (pc' := 30) F dX5_fewest_66 (by decide) ?_
          refine j_lvq (lv' := [some (.ref (X.E.1 + 0)), some (.int (nI (2 ^ A.P.nl - 1))), some (.int (nI (fewC (A.P.LS (2 ^ A.P.nl - 1) (-9)) (A.P.W * A.P.H) (2 ^ A.P.nl - 1) (ii + 1)))), some (.int (nI (ii + 1)))]) (by rw [hnx]) ?_
          exact ih_30 (by omega)
  exact loop_30 0 (by omega)  

set_option maxRecDepth 10000 in
set_option maxHeartbeats 2000000 in
theorem c_X5_best {l : Launch} {n : Nat} {E : Ev} {σ : St} {A : Ab} (hn : 55 ≤ n) (hA : AI A) (hC : CR σ A) (x : Int32) : Ct l yX5_best cX5_best 8 (some .int) 6 n E [.ref (E.1 + 0), .int (x)] σ (oC σ (o_best A x)) := by
  refine Ct.of (lv0 := [some (.ref (E.1 + 0)), some (.int (x)), none, none, none, none, none, none]) (by decide) (Nat.le_of_ble_eq_true rfl) rfl ?_
  intro X hXn hXE hXl hXL F hRt
  subst hXn hXE hXl
  have hL : ∀ i, i < 8 → i < X.nL := fun i h => by rw [hXL]; exact h
  have hP := hC.1
  have hT := hC.2.1
  have hPa := hC.2.2.1
  have hG := hA.1
  have hBd := hG.1
  have hWl := hG.2.1
  have hLm := hG.2.2.1
  have hB0 := hBd
  obtain ⟨b1, b2, b3, b4, b5, b6, b7⟩ := hB0
  have har := ar_le b2 b4
  have hon : A.P.on < 256 := Bt_le b7
  refine j_iload_n F dX5_best_0 rfl rfl ?_
  refine j_if_lt F (tgt := 9) dX5_best_1 (by decide) rfl (fun c_1 => ?_) (fun c_1 => ?_)
  · have hz : ¬ (¬ x < 0 ∧ x ≤ nI 2) := fun q => q.1 c_1
    refine j_iconst (v := (-1 : Int32)) F dX5_best_9 rfl (by decide) ?_
    exact j_iret F hRt rfl (oC_q (if_neg hz) hC FrC.rf) dX5_best_10
  · refine j_iload_n F dX5_best_4 rfl rfl ?_
    refine j_iconst (v := nI (2)) F dX5_best_5 rfl (by decide) ?_
    refine j_icmp_le F (tgt := 11) dX5_best_6 (by decide) rfl (fun c_6 => ?_) (fun c_6 => ?_)
    · have hz : ¬ x < 0 ∧ x ≤ nI 2 := ⟨c_1, c_6⟩
      refine j_aload_n F dX5_best_11 rfl rfl ?_
      refine gX5_36 hn F dX5_best_12 rfl ?_
      refine j_aload_n F dX5_best_15 rfl rfl ?_
      refine gX5_12 hn F dX5_best_16 rfl ?_
      refine j_aload_n F dX5_best_19 rfl rfl ?_
      refine gX5_12 hn F dX5_best_20 rfl ?_
      refine kX5_154 (isPl_1 hn) F (As := []) (rest := [.ref (X.E.1 + 1), .ref (X.E.1 + 41)]) (c_X2_lampsOn hn (isPl_1 hn) hP hBd hLm) (by decide) rfl rfl (Nat.le_of_ble_eq_true rfl) dX5_best_23 rfl (ro_k ?_)
      refine j_bipush (v := (-9 : Int32)) F dX5_best_26 rfl (by decide) ?_
      refine kX5_183 hn F (As := [.ref (X.E.1 + 1), .int (nI (A.P.on)), .int ((-9 : Int32))]) (rest := []) (c_X0_shine hn hP hBd hWl hLm A.P.on ((-9 : Int32)) (by omega)) (by decide) rfl rfl (Nat.le_of_ble_eq_true rfl) dX5_best_28 rfl (fun v_28 σ_28 q_28 => ?_)
      obtain ⟨rfl, g_28, rfl, hg_28⟩ := q_28
      have hP_28 : PlanOK (upR σ 42 g_28) 1 A.P := hP.frame (upR_n _ _ (by decide)) (upR_n _ _ (by decide)) (upR_n _ _ (by decide))
      have hC_28 := CR_scr hC (Fr.row (g := g_28) Fr.rf (show 42 ∈ scr by decide))
      have fc_28 : FrC σ (upR σ 42 g_28) := fun a ha => upR_n _ _ (by omega)
      refine j_bipush (v := (-9 : Int32)) F dX5_best_31 rfl (by decide) ?_
      refine j_istore_n (lv' := [some (.ref (X.E.1 + 0)), some (.int (x)), some (.int ((-9 : Int32))), none, none, none, none, none]) F dX5_best_33 rfl (hL _ (by decide)) rfl rfl ?_
      refine j_bipush (v := (-9 : Int32)) F dX5_best_34 rfl (by decide) ?_
      refine j_istore_n (lv' := [some (.ref (X.E.1 + 0)), some (.int (x)), some (.int ((-9 : Int32))), some (.int ((-9 : Int32))), none, none, none, none]) F dX5_best_36 rfl (hL _ (by decide)) rfl rfl ?_
      refine j_bipush (v := (-9 : Int32)) F dX5_best_37 rfl (by decide) ?_
      refine j_istore (lv' := [some (.ref (X.E.1 + 0)), some (.int (x)), some (.int ((-9 : Int32))), some (.int ((-9 : Int32))), some (.int ((-9 : Int32))), none, none, none]) F dX5_best_39 rfl (hL _ (by decide)) rfl rfl ?_
      refine j_iconst (v := nI (0)) F dX5_best_41 rfl (by decide) ?_
      refine j_istore (lv' := [some (.ref (X.E.1 + 0)), some (.int (x)), some (.int ((-9 : Int32))), some (.int ((-9 : Int32))), some (.int ((-9 : Int32))), some (.int (nI (0))), none, none]) F dX5_best_42 rfl (hL _ (by decide)) rfl rfl ?_
      have loop_44 : ∀ (ii : Nat), ii ≤ A.P.H → ∀ (L2 : Int32) (L3 : Int32) (L4 : Int32), (bI3 A.P (bstC A.P (ii * A.P.W)) L2 L3 L4) → J X 44 [some (.ref (X.E.1 + 0)), some (.int (x)), some (.int (L2)), some (.int (L3)), some (.int (L4)), some (.int (nI (ii))), none, none] [] (upR σ 42 g_28) := by
        refine dnL (fun ii hii ih_44 => ?_)
        intro L2 L3 L4 hI
        refine j_iload F dX5_best_44 rfl rfl ?_
        refine j_aload_n F dX5_best_46 rfl rfl ?_
        refine gX5_12 hn F dX5_best_47 rfl ?_
        refine gX5_195 (isPl_1 hn) F dX5_best_50 rfl ?_
        refine j_int (y := nI (A.P.H)) (hP_28.h) ?_
        refine j_icmp_geN (a := ii) (b := A.P.H) F (by omega) (by omega) (tgt := 136) dX5_best_53 (by decide) rfl (fun c_53 => ?_) (fun c_53 => ?_)
        · have hiH : ii = A.P.H := by omega
          refine j_iload_n F dX5_best_136 rfl rfl ?_
          refine j_if_ne F (tgt := 144) dX5_best_137 (by decide) rfl (fun c_137 => ?_) (fun c_137 => ?_)
          · refine j_iload_n F dX5_best_144 rfl rfl ?_
            refine j_iconst (v := nI (1)) F dX5_best_145 rfl (by decide) ?_
            refine j_icmp_ne F (tgt := 153) dX5_best_146 (by decide) rfl (fun c_146 => ?_) (fun c_146 => ?_)
            · refine j_iload F dX5_best_153 rfl rfl ?_
              exact j_iret F hRt rfl (oC_q (by rw [if_pos hz, bI3_end hI (by rw [hiH, Nat.mul_comm])]; first | rw [if_pos c_137] | rw [if_neg c_137, if_pos c_146] | rw [if_neg c_137, if_neg c_146]) hC_28 fc_28) dX5_best_155
            · refine j_iload_n F dX5_best_149 rfl rfl ?_
              refine j_goto (pc' := 155) F dX5_best_150 (by decide) ?_
              exact j_iret F hRt rfl (oC_q (by rw [if_pos hz, bI3_end hI (by rw [hiH, Nat.mul_comm])]; first | rw [if_pos c_137] | rw [if_neg c_137, if_pos c_146] | rw [if_neg c_137, if_neg c_146]) hC_28 fc_28) dX5_best_155
          · refine j_iload_n F dX5_best_140 rfl rfl ?_
            refine j_goto (pc' := 155) F dX5_best_141 (by decide) ?_
            exact j_iret F hRt rfl (oC_q (by rw [if_pos hz, bI3_end hI (by rw [hiH, Nat.mul_comm])]; first | rw [if_pos c_137] | rw [if_neg c_137, if_pos c_146] | rw [if_neg c_137, if_neg c_146]) hC_28 fc_28) dX5_best_155
        · refine j_iconst (v := nI (0)) F dX5_best_56 rfl (by decide) ?_
          refine j_istore (lv' := [some (.ref (X.E.1 + 0)), some (.int (x)), some (.int (L2)), some (.int (L3)), some (.int (L4)), some (.int (nI (ii))), some (.int (nI (0))), none]) F dX5_best_57 rfl (hL _ (by decide)) rfl rfl ?_
          have loop_59 : ∀ (jj : Nat), jj ≤ A.P.W → ∀ (L2 : Int32) (L3 : Int32) (L4 : Int32), (bI3 A.P (bstC A.P (ii * A.P.W + jj)) L2 L3 L4) → J X 59 [some (.ref (X.E.1 + 0)), some (.int (x)), some (.int (L2)), some (.int (L3)), some (.int (L4)), some (.int (nI (ii))), some (.int (nI (jj))), none] [] (upR σ 42 g_28) := by
            refine dnL (fun jj hjj ih_59 => ?_)
            intro L2 L3 L4 hI
            refine j_iload F dX5_best_59 rfl rfl ?_
            refine j_aload_n F dX5_best_61 rfl rfl ?_
            refine gX5_12 hn F dX5_best_62 rfl ?_
            refine gX5_198 (isPl_1 hn) F dX5_best_65 rfl ?_
            refine j_int (y := nI (A.P.W)) (hP_28.w) ?_
            refine j_icmp_geN (a := jj) (b := A.P.W) F (by omega) (by omega) (tgt := 130) dX5_best_68 (by decide) rfl (fun c_68 => ?_) (fun c_68 => ?_)
            · have hjw : jj = A.P.W := by omega
              refine j_iincN (a := ii) (c := 1) (lv' := [some (.ref (X.E.1 + 0)), some (.int (x)), some (.int (L2)), some (.int (L3)), some (.int (L4)), some (.int (nI (ii + 1))), some (.int (nI (jj))), none]) F dX5_best_130 rfl rfl (by decide) (hL _ (by decide)) rfl rfl ?_
              refine j_goto (pc' := 44) F dX5_best_133 (by decide) ?_
              refine j_lv (lv' := [some (.ref (X.E.1 + 0)), some (.int (x)), some (.int (L2)), some (.int (L3)), some (.int (L4)), some (.int (nI (ii + 1))), none, none]) (sbl (ks := [0, 1, 2, 3, 4, 5]) rfl) ?_
              exact ih_44 (by omega) L2 L3 L4 (by rw [Nat.add_mul, Nat.one_mul]; rw [hjw] at hI; exact hI)
            · have hsp := sp_lt c_53 c_68
              refine j_aload_n F dX5_best_71 rfl rfl ?_
              refine gX5_12 hn F dX5_best_72 rfl ?_
              refine j_iload F dX5_best_75 rfl rfl ?_
              refine j_iload F dX5_best_77 rfl rfl ?_
              refine kX5_103 (isPl_1 hn) F (As := [.int (nI (jj)), .int (nI (ii))]) (rest := []) (c_X2_hasLampAt hn (isPl_1 hn) hP_28 hBd hLm jj ii (by omega) (by omega)) (by decide) rfl rfl (Nat.le_of_ble_eq_true rfl) dX5_best_79 rfl (ro_k ?_)
              refine j_if_eqB F (x := A.P.at jj ii) (tgt := 90) dX5_best_82 (by decide) rfl (fun c_82 => ?_) (fun c_82 => ?_)
              · have hat : A.P.at ((ii * A.P.W + jj) % A.P.W) ((ii * A.P.W + jj) / A.P.W) = false := by rw [dm_1 c_68, dm_2 c_68]; exact c_82
                refine j_aload_n F dX5_best_90 rfl rfl ?_
                refine gX5_36 hn F dX5_best_91 rfl ?_
                refine j_aload_n F dX5_best_94 rfl rfl ?_
                refine gX5_12 hn F dX5_best_95 rfl ?_
                refine j_iload F dX5_best_98 rfl rfl ?_
                refine j_iload F dX5_best_100 rfl rfl ?_
                refine kX5_201 hn F (As := [.ref (X.E.1 + 1), .int (nI (jj)), .int (nI (ii))]) (rest := []) (c_X0_darkSpotsSeenFrom hn hP_28 hBd hWl hLm (A.P.LS A.P.on (-9)) (fun s hs => by rw [upR_s]; exact hg_28 s hs) (LS_lt b7 _ _) jj ii (by omega) (by omega)) (by decide) rfl rfl (Nat.le_of_ble_eq_true rfl) dX5_best_102 rfl (ro_k ?_)
                refine j_istore (lv' := [some (.ref (X.E.1 + 0)), some (.int (x)), some (.int (L2)), some (.int (L3)), some (.int (L4)), some (.int (nI (ii))), some (.int (nI (jj))), some (.int (nI (A.P.dark (A.P.LS A.P.on (-9)) jj ii)))]) F dX5_best_105 rfl (hL _ (by decide)) rfl rfl ?_
                refine j_iload F dX5_best_107 rfl rfl ?_
                refine j_iload F dX5_best_109 rfl rfl ?_
                refine j_icmp_le F (tgt := 124) dX5_best_111 (by decide) rfl (fun c_111 => ?_) (fun c_111 => ?_)
                · have hnx : bI3 A.P (bstC A.P (ii * A.P.W + (jj + 1))) L2 L3 L4 := bI3_le (s := ii * A.P.W + jj) hI hat (by rw [dm_1 c_68, dm_2 c_68]) (dark_le hBd _ _ _) c_111
                  skip
                  refine j_iincN (a := jj) (c := 1) (lv' := [some (.ref (X.E.1 + 0)), some (.int (x)), some (.int (L2)), some (.int (L3)), some (.int (L4)), some (.int (nI (ii))), some (.int (nI (jj + 1))), some (.int (nI (A.P.dark (A.P.LS A.P.on (-9)) jj ii)))]) F dX5_best_124 rfl rfl (by decide) (hL _ (by decide)) rfl rfl ?_
                  refine j_goto (pc' := 59) F dX5_best_127 (by decide) ?_
                  refine j_lv (lv' := [some (.ref (X.E.1 + 0)), some (.int (x)), some (.int (L2)), some (.int (L3)), some (.int (L4)), some (.int (nI (ii))), some (.int (nI (jj + 1))), none]) (sbl (ks := [0, 1, 2, 3, 4, 5, 6]) rfl) ?_
                  exact ih_59 (by omega) L2 L3 L4 hnx
                · have hnx : bI3 A.P (bstC A.P (ii * A.P.W + (jj + 1))) (nI jj) (nI ii) (nI (A.P.dark (A.P.LS A.P.on (-9)) jj ii)) := by have z := bI3_gt (s := ii * A.P.W + jj) hI hat (by rw [dm_1 c_68, dm_2 c_68]) (dark_le hBd _ _ _) c_111; rw [dm_1 c_68, dm_2 c_68] at z; exact z
                  refine j_iload F dX5_best_114 rfl rfl ?_
                  refine j_istore_n (lv' := [some (.ref (X.E.1 + 0)), some (.int (x)), some (.int (nI (jj))), some (.int (L3)), some (.int (L4)), some (.int (nI (ii))), some (.int (nI (jj))), some (.int (nI (A.P.dark (A.P.LS A.P.on (-9)) jj ii)))]) F dX5_best_116 rfl (hL _ (by decide)) rfl rfl ?_
                  refine j_iload F dX5_best_117 rfl rfl ?_
                  refine j_istore_n (lv' := [some (.ref (X.E.1 + 0)), some (.int (x)), some (.int (nI (jj))), some (.int (nI (ii))), some (.int (L4)), some (.int (nI (ii))), some (.int (nI (jj))), some (.int (nI (A.P.dark (A.P.LS A.P.on (-9)) jj ii)))]) F dX5_best_119 rfl (hL _ (by decide)) rfl rfl ?_
                  refine j_iload F dX5_best_120 rfl rfl ?_
                  refine j_istore (lv' := [some (.ref (X.E.1 + 0)), some (.int (x)), some (.int (nI (jj))), some (.int (nI (ii))), some (.int (nI (A.P.dark (A.P.LS A.P.on (-9)) jj ii))), some (.int (nI (ii))), some (.int (nI (jj))), some (.int (nI (A.P.dark (A.P.LS A.P.on (-9)) jj ii)))]) F dX5_best_122 rfl (hL _ (by decide)) rfl rfl ?_
                  skip
                  refine j_iincN (a := jj) (c := 1) (lv' := [some (.ref (X.E.1 + 0)), some (.int (x)), some (.int (nI (jj))), some (.int (nI (ii))), some (.int (nI (A.P.dark (A.P.LS A.P.on (-9)) jj ii))), some (.int (nI (ii))), some (.int (nI (jj + 1))), some (.int (nI (A.P.dark (A.P.LS A.P.on (-9)) jj ii)))]) F dX5_best_124 rfl rfl (by decide) (hL _ (by decide)) rfl rfl ?_
                  refine j_goto (pc' := 59) F dX5_best_127 (by decide) ?_
                  refine j_lv (lv' := [some (.ref (X.E.1 + 0)), some (.int (x)), some (.int (nI (jj))), some (.int (nI (ii))), some (.int (nI (A.P.dark (A.P.LS A.P.on (-9)) jj ii))), some (.int (nI (ii))), some (.int (nI (jj + 1))), none]) (sbl (ks := [0, 1, 2, 3, 4, 5, 6]) rfl) ?_
                  exact ih_59 (by omega) (nI (jj)) (nI (ii)) (nI (A.P.dark (A.P.LS A.P.on (-9)) jj ii)) hnx
              · have hat : A.P.at ((ii * A.P.W + jj) % A.P.W) ((ii * A.P.W + jj) / A.P.W) = true := by rw [dm_1 c_68, dm_2 c_68]; exact c_82
                refine j_bipush (v := (-9 : Int32)) F dX5_best_85 rfl (by decide) ?_
                refine j_goto (pc' := 105) F dX5_best_87 (by decide) ?_
                refine j_istore (lv' := [some (.ref (X.E.1 + 0)), some (.int (x)), some (.int (L2)), some (.int (L3)), some (.int (L4)), some (.int (nI (ii))), some (.int (nI (jj))), some (.int ((-9 : Int32)))]) F dX5_best_105 rfl (hL _ (by decide)) rfl rfl ?_
                refine j_iload F dX5_best_107 rfl rfl ?_
                refine j_iload F dX5_best_109 rfl rfl ?_
                refine j_icmp_le F (tgt := 124) dX5_best_111 (by decide) rfl (fun c_111 => ?_) (fun c_111 => False.elim (c_111 (bI3_m hI)))
                have hnx : bI3 A.P (bstC A.P (ii * A.P.W + (jj + 1))) L2 L3 L4 := bI3_at (s := ii * A.P.W + jj) hI hat
                refine j_iincN (a := jj) (c := 1) (lv' := [some (.ref (X.E.1 + 0)), some (.int (x)), some (.int (L2)), some (.int (L3)), some (.int (L4)), some (.int (nI (ii))), some (.int (nI (jj + 1))), some (.int ((-9 : Int32)))]) F dX5_best_124 rfl rfl (by decide) (hL _ (by decide)) rfl rfl ?_
                refine j_goto (pc' := 59) F dX5_best_127 (by decide) ?_
                refine j_lv (lv' := [some (.ref (X.E.1 + 0)), some (.int (x)), some (.int (L2)), some (.int (L3)), some (.int (L4)), some (.int (nI (ii))), some (.int (nI (jj + 1))), none]) (sbl (ks := [0, 1, 2, 3, 4, 5, 6]) rfl) ?_
                exact ih_59 (by omega) L2 L3 L4 hnx
          exact loop_59 0 (by omega) L2 L3 L4 hI
      exact loop_44 0 (by omega) (-9) (-9) (-9) (by rw [Nat.zero_mul]; exact Or.inl ⟨rfl, rfl, rfl, rfl⟩)
    · have hz : ¬ (¬ x < 0 ∧ x ≤ nI 2) := fun q => c_6 q.2
      refine j_iconst (v := (-1 : Int32)) F dX5_best_9 rfl (by decide) ?_
      exact j_iret F hRt rfl (oC_q (if_neg hz) hC FrC.rf) dX5_best_10
