def A0 : Ab := (P0 6 6, fun _ => 0, 0, [], fun _ => none, [])
set_option maxRecDepth 10000 in
set_option maxHeartbeats 2000000 in
theorem c_X6_init {l : Launch} {E : Ev} {ct : Cn} {σ : St} (hct : ct 55 = .inr (6, mdV)) (h : ∀ k s, k < 55 → shpL[k]? = some s → ct k = contS E s (σ k)) : CtS l yX6_init cX6_init 1 3 13 1615 56 E [.ref (E.1 + 55)] ct 69 (fun v' σ' => v' = none ∧ MR σ' A0 ∧ FrM σ σ') := by
  refine CtS.of (lv0 := [some (.ref (E.1 + 55))]) (by decide) rfl (Nat.le_of_ble_eq_true rfl) rfl ?_
  intro X hXn hXE hXl hXL F hRt hN
  subst hXE hXl
  have hC : X.R.cells = 13 := hRt.2.2.2.1
  have hS : X.R.slots = 1615 := hRt.2.2.2.2.1
  refine jn_aload_n F dX6_init_0 rfl rfl ?_
  refine jn_obj F wd_558 wd_60 wd_61 (by decide) dX6_init_1 rfl ?_
  refine jn_aload_n F dX6_init_4 rfl rfl ?_
  refine jn_bipush (v := nI 82) F dX6_init_5 rfl (by decide) ?_
  refine jn_newa (atype := .int) F 0 (by decide) rfl (F.1.2.2.2.2 _ wd_102) (N := 82) (by decide) (by decide) (by decide) (by omega) (by omega) dX6_init_7 rfl ?_
  refine jn_putF F hRt.2.2.1 (C := RX6) (T := TX6) (N := 30) (ci := 6) (k := 55) (i := 3) (fs := [.int 0, .int 0, .int 0, .null, .null, .int 0, .null, .null, .int 0, .null, .null, .null, .int 0, .null, .int 0, .int 0, .int 0, .int 0, .int 0, .int 0, .int 0, .null, .int 0, .null, .int 0, .null, .null, .int 0, .int 0, .null]) (ty := .array .int) tyX6 tyX6_ok nmX6 rfl inX6 (by decide) rfl rfl (by decide +kernel) rfl rfl wd_574 (by decide) ((cset_n _ _ (by decide)).trans hct) (Nat.le_of_ble_eq_true rfl) dX6_init_9 rfl ?_
  refine jn_aload_n F dX6_init_12 rfl rfl ?_
  refine jn_sipush (v := nI 820) F dX6_init_13 rfl (by decide) ?_
  refine jn_newa (atype := .int) F 0 (by decide) rfl (F.1.2.2.2.2 _ wd_102) (N := 820) (by decide) (by decide) (by decide) (by omega) (by omega) dX6_init_16 rfl ?_
  refine jn_putF F hRt.2.2.1 (C := RX6) (T := TX6) (N := 30) (ci := 6) (k := 55) (i := 4) (fs := [.int 0, .int 0, .int 0, .ref (X.E.1 + 56), .null, .int 0, .null, .null, .int 0, .null, .null, .null, .int 0, .null, .int 0, .int 0, .int 0, .int 0, .int 0, .int 0, .int 0, .null, .int 0, .null, .int 0, .null, .null, .int 0, .int 0, .null]) (ty := .array .int) tyX6 tyX6_ok nmX6 rfl inX6 (by decide) rfl rfl (by decide +kernel) rfl rfl wd_575 (by decide) ((cset_n _ _ (by decide)).trans (cset_s _ _ _)) (Nat.le_of_ble_eq_true rfl) dX6_init_18 rfl ?_
  refine jn_aload_n F dX6_init_21 rfl rfl ?_
  refine jn_sipush (v := nI 164) F dX6_init_22 rfl (by decide) ?_
  refine jn_newa (atype := .int) F 0 (by decide) rfl (F.1.2.2.2.2 _ wd_102) (N := 164) (by decide) (by decide) (by decide) (by omega) (by omega) dX6_init_25 rfl ?_
  refine jn_putF F hRt.2.2.1 (C := RX6) (T := TX6) (N := 30) (ci := 6) (k := 55) (i := 6) (fs := [.int 0, .int 0, .int 0, .ref (X.E.1 + 56), .ref (X.E.1 + 57), .int 0, .null, .null, .int 0, .null, .null, .null, .int 0, .null, .int 0, .int 0, .int 0, .int 0, .int 0, .int 0, .int 0, .null, .int 0, .null, .int 0, .null, .null, .int 0, .int 0, .null]) (ty := .array .int) tyX6 tyX6_ok nmX6 rfl inX6 (by decide) rfl rfl (by decide +kernel) rfl rfl wd_577 (by decide) ((cset_n _ _ (by decide)).trans (cset_s _ _ _)) (Nat.le_of_ble_eq_true rfl) dX6_init_27 rfl ?_
  refine jn_aload_n F dX6_init_30 rfl rfl ?_
  refine jn_iconst (v := nI 2) F dX6_init_31 rfl (by decide) ?_
  refine jn_newa (atype := .boolean) F 2 (by decide) rfl (F.1.2.2.2.2 _ wd_232) (N := 2) (by decide) (by decide) (by decide) (by omega) (by omega) dX6_init_32 rfl ?_
  refine jn_putF F hRt.2.2.1 (C := RX6) (T := TX6) (N := 30) (ci := 6) (k := 55) (i := 7) (fs := [.int 0, .int 0, .int 0, .ref (X.E.1 + 56), .ref (X.E.1 + 57), .int 0, .ref (X.E.1 + 58), .null, .int 0, .null, .null, .null, .int 0, .null, .int 0, .int 0, .int 0, .int 0, .int 0, .int 0, .int 0, .null, .int 0, .null, .int 0, .null, .null, .int 0, .int 0, .null]) (ty := .array .boolean) tyX6 tyX6_ok nmX6 rfl inX6 (by decide) rfl rfl (by decide +kernel) rfl rfl wd_578 (by decide) ((cset_n _ _ (by decide)).trans (cset_s _ _ _)) (Nat.le_of_ble_eq_true rfl) dX6_init_34 rfl ?_
  refine jn_aload_n F dX6_init_37 rfl rfl ?_
  refine jn_bipush (v := nI 6) F dX6_init_38 rfl (by decide) ?_
  refine jn_newa (atype := .int) F 0 (by decide) rfl (F.1.2.2.2.2 _ wd_102) (N := 6) (by decide) (by decide) (by decide) (by omega) (by omega) dX6_init_40 rfl ?_
  refine jn_putF F hRt.2.2.1 (C := RX6) (T := TX6) (N := 30) (ci := 6) (k := 55) (i := 9) (fs := [.int 0, .int 0, .int 0, .ref (X.E.1 + 56), .ref (X.E.1 + 57), .int 0, .ref (X.E.1 + 58), .ref (X.E.1 + 59), .int 0, .null, .null, .null, .int 0, .null, .int 0, .int 0, .int 0, .int 0, .int 0, .int 0, .int 0, .null, .int 0, .null, .int 0, .null, .null, .int 0, .int 0, .null]) (ty := .array .int) tyX6 tyX6_ok nmX6 rfl inX6 (by decide) rfl rfl (by decide +kernel) rfl rfl wd_580 (by decide) ((cset_n _ _ (by decide)).trans (cset_s _ _ _)) (Nat.le_of_ble_eq_true rfl) dX6_init_42 rfl ?_
  refine jn_aload_n F dX6_init_45 rfl rfl ?_
  refine jn_bipush (v := nI 6) F dX6_init_46 rfl (by decide) ?_
  refine jn_newa (atype := .int) F 0 (by decide) rfl (F.1.2.2.2.2 _ wd_102) (N := 6) (by decide) (by decide) (by decide) (by omega) (by omega) dX6_init_48 rfl ?_
  refine jn_putF F hRt.2.2.1 (C := RX6) (T := TX6) (N := 30) (ci := 6) (k := 55) (i := 10) (fs := [.int 0, .int 0, .int 0, .ref (X.E.1 + 56), .ref (X.E.1 + 57), .int 0, .ref (X.E.1 + 58), .ref (X.E.1 + 59), .int 0, .ref (X.E.1 + 60), .null, .null, .int 0, .null, .int 0, .int 0, .int 0, .int 0, .int 0, .int 0, .int 0, .null, .int 0, .null, .int 0, .null, .null, .int 0, .int 0, .null]) (ty := .array .int) tyX6 tyX6_ok nmX6 rfl inX6 (by decide) rfl rfl (by decide +kernel) rfl rfl wd_581 (by decide) ((cset_n _ _ (by decide)).trans (cset_s _ _ _)) (Nat.le_of_ble_eq_true rfl) dX6_init_50 rfl ?_
  refine jn_aload_n F dX6_init_53 rfl rfl ?_
  refine jn_bipush (v := nI 6) F dX6_init_54 rfl (by decide) ?_
  refine jn_newa (atype := .int) F 0 (by decide) rfl (F.1.2.2.2.2 _ wd_102) (N := 6) (by decide) (by decide) (by decide) (by omega) (by omega) dX6_init_56 rfl ?_
  refine jn_putF F hRt.2.2.1 (C := RX6) (T := TX6) (N := 30) (ci := 6) (k := 55) (i := 11) (fs := [.int 0, .int 0, .int 0, .ref (X.E.1 + 56), .ref (X.E.1 + 57), .int 0, .ref (X.E.1 + 58), .ref (X.E.1 + 59), .int 0, .ref (X.E.1 + 60), .ref (X.E.1 + 61), .null, .int 0, .null, .int 0, .int 0, .int 0, .int 0, .int 0, .int 0, .int 0, .null, .int 0, .null, .int 0, .null, .null, .int 0, .int 0, .null]) (ty := .array .int) tyX6 tyX6_ok nmX6 rfl inX6 (by decide) rfl rfl (by decide +kernel) rfl rfl wd_582 (by decide) ((cset_n _ _ (by decide)).trans (cset_s _ _ _)) (Nat.le_of_ble_eq_true rfl) dX6_init_58 rfl ?_
  refine jn_aload_n F dX6_init_61 rfl rfl ?_
  refine jn_bipush (v := nI 120) F dX6_init_62 rfl (by decide) ?_
  refine jn_newa (atype := .int) F 0 (by decide) rfl (F.1.2.2.2.2 _ wd_102) (N := 120) (by decide) (by decide) (by decide) (by omega) (by omega) dX6_init_64 rfl ?_
  refine jn_putF F hRt.2.2.1 (C := RX6) (T := TX6) (N := 30) (ci := 6) (k := 55) (i := 13) (fs := [.int 0, .int 0, .int 0, .ref (X.E.1 + 56), .ref (X.E.1 + 57), .int 0, .ref (X.E.1 + 58), .ref (X.E.1 + 59), .int 0, .ref (X.E.1 + 60), .ref (X.E.1 + 61), .ref (X.E.1 + 62), .int 0, .null, .int 0, .int 0, .int 0, .int 0, .int 0, .int 0, .int 0, .null, .int 0, .null, .int 0, .null, .null, .int 0, .int 0, .null]) (ty := .array .int) tyX6 tyX6_ok nmX6 rfl inX6 (by decide) rfl rfl (by decide +kernel) rfl rfl wd_584 (by decide) ((cset_n _ _ (by decide)).trans (cset_s _ _ _)) (Nat.le_of_ble_eq_true rfl) dX6_init_66 rfl ?_
  refine jn_aload_n F dX6_init_69 rfl rfl ?_
  refine jn_bipush (v := nI 56) F dX6_init_70 rfl (by decide) ?_
  refine jn_newa (atype := .int) F 0 (by decide) rfl (F.1.2.2.2.2 _ wd_102) (N := 56) (by decide) (by decide) (by decide) (by omega) (by omega) dX6_init_72 rfl ?_
  refine jn_putF F hRt.2.2.1 (C := RX6) (T := TX6) (N := 30) (ci := 6) (k := 55) (i := 21) (fs := [.int 0, .int 0, .int 0, .ref (X.E.1 + 56), .ref (X.E.1 + 57), .int 0, .ref (X.E.1 + 58), .ref (X.E.1 + 59), .int 0, .ref (X.E.1 + 60), .ref (X.E.1 + 61), .ref (X.E.1 + 62), .int 0, .ref (X.E.1 + 63), .int 0, .int 0, .int 0, .int 0, .int 0, .int 0, .int 0, .null, .int 0, .null, .int 0, .null, .null, .int 0, .int 0, .null]) (ty := .array .int) tyX6 tyX6_ok nmX6 rfl inX6 (by decide) rfl rfl (by decide +kernel) rfl rfl wd_592 (by decide) ((cset_n _ _ (by decide)).trans (cset_s _ _ _)) (Nat.le_of_ble_eq_true rfl) dX6_init_74 rfl ?_
  refine jn_aload_n F dX6_init_77 rfl rfl ?_
  refine jn_bipush (v := nI 16) F dX6_init_78 rfl (by decide) ?_
  refine jn_newa (atype := .int) F 0 (by decide) rfl (F.1.2.2.2.2 _ wd_102) (N := 16) (by decide) (by decide) (by decide) (by omega) (by omega) dX6_init_80 rfl ?_
  refine jn_putF F hRt.2.2.1 (C := RX6) (T := TX6) (N := 30) (ci := 6) (k := 55) (i := 23) (fs := [.int 0, .int 0, .int 0, .ref (X.E.1 + 56), .ref (X.E.1 + 57), .int 0, .ref (X.E.1 + 58), .ref (X.E.1 + 59), .int 0, .ref (X.E.1 + 60), .ref (X.E.1 + 61), .ref (X.E.1 + 62), .int 0, .ref (X.E.1 + 63), .int 0, .int 0, .int 0, .int 0, .int 0, .int 0, .int 0, .ref (X.E.1 + 64), .int 0, .null, .int 0, .null, .null, .int 0, .int 0, .null]) (ty := .array .int) tyX6 tyX6_ok nmX6 rfl inX6 (by decide) rfl rfl (by decide +kernel) rfl rfl wd_594 (by decide) ((cset_n _ _ (by decide)).trans (cset_s _ _ _)) (Nat.le_of_ble_eq_true rfl) dX6_init_82 rfl ?_
  refine jn_aload_n F dX6_init_85 rfl rfl ?_
  refine jn_sipush (v := nI 128) F dX6_init_86 rfl (by decide) ?_
  refine jn_newa (atype := .int) F 0 (by decide) rfl (F.1.2.2.2.2 _ wd_102) (N := 128) (by decide) (by decide) (by decide) (by omega) (by omega) dX6_init_89 rfl ?_
  refine jn_putF F hRt.2.2.1 (C := RX6) (T := TX6) (N := 30) (ci := 6) (k := 55) (i := 25) (fs := [.int 0, .int 0, .int 0, .ref (X.E.1 + 56), .ref (X.E.1 + 57), .int 0, .ref (X.E.1 + 58), .ref (X.E.1 + 59), .int 0, .ref (X.E.1 + 60), .ref (X.E.1 + 61), .ref (X.E.1 + 62), .int 0, .ref (X.E.1 + 63), .int 0, .int 0, .int 0, .int 0, .int 0, .int 0, .int 0, .ref (X.E.1 + 64), .int 0, .ref (X.E.1 + 65), .int 0, .null, .null, .int 0, .int 0, .null]) (ty := .array .int) tyX6 tyX6_ok nmX6 rfl inX6 (by decide) rfl rfl (by decide +kernel) rfl rfl wd_596 (by decide) ((cset_n _ _ (by decide)).trans (cset_s _ _ _)) (Nat.le_of_ble_eq_true rfl) dX6_init_91 rfl ?_
  refine jn_aload_n F dX6_init_94 rfl rfl ?_
  refine jn_sipush (v := nI 128) F dX6_init_95 rfl (by decide) ?_
  refine jn_newa (atype := .int) F 0 (by decide) rfl (F.1.2.2.2.2 _ wd_102) (N := 128) (by decide) (by decide) (by decide) (by omega) (by omega) dX6_init_98 rfl ?_
  refine jn_putF F hRt.2.2.1 (C := RX6) (T := TX6) (N := 30) (ci := 6) (k := 55) (i := 26) (fs := [.int 0, .int 0, .int 0, .ref (X.E.1 + 56), .ref (X.E.1 + 57), .int 0, .ref (X.E.1 + 58), .ref (X.E.1 + 59), .int 0, .ref (X.E.1 + 60), .ref (X.E.1 + 61), .ref (X.E.1 + 62), .int 0, .ref (X.E.1 + 63), .int 0, .int 0, .int 0, .int 0, .int 0, .int 0, .int 0, .ref (X.E.1 + 64), .int 0, .ref (X.E.1 + 65), .int 0, .ref (X.E.1 + 66), .null, .int 0, .int 0, .null]) (ty := .array .int) tyX6 tyX6_ok nmX6 rfl inX6 (by decide) rfl rfl (by decide +kernel) rfl rfl wd_597 (by decide) ((cset_n _ _ (by decide)).trans (cset_s _ _ _)) (Nat.le_of_ble_eq_true rfl) dX6_init_100 rfl ?_
  refine jn_aload_n F dX6_init_103 rfl rfl ?_
  refine jn_bipush (v := nI 81) F dX6_init_104 rfl (by decide) ?_
  refine jn_newa (atype := .int) F 0 (by decide) rfl (F.1.2.2.2.2 _ wd_102) (N := 81) (by decide) (by decide) (by decide) (by omega) (by omega) dX6_init_106 rfl ?_
  refine jn_putF F hRt.2.2.1 (C := RX6) (T := TX6) (N := 30) (ci := 6) (k := 55) (i := 29) (fs := [.int 0, .int 0, .int 0, .ref (X.E.1 + 56), .ref (X.E.1 + 57), .int 0, .ref (X.E.1 + 58), .ref (X.E.1 + 59), .int 0, .ref (X.E.1 + 60), .ref (X.E.1 + 61), .ref (X.E.1 + 62), .int 0, .ref (X.E.1 + 63), .int 0, .int 0, .int 0, .int 0, .int 0, .int 0, .int 0, .ref (X.E.1 + 64), .int 0, .ref (X.E.1 + 65), .int 0, .ref (X.E.1 + 66), .ref (X.E.1 + 67), .int 0, .int 0, .null]) (ty := .array .int) tyX6 tyX6_ok nmX6 rfl inX6 (by decide) rfl rfl (by decide +kernel) rfl rfl wd_600 (by decide) ((cset_n _ _ (by decide)).trans (cset_s _ _ _)) (Nat.le_of_ble_eq_true rfl) dX6_init_108 rfl ?_
  refine jn_jl (σ := sg6 σ) (fun H a => hXn ▸ rep_of (n := 69) (ct := mdC X.E ct) a (mdC_ok h)) ?_
  have z55 : ∀ i, sg6 σ 55 i = nI 0 := fun i => rfl
  have hT : MTx (sg6 σ) (fun _ => 0) 0 := ⟨rfl, Nat.zero_le _, fun i hi => absurd hi (Nat.not_lt_zero i)⟩
  refine jl_aload_n F dX6_init_111 rfl rfl ?_
  refine jl_callV F (C := RX6) (ci := 6) (T := TX6) (N := 30) (k := 55) (As := []) (rest := []) (c_X6_begins (by omega)) wd_562 wd_50 wd_559 wd_561 wd_12 (by decide +kernel) (by decide) rfl (by decide) (by omega) rfl rfl rfl (by decide) ⟨by omega, by omega⟩ dX6_init_112 rfl (fun v1c σ1c q1c => ?_)
  obtain ⟨rfl, rfl⟩ := q1c
  refine jl_aload_n F dX6_init_115 rfl rfl ?_
  refine jl_callV F (C := RX6) (ci := 6) (T := TX6) (N := 30) (k := 55) (As := []) (rest := []) (c_X6_becomes (by omega) (MTx_up (MTx_up (MTx_up (MTx_up hT (by decide)) (by decide)) (by decide)) (by decide)) (by simp [up, upR, upd]; exact z55 0) (P := P0 6 6) (RdM_P0 (by simp [up, upR, upd]) (by simp [up, upR, upd]) (by simp [up, upR, upd]) (by simp [up, upR, upd])) (PG_P0 (by decide) (by decide) (by decide) (by decide))) wd_566 wd_50 wd_563 wd_565 wd_13 (by decide +kernel) (by decide) rfl (by decide) (by omega) rfl rfl rfl (by decide) ⟨by omega, by omega⟩ dX6_init_116 rfl (fun v2c σ2c q2c => ?_)
  obtain ⟨rfl, hMr, hFm⟩ := q2c
  exact jl_vret F hRt rfl rfl ⟨rfl, hMr, fun a ha => (hFm a ha).trans (by simp only [up, upR_n _ _ (show a ≠ 55 by omega)]; exact if_pos ha)⟩ dX6_init_119
