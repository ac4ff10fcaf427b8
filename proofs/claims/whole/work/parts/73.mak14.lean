set_option maxRecDepth 10000 in
set_option maxHeartbeats 2000000 in
theorem c_X5_init {l : Launch} {E : Ev} {ct : Cn} (hct : ct 0 = .inr (5, [.null, .null, .null, .null, .null, .null, .null, .null, .null, .int 0])) : CtS l yX5_init cX5_init 2 3 54 1654 1 E [.ref (E.1 + 0)] ct 55 (fun v' σ' => v' = none ∧ CR σ' A0) := by
  refine CtS.of (lv0 := [some (.ref (E.1 + 0)), none]) (by decide) rfl (Nat.le_of_ble_eq_true rfl) rfl ?_
  intro X hXn hXE hXl hXL F hRt hN
  subst hXE hXl
  have hC : X.R.cells = 54 := hRt.2.2.2.1
  have hS : X.R.slots = 1654 := hRt.2.2.2.2.1
  have hL : ∀ i, i < 2 → i < X.nL := fun i h => by rw [hXL]; exact h
  refine jn_aload_n F dX5_init_0 rfl rfl ?_
  refine jn_obj F wd_59 wd_60 wd_61 (by decide) dX5_init_1 rfl ?_
  refine jn_aload_n F dX5_init_4 rfl rfl ?_
  refine jn_new F (C := RX2) (T := TX2) (N := 6) (ci := 2) (fs := plV) tyX2 tyX2_ok rfl inX2 (F.1.2.2.2.2 _ wd_62) (F.1.2.2.2.2 _ wd_63) (F.1.2.2.2.2 _ wd_45) plV_ok (by omega) (by omega) dX5_init_5 rfl ?_
  refine jn_dup F dX5_init_8 rfl rfl ?_
  refine jn_callIN F (c_X2_init (k := 1) (n := 2) (by decide) (cset_s _ _ _)) wd_66 wd_45 hN.2.1 wd_65 rfl (by decide) (by decide) (by decide) (Nat.le_of_ble_eq_true rfl) ⟨by omega, by omega⟩ dX5_init_9 rfl ?_
  refine jn_putF F hRt.2.2.1 (C := RX5) (T := TX5) (N := 10) (ci := 5) (k := 0) (i := 0) (fs := [.null, .null, .null, .null, .null, .null, .null, .null, .null, .int 0]) (ty := .object "LampPlans$Plan") tyX5 tyX5_ok nmX5 rfl inX5 (by decide) rfl rfl (by decide +kernel) rfl rfl wd_201 (by decide) (show _ = _ from hct) (Nat.le_of_ble_eq_true rfl) dX5_init_12 rfl ?_
  refine jn_aload_n F dX5_init_15 rfl rfl ?_
  refine jn_new F (C := RX2) (T := TX2) (N := 6) (ci := 2) (fs := plV) tyX2 tyX2_ok rfl inX2 (F.1.2.2.2.2 _ wd_62) (F.1.2.2.2.2 _ wd_63) (F.1.2.2.2.2 _ wd_45) plV_ok (by omega) (by omega) dX5_init_16 rfl ?_
  refine jn_dup F dX5_init_19 rfl rfl ?_
  refine jn_callIN F (c_X2_init (k := 4) (n := 5) (by decide) (cset_s _ _ _)) wd_66 wd_45 hN.2.1 wd_65 rfl (by decide) (by decide) (by decide) (Nat.le_of_ble_eq_true rfl) ⟨by omega, by omega⟩ dX5_init_20 rfl ?_
  refine jn_putF F hRt.2.2.1 (C := RX5) (T := TX5) (N := 10) (ci := 5) (k := 0) (i := 1) (fs := [.ref (X.E.1 + 1), .null, .null, .null, .null, .null, .null, .null, .null, .int 0]) (ty := .object "LampPlans$Plan") tyX5 tyX5_ok nmX5 rfl inX5 (by decide) rfl rfl (by decide +kernel) rfl rfl wd_202 (by decide) rfl (Nat.le_of_ble_eq_true rfl) dX5_init_23 rfl ?_
  refine jn_aload_n F dX5_init_26 rfl rfl ?_
  refine jn_new F (C := RX4) (T := TX4) (N := 6) (ci := 4) (fs := [.null, .int 0, .int 0, .int 0, .int 0, .int 0]) tyX4 tyX4_ok rfl inX4 (F.1.2.2.2.2 _ wd_103) (F.1.2.2.2.2 _ wd_104) (F.1.2.2.2.2 _ wd_46) okV4 (by omega) (by omega) dX5_init_27 rfl ?_
  refine jn_dup F dX5_init_30 rfl rfl ?_
  refine jn_callIN F (c_X4_init (k := 7) (n := 8) (by decide) (cset_s _ _ _)) wd_107 wd_46 hN.2.2.1 wd_106 rfl (by decide) (by decide) (by decide) (Nat.le_of_ble_eq_true rfl) ⟨by omega, by omega⟩ dX5_init_31 rfl ?_
  refine jn_putF F hRt.2.2.1 (C := RX5) (T := TX5) (N := 10) (ci := 5) (k := 0) (i := 2) (fs := [.ref (X.E.1 + 1), .ref (X.E.1 + 4), .null, .null, .null, .null, .null, .null, .null, .int 0]) (ty := .object "LampPlans$Text") tyX5 tyX5_ok nmX5 rfl inX5 (by decide) rfl rfl (by decide +kernel) rfl rfl wd_203 (by decide) rfl (Nat.le_of_ble_eq_true rfl) dX5_init_34 rfl ?_
  refine jn_aload_n F dX5_init_37 rfl rfl ?_
  refine jn_new F (C := RX1) (T := TX1) (N := 3) (ci := 1) (fs := [.null, .int 0, .int 0]) tyX1 tyX1_ok rfl inX1 (F.1.2.2.2.2 _ wd_130) (F.1.2.2.2.2 _ wd_131) (F.1.2.2.2.2 _ wd_47) okV1 (by omega) (by omega) dX5_init_38 rfl ?_
  refine jn_dup F dX5_init_41 rfl rfl ?_
  refine jn_callG F hN (c_X1_init (k := 9) (n := 10) (by decide) (cset_s _ _ _)) wd_134 wd_47 wd_132 wd_133 rfl (by decide) (by decide) (by decide) (Nat.le_of_ble_eq_true rfl) ⟨by omega, by omega⟩ dX5_init_42 rfl ?_
  refine jn_putF F hRt.2.2.1 (C := RX5) (T := TX5) (N := 10) (ci := 5) (k := 0) (i := 3) (fs := [.ref (X.E.1 + 1), .ref (X.E.1 + 4), .ref (X.E.1 + 7), .null, .null, .null, .null, .null, .null, .int 0]) (ty := .object "LampPlans$Past") tyX5 tyX5_ok nmX5 rfl inX5 (by decide) rfl rfl (by decide +kernel) rfl rfl wd_204 (by decide) rfl (Nat.le_of_ble_eq_true rfl) dX5_init_45 rfl ?_
  refine jn_aload_n F dX5_init_48 rfl rfl ?_
  refine jn_new F (C := RX0) (T := TX0) (N := 1) (ci := 0) (fs := [.null]) tyX0 tyX0_ok rfl inX0 (F.1.2.2.2.2 _ wd_150) (F.1.2.2.2.2 _ wd_151) (F.1.2.2.2.2 _ wd_48) okV0 (by omega) (by omega) dX5_init_49 rfl ?_
  refine jn_dup F dX5_init_52 rfl rfl ?_
  refine jn_callIN F (c_X0_init (k := 41) (n := 42) (by decide) (cset_s _ _ _)) wd_154 wd_48 hN.2.2.2.2.1 wd_153 rfl (by decide) (by decide) (by decide) (Nat.le_of_ble_eq_true rfl) ⟨by omega, by omega⟩ dX5_init_53 rfl ?_
  refine jn_putF F hRt.2.2.1 (C := RX5) (T := TX5) (N := 10) (ci := 5) (k := 0) (i := 4) (fs := [.ref (X.E.1 + 1), .ref (X.E.1 + 4), .ref (X.E.1 + 7), .ref (X.E.1 + 9), .null, .null, .null, .null, .null, .int 0]) (ty := .object "LampPlans$Light") tyX5 tyX5_ok nmX5 rfl inX5 (by decide) rfl rfl (by decide +kernel) rfl rfl wd_205 (by decide) rfl (Nat.le_of_ble_eq_true rfl) dX5_init_56 rfl ?_
  refine jn_aload_n F dX5_init_59 rfl rfl ?_
  refine jn_new F (C := RX3) (T := TX3) (N := 7) (ci := 3) (fs := [.null, .null, .int 0, .int 0, .int 0, .int 0, .int 0]) tyX3 tyX3_ok rfl inX3 (F.1.2.2.2.2 _ wd_160) (F.1.2.2.2.2 _ wd_161) (F.1.2.2.2.2 _ wd_49) okV3 (by omega) (by omega) dX5_init_60 rfl ?_
  refine jn_dup F dX5_init_63 rfl rfl ?_
  refine jn_callIN F (c_X3_init (k := 43) (n := 44) (by decide) (cset_s _ _ _)) wd_164 wd_49 hN.2.2.2.2.2 wd_163 rfl (by decide) (by decide) (by decide) (Nat.le_of_ble_eq_true rfl) ⟨by omega, by omega⟩ dX5_init_64 rfl ?_
  refine jn_putF F hRt.2.2.1 (C := RX5) (T := TX5) (N := 10) (ci := 5) (k := 0) (i := 5) (fs := [.ref (X.E.1 + 1), .ref (X.E.1 + 4), .ref (X.E.1 + 7), .ref (X.E.1 + 9), .ref (X.E.1 + 41), .null, .null, .null, .null, .int 0]) (ty := .object "LampPlans$Ray") tyX5 tyX5_ok nmX5 rfl inX5 (by decide) rfl rfl (by decide +kernel) rfl rfl wd_206 (by decide) rfl (Nat.le_of_ble_eq_true rfl) dX5_init_67 rfl ?_
  refine jn_aload_n F dX5_init_70 rfl rfl ?_
  refine jn_iconst (v := nI 2) F dX5_init_71 rfl (by decide) ?_
  refine jn_anew F wd_62 (va_AO.use hN.1) (N := 2) (by decide) (by decide) (by decide) (by omega) (by omega) dX5_init_72 rfl ?_
  refine jn_putF F hRt.2.2.1 (C := RX5) (T := TX5) (N := 10) (ci := 5) (k := 0) (i := 6) (fs := [.ref (X.E.1 + 1), .ref (X.E.1 + 4), .ref (X.E.1 + 7), .ref (X.E.1 + 9), .ref (X.E.1 + 41), .ref (X.E.1 + 43), .null, .null, .null, .int 0]) (ty := .array (.object "LampPlans$Plan")) tyX5 tyX5_ok nmX5 rfl inX5 (by decide) rfl rfl (by decide +kernel) rfl rfl wd_207 (by decide) rfl (Nat.le_of_ble_eq_true rfl) dX5_init_75 rfl ?_
  refine jn_aload_n F dX5_init_78 rfl rfl ?_
  refine jn_iconst (v := nI 2) F dX5_init_79 rfl (by decide) ?_
  refine jn_newa (atype := .boolean) F 2 (by decide) rfl (F.1.2.2.2.2 _ wd_232) (N := 2) (by decide) (by decide) (by decide) (by omega) (by omega) dX5_init_80 rfl ?_
  refine jn_putF F hRt.2.2.1 (C := RX5) (T := TX5) (N := 10) (ci := 5) (k := 0) (i := 7) (fs := [.ref (X.E.1 + 1), .ref (X.E.1 + 4), .ref (X.E.1 + 7), .ref (X.E.1 + 9), .ref (X.E.1 + 41), .ref (X.E.1 + 43), .ref (X.E.1 + 46), .null, .null, .int 0]) (ty := .array .boolean) tyX5 tyX5_ok nmX5 rfl inX5 (by decide) rfl rfl (by decide +kernel) rfl rfl wd_208 (by decide) rfl (Nat.le_of_ble_eq_true rfl) dX5_init_82 rfl ?_
  refine jn_aload_n F dX5_init_85 rfl rfl ?_
  refine jn_bipush (v := nI 18) F dX5_init_86 rfl (by decide) ?_
  refine jn_newa (atype := .int) F 0 (by decide) rfl (F.1.2.2.2.2 _ wd_102) (N := 18) (by decide) (by decide) (by decide) (by omega) (by omega) dX5_init_88 rfl ?_
  refine jn_putF F hRt.2.2.1 (C := RX5) (T := TX5) (N := 10) (ci := 5) (k := 0) (i := 8) (fs := [.ref (X.E.1 + 1), .ref (X.E.1 + 4), .ref (X.E.1 + 7), .ref (X.E.1 + 9), .ref (X.E.1 + 41), .ref (X.E.1 + 43), .ref (X.E.1 + 46), .ref (X.E.1 + 47), .null, .int 0]) (ty := .array .int) tyX5 tyX5_ok nmX5 rfl inX5 (by decide) rfl rfl (by decide +kernel) rfl rfl wd_209 (by decide) rfl (Nat.le_of_ble_eq_true rfl) dX5_init_90 rfl ?_
  refine jn_iconst (v := nI 0) F dX5_init_93 rfl (by decide) ?_
  refine jn_istore_n (lv' := [some (.ref (X.E.1 + 0)), some (.int (nI 0))]) F dX5_init_94 rfl (hL _ (by decide)) rfl rfl ?_
  refine jn_iload_n F dX5_init_95 rfl rfl ?_
  refine jn_iconst (v := nI 2) F dX5_init_96 rfl (by decide) ?_
  refine jn_icmp_ge F (tgt := 119) dX5_init_97 (by decide) rfl (fun cge => absurd cge (by decide)) (fun clt => ?_)
  refine jn_aload_n F dX5_init_100 rfl rfl ?_
  refine jn_getV F (C := RX5) (T := TX5) (N := 10) (ci := 5) (i := 6) (fs := [.ref (X.E.1 + 1), .ref (X.E.1 + 4), .ref (X.E.1 + 7), .ref (X.E.1 + 9), .ref (X.E.1 + 41), .ref (X.E.1 + 43), .ref (X.E.1 + 46), .ref (X.E.1 + 47), .ref (X.E.1 + 48), .int 0]) (v := .ref (X.E.1 + 46)) rfl inX5 (by decide) wd_207 (by decide) rfl rfl dX5_init_101 rfl ?_
  refine jn_iload_n F dX5_init_104 rfl rfl ?_
  refine jn_new F (C := RX2) (T := TX2) (N := 6) (ci := 2) (fs := plV) tyX2 tyX2_ok rfl inX2 (F.1.2.2.2.2 _ wd_62) (F.1.2.2.2.2 _ wd_63) (F.1.2.2.2.2 _ wd_45) plV_ok (by omega) (by omega) dX5_init_105 rfl ?_
  refine jn_dup F dX5_init_108 rfl rfl ?_
  refine jn_callIN F (c_X2_init (k := 49) (n := 50) (by decide) (cset_s _ _ _)) wd_66 wd_45 hN.2.1 wd_65 rfl (by decide) (by decide) (by decide) (Nat.le_of_ble_eq_true rfl) ⟨by omega, by omega⟩ dX5_init_109 rfl ?_
  refine jn_aast F (j := 46) (w := 49) (N := 2) (i := 0) (f := (fun _ => none)) (T := TX2) (by decide) rfl (by decide) (mkPl_k _ _ _ _) rfl (by decide) (by decide) dX5_init_112 rfl ?_
  refine jn_iinc (v := nI 1) (lv' := [some (.ref (X.E.1 + 0)), some (.int (nI 1))]) F dX5_init_113 rfl rfl (by decide) (hL _ (by decide)) rfl rfl ?_
  refine jn_goto (pc' := 95) F dX5_init_116 (by decide) ?_
  refine jn_iload_n F dX5_init_95 rfl rfl ?_
  refine jn_iconst (v := nI 2) F dX5_init_96 rfl (by decide) ?_
  refine jn_icmp_ge F (tgt := 119) dX5_init_97 (by decide) rfl (fun cge => absurd cge (by decide)) (fun clt => ?_)
  refine jn_aload_n F dX5_init_100 rfl rfl ?_
  refine jn_getV F (C := RX5) (T := TX5) (N := 10) (ci := 5) (i := 6) (fs := [.ref (X.E.1 + 1), .ref (X.E.1 + 4), .ref (X.E.1 + 7), .ref (X.E.1 + 9), .ref (X.E.1 + 41), .ref (X.E.1 + 43), .ref (X.E.1 + 46), .ref (X.E.1 + 47), .ref (X.E.1 + 48), .int 0]) (v := .ref (X.E.1 + 46)) rfl inX5 (by decide) wd_207 (by decide) rfl rfl dX5_init_101 rfl ?_
  refine jn_iload_n F dX5_init_104 rfl rfl ?_
  refine jn_new F (C := RX2) (T := TX2) (N := 6) (ci := 2) (fs := plV) tyX2 tyX2_ok rfl inX2 (F.1.2.2.2.2 _ wd_62) (F.1.2.2.2.2 _ wd_63) (F.1.2.2.2.2 _ wd_45) plV_ok (by omega) (by omega) dX5_init_105 rfl ?_
  refine jn_dup F dX5_init_108 rfl rfl ?_
  refine jn_callIN F (c_X2_init (k := 52) (n := 53) (by decide) (cset_s _ _ _)) wd_66 wd_45 hN.2.1 wd_65 rfl (by decide) (by decide) (by decide) (Nat.le_of_ble_eq_true rfl) ⟨by omega, by omega⟩ dX5_init_109 rfl ?_
  refine jn_aast F (j := 46) (w := 52) (N := 2) (i := 1) (f := (va_up (fun _ => none) 0 (some (X.E.1 + 49)))) (T := TX2) (by decide) rfl (by decide) (mkPl_k _ _ _ _) rfl (by decide) (by decide) dX5_init_112 rfl ?_
  refine jn_iinc (v := nI 2) (lv' := [some (.ref (X.E.1 + 0)), some (.int (nI 2))]) F dX5_init_113 rfl rfl (by decide) (hL _ (by decide)) rfl rfl ?_
  refine jn_goto (pc' := 95) F dX5_init_116 (by decide) ?_
  refine jn_iload_n F dX5_init_95 rfl rfl ?_
  refine jn_iconst (v := nI 2) F dX5_init_96 rfl (by decide) ?_
  refine jn_icmp_ge F (tgt := 119) dX5_init_97 (by decide) rfl (fun cge => ?_) (fun clt => absurd (by decide) clt)
  refine jn_jl (σ := fun _ _ => 0) (fun H a => hXn ▸ rep_of2 (n := 55) (ct := lpC X.E ct) a lpC_ok) ?_
  refine jl_aload_n F dX5_init_119 rfl rfl ?_
  refine jl_getR F (C := RX5) (T := TX5) (N := 10) (ci := 5) (i := 0) (k := 0) (r := 1) (ds := [some 1, some 4, some 7, some 9, some 41, some 43, some 46, some 47, some 48, none]) rfl inX5 (by decide) wd_201 (by omega) rfl rfl dX5_init_120 rfl ?_
  refine jl_bipush (v := nI 6) F dX5_init_123 rfl (by decide) ?_
  refine jl_bipush (v := nI 6) F dX5_init_125 rfl (by decide) ?_
  refine jl_callV F (C := RX2) (ci := 2) (T := TX2) (N := 6) (k := 1) (As := [.int (nI 6), .int (nI 6)]) (rest := []) (c_X2_begin (by omega) (isPl_1 (by omega)) 6 6) wd_196 wd_45 wd_193 wd_194 wd_195 (by decide +kernel) (by decide) rfl (by decide) (by omega) rfl rfl rfl (by decide) ⟨by omega, by omega⟩ dX5_init_127 rfl (fun v1c σ1c q1c => ?_)
  obtain ⟨rfl, hP1, hFr⟩ := q1c
  exact jl_vret F hRt rfl rfl ⟨rfl, CR_new hP1 hFr⟩ dX5_init_130
