theorem mkPl_n {E : Ev} {ct : Cn} {k m q : Nat} (h1 : q ≠ k) (h2 : q ≠ m) (h3 : q ≠ m + 1) : mkPl E ct k m q = ct q := by
  unfold mkPl
  rw [cset_n _ _ h1, cset_n _ _ h3, cset_n _ _ h1, cset_n _ _ h2]
theorem mkPl_k (E : Ev) (ct : Cn) (k m : Nat) : mkPl E ct k m k = .inr (2, [.int 0, .int 0, .int 0, .int 0, .ref (E.1 + m), .ref (E.1 + (m + 1))]) := cset_s _ _ _
theorem pastC_k {E : Ev} {ct : Cn} {k n : Nat} (hk : k < n) : ∀ i, pastC E ct k n i k = .inr (1, [.ref (E.1 + n), .int 0, .int 0])
  | 0 => cset_s _ _ _
  | i + 1 => by
    rw [pastC, cset_n _ _ (by omega), mkPl_n (by omega) (by omega) (by omega), cset_n _ _ (by omega)]
    exact pastC_k hk i
theorem ringF_0 (E : Ev) (n : Nat) : ringF E n 0 = fun _ => none := by
  funext q
  exact if_neg (Nat.not_lt_zero q)
theorem pastC_n {E : Ev} {ct : Cn} {k n : Nat} (hk : k < n) : ∀ i, pastC E ct k n i n = arQ E 10 (ringF E n i)
  | 0 => by
    rw [pastC, cset_n _ _ (by omega), cset_s, ringF_0]
  | i + 1 => by rw [pastC, cset_s]
theorem plV_ok : ∀ q, q < 6 → defaultValue (tyX2 q) = vp_V plV q := by
  intro q hq
  rcases (show q = 0 ∨ q = 1 ∨ q = 2 ∨ q = 3 ∨ q = 4 ∨ q = 5 by omega) with rfl | rfl | rfl | rfl | rfl | rfl <;> rfl
set_option maxRecDepth 10000 in
theorem c_X1_init {l : Launch} {n k : Nat} {E : Ev} {ct : Cn} (hk : k < n) (hct : ct k = .inr (1, [.null, .int 0, .int 0])) : CtG l yX1_init cX1_init 2 2 (1 + 3 * 10) (10 + 86 * 10) n E [.ref (E.1 + k)] ct (n + 1 + 3 * 10) (pastC E ct k n 10) := by
  refine CtG.of (lv0 := [some (.ref (E.1 + k)), none]) (by decide) rfl (Nat.le_of_ble_eq_true rfl) rfl ?_
  intro X hXE hXl hXL F hRt hN
  subst hXE hXl
  have hC : X.R.cells = 1 + 3 * 10 := hRt.2.2.2.1
  have hS : X.R.slots = 10 + 86 * 10 := hRt.2.2.2.2.1
  have hL : ∀ i, i < 2 → i < X.nL := fun i h => by rw [hXL]; exact h
  refine jn_aload_n F dX1_init_0 rfl rfl ?_
  refine jn_obj F wd_135 wd_60 wd_61 (by decide) dX1_init_1 rfl ?_
  refine jn_aload_n F dX1_init_4 rfl rfl ?_
  refine jn_bipush (v := nI 10) F dX1_init_5 rfl (by decide) ?_
  refine jn_anew F wd_136 (va_AO.use hN.1) (N := 10) (by decide) (by decide) (by decide) (by omega) (by omega) dX1_init_7 rfl ?_
  refine jn_putF F hRt.2.2.1 (C := RX1) (T := TX1) (N := 3) (ci := 1) (k := k) (i := 0) (fs := [.null, .int 0, .int 0]) (ty := .array (.object "LampPlans$Plan")) tyX1 tyX1_ok nmX1 rfl inX1 (by decide) rfl rfl (by decide +kernel) rfl rfl wd_139 (by omega) ((cset_n _ _ (by omega)).trans hct) (by decide) dX1_init_10 rfl ?_
  refine jn_iconst (v := nI 0) F dX1_init_13 rfl (by decide) ?_
  refine jn_istore_n (lv' := [some (.ref (X.E.1 + k)), some (.int (nI 0))]) F dX1_init_14 rfl (hL _ (by decide)) rfl rfl ?_
  have loop : ∀ (ii : Nat), ii ≤ 10 → JN X (1 + 3 * ii) (10 + 86 * ii) 15 [some (.ref (X.E.1 + k)), some (.int (nI ii))] [] (n + 1 + 3 * ii) (pastC X.E ct k n ii) := by
    refine dnL (fun ii hii ihz => ?_)
    refine jn_iload_n F dX1_init_15 rfl rfl ?_
    refine jn_bipush (v := nI 10) F dX1_init_16 rfl (by decide) ?_
    refine jn_icmp_ge F (tgt := 40) dX1_init_18 (by decide) rfl (fun cge => ?_) (fun clt => ?_)
    · have hge := (nI_leI (by decide) (by omega)).mp cge
      have hten : ii = 10 := by omega
      subst hten
      exact jn_vret F hRt rfl rfl dX1_init_40
    · have hlt : ii < 10 := by
        have : ¬ 10 ≤ ii := fun q => clt ((nI_leI (by decide) (by omega)).mpr q)
        omega
      refine jn_aload_n F dX1_init_21 rfl rfl ?_
      refine jn_getV F (C := RX1) (T := TX1) (N := 3) (ci := 1) (i := 0) (v := .ref (X.E.1 + n)) rfl inX1 (by decide) wd_139 (by omega) (pastC_k hk ii) rfl dX1_init_22 rfl ?_
      refine jn_iload_n F dX1_init_25 rfl rfl ?_
      refine jn_new F (C := RX2) (T := TX2) (N := 6) (ci := 2) (fs := plV) tyX2 tyX2_ok rfl inX2 (F.1.2.2.2.2 _ wd_136) (F.1.2.2.2.2 _ wd_63) (F.1.2.2.2.2 _ wd_45) plV_ok (by omega) (by omega) dX1_init_26 rfl ?_
      refine jn_dup F dX1_init_29 rfl rfl ?_
      refine jn_callIN F (c_X2_init (k := n + 1 + 3 * ii) (n := n + 1 + 3 * ii + 1) (by omega) (cset_s _ _ _)) wd_66 wd_45 hN.2.2.2.1 wd_65 rfl (by decide) (by decide) (by decide) (Nat.le_of_ble_eq_true rfl) ⟨by omega, by omega⟩ dX1_init_30 rfl ?_
      refine jn_aast F (N := 10) (i := ii) (f := ringF X.E n ii) (T := TX2) (by omega) ?_ (by omega) (mkPl_k _ _ _ _) rfl hlt (by decide) dX1_init_33 rfl ?_
      · rw [mkPl_n (by omega) (by omega) (by omega), cset_n _ _ (by omega)]
        exact pastC_n hk ii
      rw [ringF_s]
      refine jn_iinc (v := nI (ii + 1)) (lv' := [some (.ref (X.E.1 + k)), some (.int (nI (ii + 1)))]) F dX1_init_34 rfl rfl (nI_add ii 1) (hL _ (by decide)) rfl rfl ?_
      refine jn_goto (pc' := 15) F dX1_init_37 (by decide) ?_
      have z := ihz hlt
      rw [show 1 + 3 * (ii + 1) = 1 + 3 * ii + 1 + 2 by omega, show 10 + 86 * (ii + 1) = 10 + 86 * ii + 6 + 80 by omega, show n + 1 + 3 * (ii + 1) = n + 1 + 3 * ii + 1 + 2 by omega] at z
      exact z
  exact loop 0 (by decide)
