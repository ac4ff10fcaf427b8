theorem okV5 : ∀ q, q < 10 → defaultValue (tyX5 q) = vp_V [.null, .null, .null, .null, .null, .null, .null, .null, .null, .int 0] q := by
  intro q hq
  rcases (show q = 0 ∨ q = 1 ∨ q = 2 ∨ q = 3 ∨ q = 4 ∨ q = 5 ∨ q = 6 ∨ q = 7 ∨ q = 8 ∨ q = 9 by omega) with rfl | rfl | rfl | rfl | rfl | rfl | rfl | rfl | rfl | rfl <;> rfl
theorem okV6 : ∀ q, q < 30 → defaultValue (tyX6 q) = vp_V mdV q := by
  intro q hq
  rcases (show q = 0 ∨ q = 1 ∨ q = 2 ∨ q = 3 ∨ q = 4 ∨ q = 5 ∨ q = 6 ∨ q = 7 ∨ q = 8 ∨ q = 9 ∨ q = 10 ∨ q = 11 ∨ q = 12 ∨ q = 13 ∨ q = 14 ∨ q = 15 ∨ q = 16 ∨ q = 17 ∨ q = 18 ∨ q = 19 ∨ q = 20 ∨ q = 21 ∨ q = 22 ∨ q = 23 ∨ q = 24 ∨ q = 25 ∨ q = 26 ∨ q = 27 ∨ q = 28 ∨ q = 29 by omega) with rfl | rfl | rfl | rfl | rfl | rfl | rfl | rfl | rfl | rfl | rfl | rfl | rfl | rfl | rfl | rfl | rfl | rfl | rfl | rfl | rfl | rfl | rfl | rfl | rfl | rfl | rfl | rfl | rfl | rfl <;> rfl
theorem AI_A0 : AI A0 := ⟨(PG_P0 (by decide) (by decide) (by decide) (by decide)).1, fun Q h => (by cases h), fun i Q h => (by cases h), Nat.zero_le _, fun q h => (by cases h)⟩
theorem lw_more {L ii : Nat} (hL : L ≤ 2560) (hii : ii ≤ L) (h : ¬ nI L - nI 5 < nI ii) : ii + 5 ≤ L := by
  rw [show nI L - nI 5 = iI ((L : Int) - ((5 : Nat) : Int)) from (by rw [nI_iI L, nI_iI 5]; exact (Int32.ofInt_sub _ _).symm), nI_iI ii] at h
  have h2 := mt (iI_lt (bd_sub (bd_n (k := L) hL) (bd_n (k := 5) (Nat.le_refl 5))) (bd_n (k := ii) (Nat.le_trans hii hL)) (by decide) (by decide)).mpr h
  omega
theorem law_loop {X : Cx} {b L : Nat} {xs : Nat → Int32} (Z : LW X b L xs) (hL : L ≤ 2560) : ∀ (N ii : Nat) (σ : St) (A : Ab), ii ≤ L → L < ii + N → AI A → CR σ A → MR σ A → JL X 69 3309 18 (lvL X b ii) [] σ := by
  intro N
  induction N with
  | zero =>
    intro ii σ A h1 h2
    exact absurd h2 (by omega)
  | succ N ih =>
    intro ii σ A h1 h2 hA hC hR
    refine jl_iload_n Z.F dL_law_18 rfl rfl ?_
    refine jl_aload_n Z.F dL_law_19 rfl rfl ?_
    refine jl_slen Z dL_law_20 rfl ?_
    refine jl_iconst (v := nI 5) Z.F dL_law_21 rfl (by decide) ?_
    refine jl_isub Z.F dL_law_22 rfl ?_
    refine jl_icmp_gt Z.F (tgt := 907) dL_law_23 (by decide) rfl (fun _ => ?_) (fun clt => ?_)
    · refine jl_iconst (v := 1) Z.F dL_law_907 rfl (by decide) ?_
      exact jl_ret1 Z (by decide) (by decide) dL_law_908
    · have h5 : ii + 5 ≤ L := lw_more hL h1 clt
      have kont : ∀ (σz : St) (Az : Ab), AI Az → CR σz Az → MR σz Az → JL X 69 3309 901 (lvL X b ii) [] σz := fun σz Az g1 g2 g3 => by
        refine jl_iinc (v := nI (ii + 5)) (lv' := lvL X b (ii + 5)) Z.F dL_law_901 rfl rfl (nI_add ii 5) (by rw [Z.nL]; decide) rfl rfl ?_
        refine jl_goto (pc' := 18) Z.F dL_law_904 (by decide) ?_
        exact ih (ii + 5) σz Az h5 (by omega) g1 g2 g3
      refine jl_aload_n Z.F dL_law_26 rfl rfl ?_
      refine jl_iload_n Z.F dL_law_27 rfl rfl ?_
      refine jl_sld Z rfl (by omega) hL dL_law_28 rfl ?_
      refine jl_bipush (v := nI 31) Z.F dL_law_29 rfl (by decide) ?_
      refine jl_iand Z.F dL_law_31 rfl ?_
      generalize xs ii &&& nI 31 = sw
      by_cases hq0 : sw.toInt < 0 ∨ 28 < sw.toInt
      · exact jl_tabO Z.F (tgt := 901) dL_law_32 hq0 (by decide) (kont σ A hA hC hR)
      rcases (show sw.toInt = 0 ∨ sw.toInt = 1 ∨ sw.toInt = 2 ∨ sw.toInt = 3 ∨ sw.toInt = 4 ∨ sw.toInt = 5 ∨ sw.toInt = 6 ∨ sw.toInt = 7 ∨ sw.toInt = 8 ∨ sw.toInt = 9 ∨ sw.toInt = 10 ∨ sw.toInt = 11 ∨ sw.toInt = 12 ∨ sw.toInt = 13 ∨ sw.toInt = 14 ∨ sw.toInt = 15 ∨ sw.toInt = 16 ∨ sw.toInt = 17 ∨ sw.toInt = 18 ∨ sw.toInt = 19 ∨ sw.toInt = 20 ∨ sw.toInt = 21 ∨ sw.toInt = 22 ∨ sw.toInt = 23 ∨ sw.toInt = 24 ∨ sw.toInt = 25 ∨ sw.toInt = 26 ∨ sw.toInt = 27 ∨ sw.toInt = 28 by omega) with hq | hq | hq | hq | hq | hq | hq | hq | hq | hq | hq | hq | hq | hq | hq | hq | hq | hq | hq | hq | hq | hq | hq | hq | hq | hq | hq | hq | hq
      · exact jl_tabI Z.F (k := 0) (tgt := 164) dL_law_32 hq rfl (by decide) rfl (by decide) (lwc_0 Z hL h5 hA hC hR kont)
      · exact jl_tabI Z.F (k := 1) (tgt := 187) dL_law_32 hq rfl (by decide) rfl (by decide) (lwc_1 Z hL h5 hA hC hR kont)
      · exact jl_tabI Z.F (k := 2) (tgt := 200) dL_law_32 hq rfl (by decide) rfl (by decide) (lwc_2 Z hL h5 hA hC hR kont)
      · exact jl_tabI Z.F (k := 3) (tgt := 213) dL_law_32 hq rfl (by decide) rfl (by decide) (lwc_3 Z hL h5 hA hC hR kont)
      · exact jl_tabI Z.F (k := 4) (tgt := 246) dL_law_32 hq rfl (by decide) rfl (by decide) (lwc_4 Z hL h5 hA hC hR kont)
      · exact jl_tabI Z.F (k := 5) (tgt := 279) dL_law_32 hq rfl (by decide) rfl (by decide) (lwc_5 Z hL h5 hA hC hR kont)
      · exact jl_tabI Z.F (k := 6) (tgt := 312) dL_law_32 hq rfl (by decide) rfl (by decide) (lwc_6 Z hL h5 hA hC hR kont)
      · exact jl_tabI Z.F (k := 7) (tgt := 335) dL_law_32 hq rfl (by decide) rfl (by decide) (lwc_7 Z hL h5 hA hC hR kont)
      · exact jl_tabI Z.F (k := 8) (tgt := 358) dL_law_32 hq rfl (by decide) rfl (by decide) (lwc_8 Z hL h5 hA hC hR kont)
      · exact jl_tabI Z.F (k := 9) (tgt := 411) dL_law_32 hq rfl (by decide) rfl (by decide) (lwc_9 Z hL h5 hA hC hR kont)
      · exact jl_tabI Z.F (k := 10) (tgt := 434) dL_law_32 hq rfl (by decide) rfl (by decide) (lwc_10 Z hL h5 hA hC hR kont)
      · exact jl_tabI Z.F (k := 11) (tgt := 447) dL_law_32 hq rfl (by decide) rfl (by decide) (lwc_11 Z hL h5 hA hC hR kont)
      · exact jl_tabI Z.F (k := 12) (tgt := 490) dL_law_32 hq rfl (by decide) rfl (by decide) (lwc_12 Z hL h5 hA hC hR kont)
      · exact jl_tabI Z.F (k := 13) (tgt := 523) dL_law_32 hq rfl (by decide) rfl (by decide) (lwc_13 Z hL h5 hA hC hR kont)
      · exact jl_tabI Z.F (k := 14) (tgt := 546) dL_law_32 hq rfl (by decide) rfl (by decide) (lwc_14 Z hL h5 hA hC hR kont)
      · exact jl_tabI Z.F (k := 15) (tgt := 559) dL_law_32 hq rfl (by decide) rfl (by decide) (lwc_15 Z hL h5 hA hC hR kont)
      · exact jl_tabI Z.F (k := 16) (tgt := 582) dL_law_32 hq rfl (by decide) rfl (by decide) (lwc_16 Z hL h5 hA hC hR kont)
      · exact jl_tabI Z.F (k := 17) (tgt := 625) dL_law_32 hq rfl (by decide) rfl (by decide) (lwc_17 Z hL h5 hA hC hR kont)
      · exact jl_tabI Z.F (k := 18) (tgt := 668) dL_law_32 hq rfl (by decide) rfl (by decide) (lwc_18 Z hL h5 hA hC hR kont)
      · exact jl_tabI Z.F (k := 19) (tgt := 691) dL_law_32 hq rfl (by decide) rfl (by decide) (lwc_19 Z hL h5 hA hC hR kont)
      · exact jl_tabI Z.F (k := 20) (tgt := 704) dL_law_32 hq rfl (by decide) rfl (by decide) (lwc_20 Z hL h5 hA hC hR kont)
      · exact jl_tabI Z.F (k := 21) (tgt := 727) dL_law_32 hq rfl (by decide) rfl (by decide) (lwc_21 Z hL h5 hA hC hR kont)
      · exact jl_tabI Z.F (k := 22) (tgt := 750) dL_law_32 hq rfl (by decide) rfl (by decide) (lwc_22 Z hL h5 hA hC hR kont)
      · exact jl_tabI Z.F (k := 23) (tgt := 763) dL_law_32 hq rfl (by decide) rfl (by decide) (lwc_23 Z hL h5 hA hC hR kont)
      · exact jl_tabI Z.F (k := 24) (tgt := 806) dL_law_32 hq rfl (by decide) rfl (by decide) (lwc_24 Z hL h5 hA hC hR kont)
      · exact jl_tabI Z.F (k := 25) (tgt := 819) dL_law_32 hq rfl (by decide) rfl (by decide) (lwc_25 Z hL h5 hA hC hR kont)
      · exact jl_tabI Z.F (k := 26) (tgt := 832) dL_law_32 hq rfl (by decide) rfl (by decide) (lwc_26 Z hL h5 hA hC hR kont)
      · exact jl_tabI Z.F (k := 27) (tgt := 855) dL_law_32 hq rfl (by decide) rfl (by decide) (lwc_27 Z hL h5 hA hC hR kont)
      · exact jl_tabI Z.F (k := 28) (tgt := 878) dL_law_32 hq rfl (by decide) rfl (by decide) (lwc_28 Z hL h5 hA hC hR kont)
theorem law_start {X : Cx} {b L : Nat} {xs : Nat → Int32} (Z : LW X b L xs) (hN : NN X.s) (hL : L ≤ 2560) : JN X 0 0 0 [some (.ref b), none, none, none] [] 0 (fun _ => .inr (0, [])) := by
  have hCz := Z.rc
  have hSz := Z.rs
  have F := Z.F
  have hnL : ∀ i, i < 4 → i < X.nL := fun i h => by rw [Z.nL]; exact h
  refine jn_new F (C := RX5) (T := TX5) (N := 10) (ci := 5) (fs := [.null, .null, .null, .null, .null, .null, .null, .null, .null, .int 0]) tyX5 tyX5_ok rfl inX5 (F.1.2.2.2.2 _ wd_54) (F.1.2.2.2.2 _ wd_55) (F.1.2.2.2.2 _ wd_44) okV5 (by omega) (by omega) dL_law_0 rfl ?_
  refine jn_dup F dL_law_3 rfl rfl ?_
  refine jn_callS F hN (k := 0) (c_X5_init (cset_s _ _ _)) wd_58 wd_44 wd_56 wd_57 rfl (by decide) (by decide) (by decide) (Nat.le_of_ble_eq_true rfl) ⟨by omega, by omega⟩ dL_law_4 rfl Z.hE rfl (by decide) (by decide) (fun v σz q => q.1) (fun σ1 q1 => ?_)
  refine jn_astore_n (lv' := [some (.ref b), some (.ref (X.E.1 + 0)), none, none]) F dL_law_7 rfl (hnL _ (by decide)) rfl rfl ?_
  refine jn_new F (C := RX6) (T := TX6) (N := 30) (ci := 6) (fs := mdV) tyX6 tyX6_ok rfl inX6 (F.1.2.2.2.2 _ wd_553) (F.1.2.2.2.2 _ wd_554) (F.1.2.2.2.2 _ wd_50) okV6 (by omega) (by omega) dL_law_8 rfl ?_
  refine jn_dup F dL_law_11 rfl rfl ?_
  refine jn_callS F hN (k := 55) (c_X6_init (σ := σ1) (cset_s _ _ _) (fun k s hk hs => (cset_n _ _ (by omega)).trans (ctS_eq hs))) wd_557 wd_50 wd_555 wd_556 rfl (by decide) (by decide) (by decide) (Nat.le_of_ble_eq_true rfl) ⟨by omega, by omega⟩ dL_law_12 rfl Z.hE rfl (by decide) (by decide) (fun v σz q => q.1) (fun σ2 q2 => ?_)
  refine jn_astore_n (lv' := [some (.ref b), some (.ref (X.E.1 + 0)), some (.ref (X.E.1 + 55)), none]) F dL_law_15 rfl (hnL _ (by decide)) rfl rfl ?_
  refine jn_iconst (v := nI 0) F dL_law_16 rfl (by decide) ?_
  refine jn_istore_n (lv' := lvL X b 0) F dL_law_17 rfl (hnL _ (by decide)) rfl rfl ?_
  refine jn_jl (σ := σ2) (fun H a => Z.nz.symm ▸ rep_of (n := 69) a (fun k s hk hs => ctS_eq hs)) ?_
  exact law_loop Z hL (L + 1) 0 σ2 A0 (Nat.zero_le _) (by omega) AI_A0 (CR_M q1.2 q2.2.2) q2.2.1
theorem ra_of {s : State} {A : Array Value} {ty : FieldType} (h : (Cond.arrayClass ty).before A s = true) : ∃ cA : ClassId, ArrOfT s cA ty ∧ s.vm.findClass ("[" ++ ty.toString) = some cA := by
  obtain ⟨cA, kA, comp, h1, h2, h3⟩ := Cond.arrayClass_spec h
  exact ⟨cA, fun n z => ⟨fun k hz => (by cases hz), kA, h2, comp, h3⟩, h1⟩
theorem ro_of {s : State} {A : Array Value} {C : String} (h : (Cond.arrayOver (.object C)).before A s = true) : ∃ cA : ClassId, ArrOfT s cA (.object C) ∧ va_RA s cA (.object C) := by
  obtain ⟨comp, cA, kA, h1, -, h2, h3, h4⟩ := Cond.arrayOver_spec h
  exact ⟨cA, fun n z => ⟨fun k hz => (by cases hz), kA, h2, comp, h3⟩, kA, comp, h2, h3, h1, h4⟩
theorem KK_at {s : State} {A : Array Value} (hU : ∀ w ∈ UW, w.before A s = true) (hov : (Cond.arrayOver (.object "LampPlans$Plan")).before A s = true) (bs : Nat) : ∃ E : Ev, E.1 = bs ∧ KK E s := by
  obtain ⟨c0, i0, k0⟩ := u_known (C := RX0) (T := TX0) (N := 1) (n := 1) hU inX0 (hU _ wd_151)
  obtain ⟨c1, i1, k1⟩ := u_known (C := RX1) (T := TX1) (N := 3) (n := 3) hU inX1 (hU _ wd_131)
  obtain ⟨c2, i2, k2⟩ := u_known (C := RX2) (T := TX2) (N := 6) (n := 6) hU inX2 (hU _ wd_63)
  obtain ⟨c3, i3, k3⟩ := u_known (C := RX3) (T := TX3) (N := 7) (n := 7) hU inX3 (hU _ wd_161)
  obtain ⟨c4, i4, k4⟩ := u_known (C := RX4) (T := TX4) (N := 6) (n := 6) hU inX4 (hU _ wd_104)
  obtain ⟨c5, i5, k5⟩ := u_known (C := RX5) (T := TX5) (N := 10) (n := 10) hU inX5 (hU _ wd_55)
  obtain ⟨c6, i6, k6⟩ := u_known (C := RX6) (T := TX6) (N := 30) (n := 30) hU inX6 (hU _ wd_554)
  obtain ⟨a0, p0, q0⟩ := ra_of (hU _ wd_102)
  obtain ⟨a1, p1, q1⟩ := ra_of (hU _ wd_129)
  obtain ⟨a2, p2, q2⟩ := ra_of (hU _ wd_232)
  obtain ⟨a3, p3, q3⟩ := ro_of hov
  refine ⟨(bs, fun k => match k with | 0 => c0 | 1 => c1 | 2 => c2 | 3 => c3 | 4 => c4 | 5 => c5 | _ => c6, fun k => match k with | 0 => i0 | 1 => i1 | 2 => i2 | 3 => i3 | 4 => i4 | 5 => i5 | _ => i6, fun k => match k with | 0 => a0 | 1 => a1 | 2 => a2 | _ => a3), rfl, ⟨?_, fun k q h => (by simp at h)⟩, ?_⟩
  · intro k q hq
    match k, hq with
    | 0, hq => cases hq; exact k0
    | 1, hq => cases hq; exact k1
    | 2, hq => cases hq; exact k2
    | 3, hq => cases hq; exact k3
    | 4, hq => cases hq; exact k4
    | 5, hq => cases hq; exact k5
    | 6, hq => cases hq; exact k6
    | k + 7, hq => simp [vwCl] at hq
  · intro t ht
    rcases (show t = 0 ∨ t = 1 ∨ t = 2 ∨ t = 3 by omega) with rfl | rfl | rfl | rfl
    · exact ⟨p0, q0⟩
    · exact ⟨p1, q1⟩
    · exact ⟨p2, q2⟩
    · exact ⟨p3, q3⟩
theorem nn_w (i : Nat) {w : Cond} {A : Array Value} {s : State} (hts : ∀ w ∈ lw_tbl, w.before A s = true) (h : lw_tbl[i]? = some w) : w.before A s = true := hts w (List.mem_of_getElem? h)
theorem NN_at {s : State} {A : Array Value} (hts : ∀ w ∈ lw_tbl, w.before A s = true) : NN s :=
  ⟨va_AO.of (nn_w 137 hts (by decide +kernel)), va_Nw.of rfl (nn_w 64 hts (by decide +kernel)), va_Nw.of rfl (nn_w 105 hts (by decide +kernel)), va_Nw.of rfl (nn_w 138 hts (by decide +kernel)), va_Nw.of rfl (nn_w 152 hts (by decide +kernel)), va_Nw.of rfl (nn_w 162 hts (by decide +kernel))⟩
/-- from the entry, for every script of at most 2560 ints, the law comes to its end with true -/
theorem whole_start {p : Program} {e : Env} {s : State} {m : MethodId} {below : List Frame} {meth : Method} {c : Code} (l : Launch) (_hflags : l.flags = flags0) {b L : Nat} {xs : Nat → Int32} (hL : L ≤ 2560) (C0 : lw_At p s m meth c b L xs) : W p l e room_1 s m #[Value.ref b] below meth c s.heap [] 0 0 (lw_Z below #[Value.ref b] s) (entryFrame m ([Value.ref b] : List Value).toArray 4) := by
  obtain ⟨hx, hb, hr, hml, hown, hts, hX, hbl, hlocks, -⟩ := C0
  have hU : ∀ w ∈ UW, w.before #[Value.ref b] s = true := fun w hw => hts w (List.mem_filter.mp hw).1
  obtain ⟨E, hE, hK⟩ := KK_at hU (nn_w 137 hts (by decide +kernel)) s.heap.size
  have Z : LW (p, l, e, room_1, s, m, #[Value.ref b], below, meth, c, lw_Z below #[Value.ref b] s, 69, E, 4) b L xs := ⟨⟨⟨hx, hb, hml, hown, hU⟩, hK, Nat.le_of_ble_eq_true rfl, Nat.le_of_ble_eq_true rfl⟩, rfl, hX, hbl, hE.symm, rfl, rfl, rfl, rfl, hr, hlocks⟩
  have hl := lv_entry [.ref b] (n := 4) (Nat.le_of_ble_eq_true rfl)
  rw [lg_entry_eq]
  exact law_start Z (NN_at hts) hL s.heap [] _ ⟨hE.symm, fun k hk => absurd hk (Nat.not_lt_zero k)⟩ va_S.rf hl
