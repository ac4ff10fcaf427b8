theorem n10_55 {σ : St} {i : Nat} {v : Int32} (hi : i ≠ 5) : up (upR σ 57 (mvR (σ 57) 82 0 738)) 55 5 v 55 i = σ 55 i := by
  rw [up, upR_s, upd_n _ _ hi, upR_n _ _ (by decide)]
theorem n10_n {σ : St} {a : Nat} {v : Int32} (h1 : a ≠ 55) (h2 : a ≠ 57) : up (upR σ 57 (mvR (σ 57) 82 0 738)) 55 5 v a = σ a := by
  rw [up, upR_n _ _ h1, upR_n _ _ h2]
theorem n10_q {σ : St} {A : Ab} {i : Nat} {v : Int32} (hR : MR σ A) (hA : AI A) (h : A.hs.length = 10) (hi : i < 9) : RwM (fun k => up (upR σ 57 (mvR (σ 57) 82 0 738)) 55 5 v 57 (82 * i + k)) (((A.P :: A.hs).take 10).reverse.getD i (P0 6 6)) := by
  rw [take_10 _ _ _ h hi]
  have z := hR.2.2.2.1.2.2 (i + 1) (by omega)
  have hm : A.hs.reverse.getD (i + 1) (P0 6 6) ∈ A.hs := by
    rw [List.getD_eq_getElem?_getD, List.getElem?_eq_getElem (by rw [List.length_reverse]; omega)]
    exact List.mem_reverse.mp (List.getElem_mem _)
  have hb := (hA.2.1 _ hm).1.1
  refine RwM_c z hb.2.2.2.2.2.1 hb.2.2.2.2.2.2 (fun k hk => ?_)
  show up (upR σ 57 (mvR (σ 57) 82 0 738)) 55 5 v 57 (82 * i + k) = σ 57 (82 * (i + 1) + k)
  rw [up, upR_n _ _ (by decide), upR_s]
  exact (if_pos (by omega)).trans (congrArg (σ 57) (by omega))
theorem up4_56 {σ : St} {a b c d : Nat} {x y z w : Int32} : up (up (up (up σ 56 a x) 56 b y) 56 c z) 56 d w = upR σ 56 (upd (upd (upd (upd (σ 56) a x) b y) c z) d w) := by
  funext k
  by_cases h : k = 56
  · subst h; simp only [up, upR_s]
  · simp only [up, upR_n _ _ h]
theorem und_s (σ : St) (f : Nat → Int32) (u k : Nat) (v : Int32) : up (upR (up σ 55 5 v) 56 (cpR f (fun z => σ 57 (82 * u + z)) 0 k)) 56 k ((upR (up σ 55 5 v) 56 (cpR f (fun z => σ 57 (82 * u + z)) 0 k)) 57 (82 * u + k)) = upR (up σ 55 5 v) 56 (cpR f (fun z => σ 57 (82 * u + z)) 0 (k + 1)) := by
  rw [upR_up, upR_n _ _ (show (57 : Nat) ≠ 56 by decide), show up σ 55 5 v 57 = σ 57 from upR_n _ _ (by decide)]
  have e := cpR_s f (fun z => σ 57 (82 * u + z)) 0 k
  rw [Nat.zero_add] at e
  rw [← e]
theorem bck_s (σ : St) (j k : Nat) : up (upR σ 56 (cpR (σ 56) (fun z => σ 58 (82 * j + z)) 0 k)) 56 k ((upR σ 56 (cpR (σ 56) (fun z => σ 58 (82 * j + z)) 0 k)) 58 (82 * j + k)) = upR σ 56 (cpR (σ 56) (fun z => σ 58 (82 * j + z)) 0 (k + 1)) := by
  rw [upR_up, upR_n _ _ (show (58 : Nat) ≠ 56 by decide)]
  have e := cpR_s (σ 56) (fun z => σ 58 (82 * j + z)) 0 k
  rw [Nat.zero_add] at e
  rw [← e]
theorem und_end {σ : St} {A : Ab} {Q : Pl} {r0 : List Pl} (hR : MR σ A) (hq : A.hs = Q :: r0) (hB : PB Q) (hw : Q.W = A.P.W) (hh : Q.H = A.P.H) : MR (upR (up σ 55 5 (nI r0.length)) 56 (cpR (σ 56) (fun z => σ 57 (82 * r0.length + z)) 0 82)) (Q, A.t, A.m, r0, A.im, A.sn) := by
  have hH := hR.2.2.2.1
  rw [hq] at hH
  obtain ⟨h1, h2, h3⟩ := hH
  rw [List.length_cons] at h2 h3
  refine MR_H hR (fun i hi => by rw [upR_n _ _ (by decide), up, upR_s, upd_n _ _ hi]) (fun a a1 a2 _ => by rw [upR_n _ _ a2, up, upR_n _ _ a1]) hw hh ?_ ⟨by rw [upR_n _ _ (by decide), up, upR_s, upd_s], by omega, fun i hi => ?_⟩
  · rw [upR_s]
    have z := h3 r0.length (by omega)
    rw [rev_last] at z
    refine RwM_c z hB.2.2.2.2.2.1 hB.2.2.2.2.2.2 (fun k hk => ?_)
    have e := cpR_in (g := σ 56) (s := fun z => σ 57 (82 * r0.length + z)) (b := 0) hk
    rw [Nat.zero_add] at e
    exact e
  · have z := h3 i (by omega)
    rw [rev_cons _ _ _ hi] at z
    rw [upR_n _ _ (by decide), up, upR_n _ _ (by decide)]
    exact z
theorem bck_end {σ : St} {A : Ab} {Q : Pl} {j : Nat} (hR : MR σ A) (hQ : RwM (fun k => σ 58 (82 * j + k)) Q) (hB : PB Q) (hw : Q.W = A.P.W) (hh : Q.H = A.P.H) : MR (up (upR σ 56 (cpR (σ 56) (fun z => σ 58 (82 * j + z)) 0 82)) 55 5 (nI 0)) (Q, A.t, A.m, [], A.im, A.sn) := by
  refine MR_H hR (fun i hi => by rw [up, upR_s, upd_n _ _ hi, upR_n _ _ (by decide)]) (fun a a1 a2 _ => by rw [up, upR_n _ _ a1, upR_n _ _ a2]) hw hh ?_ ⟨by rw [up, upR_s, upd_s]; rfl, Nat.zero_le _, fun i hi => absurd hi (Nat.not_lt_zero i)⟩
  rw [up, upR_n _ _ (by decide), upR_s]
  refine RwM_c hQ hB.2.2.2.2.2.1 hB.2.2.2.2.2.2 (fun k hk => ?_)
  have e := cpR_in (g := σ 56) (s := fun z => σ 58 (82 * j + z)) (b := 0) hk
  rw [Nat.zero_add] at e
  exact e
set_option maxRecDepth 10000 in
set_option maxHeartbeats 2000000 in
theorem c_X6_notes {l : Launch} {n : Nat} {E : Ev} {σ : St} {A : Ab} (hn : 69 ≤ n) (hA : AI A) (hR : MR σ A) : Ct l yX6_notes cX6_notes 2 none 0 n E [.ref (E.1 + 55)] σ (fun v' σ' => v' = none ∧ MR σ' (A.P, A.t, A.m, (A.P :: A.hs).take 10, A.im, A.sn) ∧ FrM σ σ') := by
  refine Ct.of (lv0 := [some (.ref (E.1 + 55)), none]) (by decide) (Nat.le_of_ble_eq_true rfl) rfl ?_
  intro X hXn hXE hXl hXL F hRt
  subst hXn hXE hXl
  have hL : ∀ i, i < 2 → i < X.nL := fun i h => by rw [hXL]; exact h
  have hTh := hR.1
  have hM := hR.2.1
  have hG := hA.1
  have hBd := hG.1
  have hWl := hG.2.1
  have hLm := hG.2.2.1
  have hB0 := hBd
  obtain ⟨b1, b2, b3, b4, b5, b6, b7⟩ := hB0
  have hlen := hR.2.2.2.2.1
  have hh10 := hR.2.2.2.1.2.1
  have htk := take_len A.P A.hs
  refine j_aload_n F dX6_notes_0 rfl rfl ?_
  refine gX6_126 hn F dX6_notes_1 rfl ?_
  refine j_int (y := nI (A.hs.length)) (hR.2.2.2.1.1) ?_
  refine j_bipush (v := nI (10)) F dX6_notes_4 rfl (by decide) ?_
  have join_49 : ∀ (τ : St) (u : Nat), (u ≤ 9) → (τ 55 5 = nI u) → (∀ i, i ≠ 5 → τ 55 i = σ 55 i) → (∀ a, a ≠ 55 → a ≠ 57 → τ a = σ a) → (((A.P :: A.hs).take 10).length = u + 1) → (∀ i, i < u → RwM (fun k => τ 57 (82 * i + k)) (((A.P :: A.hs).take 10).reverse.getD i (P0 6 6))) → J X 49 [some (.ref (X.E.1 + 55)), none] [] τ := by
    intro τ u hu hu5 h0 he hl hq
    refine j_iconst (v := nI (0)) F dX6_notes_49 rfl (by decide) ?_
    refine j_istore_n (lv' := [some (.ref (X.E.1 + 55)), some (.int (nI (0)))]) F dX6_notes_50 rfl (hL _ (by decide)) rfl rfl ?_
    refine j_store (σ' := upR τ 57 (cpR (τ 57) (τ 56) (82 * u) 0)) (by rw [cpR_0, upR_id]) ?_
    have loop_51 : ∀ (kk : Nat), kk ≤ 82 → J X 51 [some (.ref (X.E.1 + 55)), some (.int (nI (kk)))] [] (upR τ 57 (cpR (τ 57) (τ 56) (82 * u) kk)) := by
      refine dnL (fun kk hkk ih_51 => ?_)
      refine j_iload_n F dX6_notes_51 rfl rfl ?_
      refine j_bipush (v := nI (82)) F dX6_notes_52 rfl (by decide) ?_
      refine j_icmp_geN (a := kk) (b := 82) F (by omega) (by omega) (tgt := 83) dX6_notes_54 (by decide) rfl (fun c_54 => ?_) (fun c_54 => ?_)
      · have hkN : kk = 82 := by omega
        refine j_store (σ' := upR τ 57 (cpR (τ 57) (τ 56) (82 * u) 82)) (by rw [hkN]) ?_
        refine j_aload_n F dX6_notes_83 rfl rfl ?_
        refine j_dup F dX6_notes_84 rfl rfl ?_
        refine gX6_126 hn F dX6_notes_85 rfl ?_
        refine j_int (y := nI (u)) (by rw [upR_n _ _ (by decide)]; exact hu5) ?_
        refine j_iconst (v := nI (1)) F dX6_notes_88 rfl (by decide) ?_
        refine j_iaddN (a := u) (b := 1) F dX6_notes_89 rfl ?_
        refine pX6_126 hn F dX6_notes_90 rfl ?_
        exact j_vret F hRt (⟨rfl, notes_end hR hA h0 he hl hq, fun a ha => by rw [up, upR_n _ _ (by omega), upR_n _ _ (by omega), he a (by omega) (by omega)]⟩) dX6_notes_93
      · refine j_aload_n F dX6_notes_57 rfl rfl ?_
        refine gX6_13 hn F dX6_notes_58 rfl ?_
        refine j_bipush (v := nI (82)) F dX6_notes_61 rfl (by decide) ?_
        refine j_aload_n F dX6_notes_63 rfl rfl ?_
        refine gX6_126 hn F dX6_notes_64 rfl ?_
        refine j_int (y := nI (u)) (by rw [upR_n _ _ (by decide)]; exact hu5) ?_
        refine j_imulN (a := 82) (b := u) F dX6_notes_67 rfl ?_
        refine j_iload_n F dX6_notes_68 rfl rfl ?_
        refine j_iaddN (a := 82 * u) (b := kk) F dX6_notes_69 rfl ?_
        refine j_aload_n F dX6_notes_70 rfl rfl ?_
        refine gX6_7 hn F dX6_notes_71 rfl ?_
        refine j_iload_n F dX6_notes_74 rfl rfl ?_
        refine j_iaload (a := kk) F (by omega) rfl rfl (by omega) (by decide) dX6_notes_75 rfl ?_
        refine j_iastore (a := (82 * u) + kk) F (by omega) rfl rfl (by omega) (by decide) dX6_notes_76 rfl ?_
        refine j_store (σ' := upR τ 57 (cpR (τ 57) (τ 56) (82 * u) (kk + 1))) (by rw [upR_up, upR_n _ _ (show (56 : Nat) ≠ 57 by decide), cpR_s]) ?_
        refine j_iincN (a := kk) (c := 1) (lv' := [some (.ref (X.E.1 + 55)), some (.int (nI (kk + 1)))]) F dX6_notes_77 rfl rfl (by decide) (hL _ (by decide)) rfl rfl ?_
        refine j_goto (pc' := 51) F dX6_notes_80 (by decide) ?_
        exact ih_51 (by omega)  
    exact loop_51 0 (by omega)  
  refine j_icmp_neN (a := A.hs.length) (b := 10) F (by omega) (by omega) (tgt := 49) dX6_notes_6 (by decide) rfl (fun c_6 => ?_) (fun c_6 => ?_)
  · have c_6z : A.hs.length < 10 := by omega
    refine j_lv (lv' := [some (.ref (X.E.1 + 55)), none]) (sbl (ks := [0]) rfl) ?_
    exact join_49 σ A.hs.length (by omega) hR.2.2.2.1.1 (fun _ _ => rfl) (fun _ _ _ => rfl) (by omega) (fun i hi => by have z := hR.2.2.2.1.2.2 i hi; rw [take_lt _ _ (by omega), rev_cons _ _ _ hi]; exact z)
  · have c_6z : A.hs.length = 10 := by omega
    refine j_iconst (v := nI (0)) F dX6_notes_9 rfl (by decide) ?_
    refine j_istore_n (lv' := [some (.ref (X.E.1 + 55)), some (.int (nI (0)))]) F dX6_notes_10 rfl (hL _ (by decide)) rfl rfl ?_
    refine j_store (σ' := upR σ 57 (mvR (σ 57) 82 0 0)) (by rw [mvR_0, upR_id]) ?_
    have loop_11 : ∀ (kk : Nat), kk ≤ 738 → J X 11 [some (.ref (X.E.1 + 55)), some (.int (nI (kk)))] [] (upR σ 57 (mvR (σ 57) 82 0 kk)) := by
      refine dnL (fun kk hkk ih_11 => ?_)
      refine j_iload_n F dX6_notes_11 rfl rfl ?_
      refine j_sipush (v := nI (738)) F dX6_notes_12 rfl (by decide) ?_
      refine j_icmp_geN (a := kk) (b := 738) F (by omega) (by omega) (tgt := 39) dX6_notes_15 (by decide) rfl (fun c_15 => ?_) (fun c_15 => ?_)
      · have hkN : kk = 738 := by omega
        refine j_store (σ' := upR σ 57 (mvR (σ 57) 82 0 738)) (by rw [hkN]) ?_
        refine j_aload_n F dX6_notes_39 rfl rfl ?_
        refine j_dup F dX6_notes_40 rfl rfl ?_
        refine gX6_126 hn F dX6_notes_41 rfl ?_
        refine j_int (y := nI (10)) (by rw [upR_n _ _ (by decide), hR.2.2.2.1.1, c_6z]) ?_
        refine j_iconst (v := nI (1)) F dX6_notes_44 rfl (by decide) ?_
        refine j_isubN (a := 10) (b := 1) F (by omega) dX6_notes_45 rfl ?_
        refine pX6_126 hn F dX6_notes_46 rfl ?_
        refine j_lv (lv' := [some (.ref (X.E.1 + 55)), none]) (sbl (ks := [0]) rfl) ?_
        exact join_49 (up (upR σ 57 (mvR (σ 57) 82 0 738)) 55 5 (nI (10 - 1))) 9 (Nat.le_refl 9) (by simp only [up, upR_s, upd_s]) (fun i hi => n10_55 hi) (fun a h1 h2 => n10_n h1 h2) (by omega) (fun i hi => n10_q hR hA c_6z hi)
      · refine j_aload_n F dX6_notes_18 rfl rfl ?_
        refine gX6_13 hn F dX6_notes_19 rfl ?_
        refine j_iload_n F dX6_notes_22 rfl rfl ?_
        refine j_aload_n F dX6_notes_23 rfl rfl ?_
        refine gX6_13 hn F dX6_notes_24 rfl ?_
        refine j_iload_n F dX6_notes_27 rfl rfl ?_
        refine j_bipush (v := nI (82)) F dX6_notes_28 rfl (by decide) ?_
        refine j_iaddN (a := kk) (b := 82) F dX6_notes_30 rfl ?_
        refine j_iaload (a := kk + 82) F (by omega) rfl rfl (by omega) (by decide) dX6_notes_31 rfl ?_
        refine j_iastore (a := kk) F (by omega) rfl rfl (by omega) (by decide) dX6_notes_32 rfl ?_
        refine j_store (σ' := upR σ 57 (mvR (σ 57) 82 0 (kk + 1))) (by rw [upR_up, upR_s, mvR_s (Nat.zero_le _)]) ?_
        refine j_iincN (a := kk) (c := 1) (lv' := [some (.ref (X.E.1 + 55)), some (.int (nI (kk + 1)))]) F dX6_notes_33 rfl rfl (by decide) (hL _ (by decide)) rfl rfl ?_
        refine j_goto (pc' := 11) F dX6_notes_36 (by decide) ?_
        exact ih_11 (by omega)  
    exact loop_11 0 (by omega)  

set_option maxRecDepth 10000 in
set_option maxHeartbeats 2000000 in
theorem c_X6_puts {l : Launch} {n : Nat} {E : Ev} {σ : St} {A : Ab} (hn : 69 ≤ n) (hA : AI A) (hR : MR σ A) (x y : Int32) : Ct l yX6_puts cX6_puts 4 (some .int) 2 n E [.ref (E.1 + 55), .int (x), .int (y)] σ (oM σ (o_puts A x y)) := by
  refine Ct.of (lv0 := [some (.ref (E.1 + 55)), some (.int (x)), some (.int (y)), none]) (by decide) (Nat.le_of_ble_eq_true rfl) rfl ?_
  intro X hXn hXE hXl hXL F hRt
  subst hXn hXE hXl
  have hL : ∀ i, i < 4 → i < X.nL := fun i h => by rw [hXL]; exact h
  have hTh := hR.1
  have hM := hR.2.1
  have hG := hA.1
  have hBd := hG.1
  have hWl := hG.2.1
  have hLm := hG.2.2.1
  have hB0 := hBd
  obtain ⟨b1, b2, b3, b4, b5, b6, b7⟩ := hB0
  refine j_aload_n F dX6_puts_0 rfl rfl ?_
  refine j_iconst (v := nI (0)) F dX6_puts_1 rfl (by decide) ?_
  refine pX6_56 hn F dX6_puts_2 rfl ?_
  refine j_store (σ' := σ) (up_id hTh) ?_
  refine j_aload_n F dX6_puts_5 rfl rfl ?_
  refine j_iload_n F dX6_puts_6 rfl rfl ?_
  refine j_iload_n F dX6_puts_7 rfl rfl ?_
  refine kX6_163 hn F (As := [.int (x), .int (y)]) (rest := []) (c_X6_isSpot hn hM hBd x y) (by decide) rfl rfl (Nat.le_of_ble_eq_true rfl) dX6_puts_8 rfl (ro_k ?_)
  refine j_if_neB F (x := inR x A.P.W && inR y A.P.H) (tgt := 16) dX6_puts_11 (by decide) rfl (fun c_11 => ?_) (fun c_11 => ?_)
  · have hs0 := c_11
    obtain ⟨hsx, hsy⟩ := and_t c_11
    obtain ⟨j, hj, rfl⟩ := inR_t hsx (by omega)
    obtain ⟨i, hi, rfl⟩ := inR_t hsy (by omega)
    have hs1 : ¬ (inR (nI j) A.P.W && inR (nI i) A.P.H) = false := by rw [hs0]; decide
    refine j_aload_n F dX6_puts_16 rfl rfl ?_
    refine j_iload_n F dX6_puts_17 rfl rfl ?_
    refine j_iload_n F dX6_puts_18 rfl rfl ?_
    refine kX6_218 hn F (As := [.int (nI (j)), .int (nI (i))]) (rest := []) (c_X6_lampAt hn hM hBd hLm j i (by omega) (by omega)) (by decide) rfl rfl (Nat.le_of_ble_eq_true rfl) dX6_puts_19 rfl (fun v_19 σ_19 q_19 => ?_)
    obtain ⟨rfl, r_19, rfl, hat⟩ := q_19
    refine j_bipush (v := (-9 : Int32)) F dX6_puts_22 rfl (by decide) ?_
    refine j_icmp_eq F (tgt := 30) dX6_puts_24 (by decide) rfl (fun c_24 => ?_) (fun c_24 => ?_)
    · have c_23z : ¬ A.P.at (tn (nI j)) (tn (nI i)) = true := by rw [tn_n (by omega), tn_n (by omega), hat.mp c_24]; decide
      refine j_aload_n F dX6_puts_30 rfl rfl ?_
      refine gX6_7 hn F dX6_puts_31 rfl ?_
      refine j_iconst (v := nI (0)) F dX6_puts_34 rfl (by decide) ?_
      refine j_iaload (a := 0) F (by omega) rfl rfl (by omega) (by decide) dX6_puts_35 rfl ?_
      refine j_int (y := nI (A.P.nl)) (hM.nl) ?_
      refine j_bipush (v := nI (8)) F dX6_puts_36 rfl (by decide) ?_
      refine j_icmp_neN (a := A.P.nl) (b := 8) F (by omega) (by omega) (tgt := 44) dX6_puts_38 (by decide) rfl (fun c_38 => ?_) (fun c_38 => ?_)
      · refine j_aload_n F dX6_puts_44 rfl rfl ?_
        refine kX6_221 hn F (As := []) (rest := []) (c_X6_notes hn hA hR) (by decide) rfl rfl (Nat.le_of_ble_eq_true rfl) dX6_puts_45 rfl (fun v_45 σ_45 q_45 => ?_)
        obtain ⟨rfl, hR_45, fm_45⟩ := q_45
        have hM_45 : MP σ_45 A.P := hR_45.2.1
        have hw_45 := hM_45.2.2
        refine j_iconst (v := nI (2)) F dX6_puts_48 rfl (by decide) ?_
        refine j_iconst (v := nI (3)) F dX6_puts_49 rfl (by decide) ?_
        refine j_aload_n F dX6_puts_50 rfl rfl ?_
        refine gX6_7 hn F dX6_puts_51 rfl ?_
        refine j_iconst (v := nI (0)) F dX6_puts_54 rfl (by decide) ?_
        refine j_iaload (a := 0) F (by omega) rfl rfl (by omega) (by decide) dX6_puts_55 rfl ?_
        refine j_int (y := nI (A.P.nl)) (hM_45.nl) ?_
        refine j_imulN (a := 3) (b := A.P.nl) F dX6_puts_56 rfl ?_
        refine j_iaddN (a := 2) (b := 3 * A.P.nl) F dX6_puts_57 rfl ?_
        refine j_istore_n (lv' := [some (.ref (X.E.1 + 55)), some (.int (nI (j))), some (.int (nI (i))), some (.int (nI (2 + (3 * A.P.nl))))]) F dX6_puts_58 rfl (hL _ (by decide)) rfl rfl ?_
        refine j_aload_n F dX6_puts_59 rfl rfl ?_
        refine gX6_7 hn F dX6_puts_60 rfl ?_
        refine j_iload_n F dX6_puts_63 rfl rfl ?_
        refine j_iload_n F dX6_puts_64 rfl rfl ?_
        refine j_iastore (a := 2 + (3 * A.P.nl)) F (by omega) rfl rfl (by omega) (by decide) dX6_puts_65 rfl ?_
        refine j_aload_n F dX6_puts_66 rfl rfl ?_
        refine gX6_7 hn F dX6_puts_67 rfl ?_
        refine j_iload_n F dX6_puts_70 rfl rfl ?_
        refine j_iconst (v := nI (1)) F dX6_puts_71 rfl (by decide) ?_
        refine j_iaddN (a := 2 + (3 * A.P.nl)) (b := 1) F dX6_puts_72 rfl ?_
        refine j_iload_n F dX6_puts_73 rfl rfl ?_
        refine j_iastore (a := (2 + (3 * A.P.nl)) + 1) F (by omega) rfl rfl (by omega) (by decide) dX6_puts_74 rfl ?_
        refine j_aload_n F dX6_puts_75 rfl rfl ?_
        refine gX6_7 hn F dX6_puts_76 rfl ?_
        refine j_iload_n F dX6_puts_79 rfl rfl ?_
        refine j_iconst (v := nI (2)) F dX6_puts_80 rfl (by decide) ?_
        refine j_iaddN (a := 2 + (3 * A.P.nl)) (b := 2) F dX6_puts_81 rfl ?_
        refine j_iconst (v := nI (1)) F dX6_puts_82 rfl (by decide) ?_
        refine j_iastore (a := (2 + (3 * A.P.nl)) + 2) F (by omega) rfl rfl (by omega) (by decide) dX6_puts_83 rfl ?_
        refine j_aload_n F dX6_puts_84 rfl rfl ?_
        refine gX6_7 hn F dX6_puts_85 rfl ?_
        refine j_iconst (v := nI (0)) F dX6_puts_88 rfl (by decide) ?_
        refine j_dup2 F dX6_puts_89 rfl rfl rfl ?_
        refine j_iaload (a := 0) F (by omega) rfl rfl (by omega) (by decide) dX6_puts_90 rfl ?_
        refine j_int (y := nI (A.P.nl)) (by simp only [up, upR_s]; rw [upd_n _ _ (by omega), upd_n _ _ (by omega), upd_n _ _ (by omega)]; exact hM_45.nl) ?_
        refine j_iconst (v := nI (1)) F dX6_puts_91 rfl (by decide) ?_
        refine j_iaddN (a := A.P.nl) (b := 1) F dX6_puts_92 rfl ?_
        refine j_iastore (a := 0) F (by omega) rfl rfl (by omega) (by decide) dX6_puts_93 rfl ?_
        refine j_aload_n F dX6_puts_94 rfl rfl ?_
        refine gX6_7 hn F dX6_puts_95 rfl ?_
        refine j_iconst (v := nI (0)) F dX6_puts_98 rfl (by decide) ?_
        refine j_iaload (a := 0) F (by omega) rfl rfl (by omega) (by decide) dX6_puts_99 rfl ?_
        refine j_int (y := nI (A.P.nl + 1)) (by simp only [up, upR_s, upd_s]) ?_
        exact j_iret F hRt rfl (oM_e (show o_puts A (nI j) (nI i) = (nI (A.P.nl + 1), A.setP (A.P.addL j i)) by unfold o_puts; rw [if_neg hs1, if_neg c_23z, if_neg (by omega), tn_n (by omega), tn_n (by omega)]) (MR_P hR_45 (fun a ha => by simp only [up, upR_n _ _ ha]) rfl rfl (by simp only [up, upR_s]; exact RwM_addL hw_45 (by omega))) (FrM.put (FrM.put (FrM.put (FrM.put fm_45 (by decide)) (by decide)) (by decide)) (by decide))) dX6_puts_100
      · refine j_bipush (v := (-3 : Int32)) F dX6_puts_41 rfl (by decide) ?_
        exact j_iret F hRt rfl (oM_e (show o_puts A (nI j) (nI i) = (-3, A) by unfold o_puts; rw [if_neg hs1, if_neg c_23z, if_pos (by omega)]) hR FrM.rf) dX6_puts_43
    · have c_23z : A.P.at (tn (nI j)) (tn (nI i)) = true := by rw [tn_n (by omega), tn_n (by omega)]; cases hq : A.P.at j i; exact absurd (hat.mpr hq) c_24; rfl
      refine j_bipush (v := (-2 : Int32)) F dX6_puts_27 rfl (by decide) ?_
      exact j_iret F hRt rfl (oM_e (show o_puts A (nI j) (nI i) = (-2, A) by unfold o_puts; rw [if_neg hs1, if_pos c_23z]) hR FrM.rf) dX6_puts_29
  · refine j_iconst (v := (-1 : Int32)) F dX6_puts_14 rfl (by decide) ?_
    exact j_iret F hRt rfl (oM_e (if_pos c_11) hR FrM.rf) dX6_puts_15

set_option maxRecDepth 10000 in
set_option maxHeartbeats 2000000 in
theorem c_X6_takes {l : Launch} {n : Nat} {E : Ev} {σ : St} {A : Ab} (hn : 69 ≤ n) (hA : AI A) (hR : MR σ A) (x : Int32) : Ct l yX6_takes cX6_takes 3 (some .int) 2 n E [.ref (E.1 + 55), .int (x)] σ (oM σ (o_takes A x)) := by
  refine Ct.of (lv0 := [some (.ref (E.1 + 55)), some (.int (x)), none]) (by decide) (Nat.le_of_ble_eq_true rfl) rfl ?_
  intro X hXn hXE hXl hXL F hRt
  subst hXn hXE hXl
  have hL : ∀ i, i < 3 → i < X.nL := fun i h => by rw [hXL]; exact h
  have hTh := hR.1
  have hM := hR.2.1
  have hG := hA.1
  have hBd := hG.1
  have hWl := hG.2.1
  have hLm := hG.2.2.1
  have hB0 := hBd
  obtain ⟨b1, b2, b3, b4, b5, b6, b7⟩ := hB0
  refine j_aload_n F dX6_takes_0 rfl rfl ?_
  refine j_iconst (v := nI (0)) F dX6_takes_1 rfl (by decide) ?_
  refine pX6_56 hn F dX6_takes_2 rfl ?_
  refine j_store (σ' := σ) (up_id hTh) ?_
  refine j_aload_n F dX6_takes_5 rfl rfl ?_
  refine j_iload_n F dX6_takes_6 rfl rfl ?_
  refine kX6_141 hn F (As := [.int (x)]) (rest := []) (c_X6_isLamp hn hM hBd x) (by decide) rfl rfl (Nat.le_of_ble_eq_true rfl) dX6_takes_7 rfl (ro_k ?_)
  refine j_if_neB F (x := inR x A.P.nl) (tgt := 15) dX6_takes_10 (by decide) rfl (fun c_10 => ?_) (fun c_10 => ?_)
  · have hs0 := c_10
    obtain ⟨j, hj, rfl⟩ := inR_t c_10 (by omega)
    have hs1 : ¬ inR (nI j) A.P.nl = false := by rw [hs0]; decide
    refine j_aload_n F dX6_takes_15 rfl rfl ?_
    refine kX6_221 hn F (As := []) (rest := []) (c_X6_notes hn hA hR) (by decide) rfl rfl (Nat.le_of_ble_eq_true rfl) dX6_takes_16 rfl (fun v_16 σ_16 q_16 => ?_)
    obtain ⟨rfl, hR_16, fm_16⟩ := q_16
    have hM_16 : MP σ_16 A.P := hR_16.2.1
    have hw_16 := hM_16.2.2
    refine j_aload_n F dX6_takes_19 rfl rfl ?_
    refine gX6_7 hn F dX6_takes_20 rfl ?_
    refine j_iconst (v := nI (0)) F dX6_takes_23 rfl (by decide) ?_
    refine j_dup2 F dX6_takes_24 rfl rfl rfl ?_
    refine j_iaload (a := 0) F (by omega) rfl rfl (by omega) (by decide) dX6_takes_25 rfl ?_
    refine j_int (y := nI (A.P.nl)) (hM_16.nl) ?_
    refine j_iconst (v := nI (1)) F dX6_takes_26 rfl (by decide) ?_
    refine j_isubN (a := A.P.nl) (b := 1) F (by omega) dX6_takes_27 rfl ?_
    refine j_iastore (a := 0) F (by omega) rfl rfl (by omega) (by decide) dX6_takes_28 rfl ?_
    refine j_iconst (v := nI (2)) F dX6_takes_29 rfl (by decide) ?_
    refine j_iconst (v := nI (3)) F dX6_takes_30 rfl (by decide) ?_
    refine j_iload_n F dX6_takes_31 rfl rfl ?_
    refine j_imulN (a := 3) (b := j) F dX6_takes_32 rfl ?_
    refine j_iaddN (a := 2) (b := 3 * j) F dX6_takes_33 rfl ?_
    refine j_istore_n (lv' := [some (.ref (X.E.1 + 55)), some (.int (nI (j))), some (.int (nI (2 + (3 * j))))]) F dX6_takes_34 rfl (hL _ (by decide)) rfl rfl ?_
    refine j_store (σ' := upR σ_16 56 (mvR (upd (σ_16 56) 0 (nI (A.P.nl - 1))) 3 (2 + 3 * j) (2 + 3 * j))) (by rw [mvR_0]) ?_
    have loop_35 : ∀ (kk : Nat), kk ≤ (2 + 3 * (A.P.nl - 1)) → (2 + 3 * j ≤ kk) → J X 35 [some (.ref (X.E.1 + 55)), some (.int (nI (j))), some (.int (nI (kk)))] [] (upR σ_16 56 (mvR (upd (σ_16 56) 0 (nI (A.P.nl - 1))) 3 (2 + 3 * j) kk)) := by
      refine dnL (fun kk hkk ih_35 => ?_)
      intro hkj
      refine j_iload_n F dX6_takes_35 rfl rfl ?_
      refine j_iconst (v := nI (2)) F dX6_takes_36 rfl (by decide) ?_
      refine j_iconst (v := nI (3)) F dX6_takes_37 rfl (by decide) ?_
      refine j_aload_n F dX6_takes_38 rfl rfl ?_
      refine gX6_7 hn F dX6_takes_39 rfl ?_
      refine j_iconst (v := nI (0)) F dX6_takes_42 rfl (by decide) ?_
      refine j_iaload (a := 0) F (by omega) rfl rfl (by omega) (by decide) dX6_takes_43 rfl ?_
      refine j_int (y := nI (A.P.nl - 1)) (by rw [upR_s]; exact (if_neg (by omega)).trans (upd_s _ _ _)) ?_
      refine j_imulN (a := 3) (b := A.P.nl - 1) F dX6_takes_44 rfl ?_
      refine j_iaddN (a := 2) (b := 3 * (A.P.nl - 1)) F dX6_takes_45 rfl ?_
      refine j_icmp_geN (a := kk) (b := 2 + (3 * (A.P.nl - 1))) F (by omega) (by omega) (tgt := 69) dX6_takes_46 (by decide) rfl (fun c_46 => ?_) (fun c_46 => ?_)
      · have hkN : kk = 2 + 3 * (A.P.nl - 1) := by omega
        refine j_aload_n F dX6_takes_69 rfl rfl ?_
        refine gX6_7 hn F dX6_takes_70 rfl ?_
        refine j_iconst (v := nI (0)) F dX6_takes_73 rfl (by decide) ?_
        refine j_iaload (a := 0) F (by omega) rfl rfl (by omega) (by decide) dX6_takes_74 rfl ?_
        refine j_int (y := nI (A.P.nl - 1)) (by rw [upR_s]; exact (if_neg (by omega)).trans (upd_s _ _ _)) ?_
        exact j_iret F hRt rfl (oM_e (show o_takes A (nI j) = (nI (A.P.nl - 1), A.setP (A.P.remL j)) by unfold o_takes; rw [if_neg hs1, tn_n (by omega)]) (MR_P hR_16 (fun a ha => upR_n _ _ ha) rfl rfl (by rw [upR_s, hkN]; exact RwM_remL hw_16 hj b7)) (fm_16.tr (fun a ha => upR_n _ _ (by omega)))) dX6_takes_75
      · refine j_aload_n F dX6_takes_49 rfl rfl ?_
        refine gX6_7 hn F dX6_takes_50 rfl ?_
        refine j_iload_n F dX6_takes_53 rfl rfl ?_
        refine j_aload_n F dX6_takes_54 rfl rfl ?_
        refine gX6_7 hn F dX6_takes_55 rfl ?_
        refine j_iload_n F dX6_takes_58 rfl rfl ?_
        refine j_iconst (v := nI (3)) F dX6_takes_59 rfl (by decide) ?_
        refine j_iaddN (a := kk) (b := 3) F dX6_takes_60 rfl ?_
        refine j_iaload (a := kk + 3) F (by omega) rfl rfl (by omega) (by decide) dX6_takes_61 rfl ?_
        refine j_iastore (a := kk) F (by omega) rfl rfl (by omega) (by decide) dX6_takes_62 rfl ?_
        refine j_store (σ' := upR σ_16 56 (mvR (upd (σ_16 56) 0 (nI (A.P.nl - 1))) 3 (2 + 3 * j) (kk + 1))) (by rw [upR_up, upR_s, mvR_s hkj]) ?_
        refine j_iincN (a := kk) (c := 1) (lv' := [some (.ref (X.E.1 + 55)), some (.int (nI (j))), some (.int (nI (kk + 1)))]) F dX6_takes_63 rfl rfl (by decide) (hL _ (by decide)) rfl rfl ?_
        refine j_goto (pc' := 35) F dX6_takes_66 (by decide) ?_
        exact ih_35 (by omega)  (by omega)
    exact loop_35 (2 + 3 * j) (by omega)  (Nat.le_refl _)
  · refine j_iconst (v := (-1 : Int32)) F dX6_takes_13 rfl (by decide) ?_
    exact j_iret F hRt rfl (oM_e (if_pos c_10) hR FrM.rf) dX6_takes_14

set_option maxRecDepth 10000 in
set_option maxHeartbeats 2000000 in
theorem c_X6_breaks {l : Launch} {n : Nat} {E : Ev} {σ : St} {A : Ab} (hn : 69 ≤ n) (hA : AI A) (hR : MR σ A) (x : Int32) : Ct l yX6_breaks cX6_breaks 3 (some .int) 2 n E [.ref (E.1 + 55), .int (x)] σ (oM σ (o_breaks A x)) := by
  refine Ct.of (lv0 := [some (.ref (E.1 + 55)), some (.int (x)), none]) (by decide) (Nat.le_of_ble_eq_true rfl) rfl ?_
  intro X hXn hXE hXl hXL F hRt
  subst hXn hXE hXl
  have hL : ∀ i, i < 3 → i < X.nL := fun i h => by rw [hXL]; exact h
  have hTh := hR.1
  have hM := hR.2.1
  have hG := hA.1
  have hBd := hG.1
  have hWl := hG.2.1
  have hLm := hG.2.2.1
  have hB0 := hBd
  obtain ⟨b1, b2, b3, b4, b5, b6, b7⟩ := hB0
  refine j_aload_n F dX6_breaks_0 rfl rfl ?_
  refine j_iconst (v := nI (0)) F dX6_breaks_1 rfl (by decide) ?_
  refine pX6_56 hn F dX6_breaks_2 rfl ?_
  refine j_store (σ' := σ) (up_id hTh) ?_
  refine j_iload_n F dX6_breaks_5 rfl rfl ?_
  refine j_iconst (v := nI (4)) F dX6_breaks_6 rfl (by decide) ?_
  refine j_icmp_lt F (tgt := 18) dX6_breaks_7 (by decide) rfl (fun c_7 => ?_) (fun c_7 => ?_)
  · have hz : in4 x A.P.nw = false := decide_eq_false (fun q => q.1 c_7)
    refine j_iconst (v := (-1 : Int32)) F dX6_breaks_18 rfl (by decide) ?_
    exact j_iret F hRt rfl (oM_e (if_pos hz) hR FrM.rf) dX6_breaks_19
  · refine j_aload_n F dX6_breaks_10 rfl rfl ?_
    refine j_iload_n F dX6_breaks_11 rfl rfl ?_
    refine kX6_135 hn F (As := [.int (x)]) (rest := []) (c_X6_isWall hn hM hBd x) (by decide) rfl rfl (Nat.le_of_ble_eq_true rfl) dX6_breaks_12 rfl (ro_k ?_)
    refine j_if_neB F (x := inR x A.P.nw) (tgt := 20) dX6_breaks_15 (by decide) rfl (fun c_15 => ?_) (fun c_15 => ?_)
    · have hs0 : in4 x A.P.nw = true := decide_eq_true ⟨c_7, (of_decide_eq_true c_15).2⟩
      obtain ⟨j, hj4, hj, rfl⟩ := in4_t hs0 (by omega)
      have hs1 : ¬ in4 (nI j) A.P.nw = false := by rw [hs0]; decide
      refine j_aload_n F dX6_breaks_20 rfl rfl ?_
      refine kX6_221 hn F (As := []) (rest := []) (c_X6_notes hn hA hR) (by decide) rfl rfl (Nat.le_of_ble_eq_true rfl) dX6_breaks_21 rfl (fun v_21 σ_21 q_21 => ?_)
      obtain ⟨rfl, hR_21, fm_21⟩ := q_21
      have hM_21 : MP σ_21 A.P := hR_21.2.1
      have hw_21 := hM_21.2.2
      refine j_aload_n F dX6_breaks_24 rfl rfl ?_
      refine gX6_7 hn F dX6_breaks_25 rfl ?_
      refine j_iconst (v := nI (1)) F dX6_breaks_28 rfl (by decide) ?_
      refine j_dup2 F dX6_breaks_29 rfl rfl rfl ?_
      refine j_iaload (a := 1) F (by omega) rfl rfl (by omega) (by decide) dX6_breaks_30 rfl ?_
      refine j_int (y := nI (A.P.nw)) (hM_21.nw) ?_
      refine j_iconst (v := nI (1)) F dX6_breaks_31 rfl (by decide) ?_
      refine j_isubN (a := A.P.nw) (b := 1) F (by omega) dX6_breaks_32 rfl ?_
      refine j_iastore (a := 1) F (by omega) rfl rfl (by omega) (by decide) dX6_breaks_33 rfl ?_
      refine j_bipush (v := nI (26)) F dX6_breaks_34 rfl (by decide) ?_
      refine j_iconst (v := nI (4)) F dX6_breaks_36 rfl (by decide) ?_
      refine j_iload_n F dX6_breaks_37 rfl rfl ?_
      refine j_imulN (a := 4) (b := j) F dX6_breaks_38 rfl ?_
      refine j_iaddN (a := 26) (b := 4 * j) F dX6_breaks_39 rfl ?_
      refine j_istore_n (lv' := [some (.ref (X.E.1 + 55)), some (.int (nI (j))), some (.int (nI (26 + (4 * j))))]) F dX6_breaks_40 rfl (hL _ (by decide)) rfl rfl ?_
      refine j_store (σ' := upR σ_21 56 (mvR (upd (σ_21 56) 1 (nI (A.P.nw - 1))) 4 (26 + 4 * j) (26 + 4 * j))) (by rw [mvR_0]) ?_
      have loop_41 : ∀ (kk : Nat), kk ≤ (26 + 4 * (A.P.nw - 1)) → (26 + 4 * j ≤ kk) → J X 41 [some (.ref (X.E.1 + 55)), some (.int (nI (j))), some (.int (nI (kk)))] [] (upR σ_21 56 (mvR (upd (σ_21 56) 1 (nI (A.P.nw - 1))) 4 (26 + 4 * j) kk)) := by
        refine dnL (fun kk hkk ih_41 => ?_)
        intro hkj
        refine j_iload_n F dX6_breaks_41 rfl rfl ?_
        refine j_bipush (v := nI (26)) F dX6_breaks_42 rfl (by decide) ?_
        refine j_iconst (v := nI (4)) F dX6_breaks_44 rfl (by decide) ?_
        refine j_aload_n F dX6_breaks_45 rfl rfl ?_
        refine gX6_7 hn F dX6_breaks_46 rfl ?_
        refine j_iconst (v := nI (1)) F dX6_breaks_49 rfl (by decide) ?_
        refine j_iaload (a := 1) F (by omega) rfl rfl (by omega) (by decide) dX6_breaks_50 rfl ?_
        refine j_int (y := nI (A.P.nw - 1)) (by rw [upR_s]; exact (if_neg (by omega)).trans (upd_s _ _ _)) ?_
        refine j_imulN (a := 4) (b := A.P.nw - 1) F dX6_breaks_51 rfl ?_
        refine j_iaddN (a := 26) (b := 4 * (A.P.nw - 1)) F dX6_breaks_52 rfl ?_
        refine j_icmp_geN (a := kk) (b := 26 + (4 * (A.P.nw - 1))) F (by omega) (by omega) (tgt := 76) dX6_breaks_53 (by decide) rfl (fun c_53 => ?_) (fun c_53 => ?_)
        · have hkN : kk = 26 + 4 * (A.P.nw - 1) := by omega
          refine j_aload_n F dX6_breaks_76 rfl rfl ?_
          refine gX6_7 hn F dX6_breaks_77 rfl ?_
          refine j_iconst (v := nI (1)) F dX6_breaks_80 rfl (by decide) ?_
          refine j_iaload (a := 1) F (by omega) rfl rfl (by omega) (by decide) dX6_breaks_81 rfl ?_
          refine j_int (y := nI (A.P.nw - 1)) (by rw [upR_s]; exact (if_neg (by omega)).trans (upd_s _ _ _)) ?_
          exact j_iret F hRt rfl (oM_e (show o_breaks A (nI j) = (nI (A.P.nw - 1), A.setP (A.P.remW j)) by unfold o_breaks; rw [if_neg hs1, tn_n (by omega)]) (MR_P hR_21 (fun a ha => upR_n _ _ ha) rfl rfl (by rw [upR_s, hkN]; exact RwM_remW hw_21 hj b7)) (fm_21.tr (fun a ha => upR_n _ _ (by omega)))) dX6_breaks_82
        · refine j_aload_n F dX6_breaks_56 rfl rfl ?_
          refine gX6_7 hn F dX6_breaks_57 rfl ?_
          refine j_iload_n F dX6_breaks_60 rfl rfl ?_
          refine j_aload_n F dX6_breaks_61 rfl rfl ?_
          refine gX6_7 hn F dX6_breaks_62 rfl ?_
          refine j_iload_n F dX6_breaks_65 rfl rfl ?_
          refine j_iconst (v := nI (4)) F dX6_breaks_66 rfl (by decide) ?_
          refine j_iaddN (a := kk) (b := 4) F dX6_breaks_67 rfl ?_
          refine j_iaload (a := kk + 4) F (by omega) rfl rfl (by omega) (by decide) dX6_breaks_68 rfl ?_
          refine j_iastore (a := kk) F (by omega) rfl rfl (by omega) (by decide) dX6_breaks_69 rfl ?_
          refine j_store (σ' := upR σ_21 56 (mvR (upd (σ_21 56) 1 (nI (A.P.nw - 1))) 4 (26 + 4 * j) (kk + 1))) (by rw [upR_up, upR_s, mvR_s hkj]) ?_
          refine j_iincN (a := kk) (c := 1) (lv' := [some (.ref (X.E.1 + 55)), some (.int (nI (j))), some (.int (nI (kk + 1)))]) F dX6_breaks_70 rfl rfl (by decide) (hL _ (by decide)) rfl rfl ?_
          refine j_goto (pc' := 41) F dX6_breaks_73 (by decide) ?_
          exact ih_41 (by omega)  (by omega)
      exact loop_41 (26 + 4 * j) (by omega)  (Nat.le_refl _)
    · have hz : in4 x A.P.nw = false := decide_eq_false (fun q => by have r : inR x A.P.nw = true := decide_eq_true ⟨fun s => q.1 (fa_trans s (show (0 : Int32) ≤ nI 4 by decide)), q.2⟩; rw [c_15] at r; cases r)
      refine j_iconst (v := (-1 : Int32)) F dX6_breaks_18 rfl (by decide) ?_
      exact j_iret F hRt rfl (oM_e (if_pos hz) hR FrM.rf) dX6_breaks_19

set_option maxRecDepth 10000 in
set_option maxHeartbeats 2000000 in
theorem c_X6_switches {l : Launch} {n : Nat} {E : Ev} {σ : St} {A : Ab} (hn : 69 ≤ n) (hA : AI A) (hR : MR σ A) (x : Int32) : Ct l yX6_switches cX6_switches 2 (some .int) 2 n E [.ref (E.1 + 55), .int (x)] σ (oM σ (o_switches A x)) := by
  refine Ct.of (lv0 := [some (.ref (E.1 + 55)), some (.int (x))]) (by decide) (Nat.le_of_ble_eq_true rfl) rfl ?_
  intro X hXn hXE hXl hXL F hRt
  subst hXn hXE hXl
  have hL : ∀ i, i < 2 → i < X.nL := fun i h => by rw [hXL]; exact h
  have hTh := hR.1
  have hM := hR.2.1
  have hG := hA.1
  have hBd := hG.1
  have hWl := hG.2.1
  have hLm := hG.2.2.1
  have hB0 := hBd
  obtain ⟨b1, b2, b3, b4, b5, b6, b7⟩ := hB0
  refine j_aload_n F dX6_switches_0 rfl rfl ?_
  refine j_iconst (v := nI (0)) F dX6_switches_1 rfl (by decide) ?_
  refine pX6_56 hn F dX6_switches_2 rfl ?_
  refine j_store (σ' := σ) (up_id hTh) ?_
  refine j_aload_n F dX6_switches_5 rfl rfl ?_
  refine j_iload_n F dX6_switches_6 rfl rfl ?_
  refine kX6_141 hn F (As := [.int (x)]) (rest := []) (c_X6_isLamp hn hM hBd x) (by decide) rfl rfl (Nat.le_of_ble_eq_true rfl) dX6_switches_7 rfl (ro_k ?_)
  refine j_if_neB F (x := inR x A.P.nl) (tgt := 15) dX6_switches_10 (by decide) rfl (fun c_10 => ?_) (fun c_10 => ?_)
  · have hs0 := c_10
    obtain ⟨j, hj, rfl⟩ := inR_t c_10 (by omega)
    have hs1 : ¬ inR (nI j) A.P.nl = false := by rw [hs0]; decide
    have hlo := hLm j hj
    unfold LampOK at hlo
    refine j_aload_n F dX6_switches_15 rfl rfl ?_
    refine kX6_221 hn F (As := []) (rest := []) (c_X6_notes hn hA hR) (by decide) rfl rfl (Nat.le_of_ble_eq_true rfl) dX6_switches_16 rfl (fun v_16 σ_16 q_16 => ?_)
    obtain ⟨rfl, hR_16, fm_16⟩ := q_16
    have hM_16 : MP σ_16 A.P := hR_16.2.1
    have hw_16 := hM_16.2.2
    refine j_aload_n F dX6_switches_19 rfl rfl ?_
    refine gX6_7 hn F dX6_switches_20 rfl ?_
    refine j_iconst (v := nI (2)) F dX6_switches_23 rfl (by decide) ?_
    refine j_iconst (v := nI (3)) F dX6_switches_24 rfl (by decide) ?_
    refine j_iload_n F dX6_switches_25 rfl rfl ?_
    refine j_imulN (a := 3) (b := j) F dX6_switches_26 rfl ?_
    refine j_iaddN (a := 2) (b := 3 * j) F dX6_switches_27 rfl ?_
    refine j_iconst (v := nI (2)) F dX6_switches_28 rfl (by decide) ?_
    refine j_iaddN (a := 2 + (3 * j)) (b := 2) F dX6_switches_29 rfl ?_
    refine j_iconst (v := nI (1)) F dX6_switches_30 rfl (by decide) ?_
    refine j_aload_n F dX6_switches_31 rfl rfl ?_
    refine j_iload_n F dX6_switches_32 rfl rfl ?_
    refine j_iconst (v := nI (2)) F dX6_switches_33 rfl (by decide) ?_
    refine kX6_70 hn F (As := [.int (nI (j)), .int (nI (2))]) (rest := [.int (nI (1)), .int (nI ((2 + (3 * j)) + 2)), .ref (X.E.1 + 56)]) (c_X6_ofLamp hn hM_16 hBd j 2 (by omega) (by omega)) (by decide) rfl rfl (Nat.le_of_ble_eq_true rfl) dX6_switches_34 rfl (ro_k ?_)
    refine j_isubN (a := 1) (b := A.P.lp j 2) F (by omega) dX6_switches_37 rfl ?_
    refine j_iastore (a := (2 + (3 * j)) + 2) F (by omega) rfl rfl (by omega) (by decide) dX6_switches_38 rfl ?_
    refine j_store (σ' := up σ_16 56 ((2 + (3 * j)) + 2) (nI (1 - (A.P.lp j 2)))) (rfl) ?_
    have hR_38 : MR (up σ_16 56 (2 + 3 * j + 2) (nI (1 - A.P.lp j 2))) (A.setP (A.P.swL j)) := MR_P hR_16 (fun a ha => by simp only [up, upR_n _ _ ha]) rfl rfl (by simp only [up, upR_s]; exact RwM_swL hw_16 hj b7)
    refine j_aload_n F dX6_switches_39 rfl rfl ?_
    refine j_iload_n F dX6_switches_40 rfl rfl ?_
    refine j_iconst (v := nI (2)) F dX6_switches_41 rfl (by decide) ?_
    refine kX6_70 hn F (As := [.int (nI (j)), .int (nI (2))]) (rest := []) (c_X6_ofLamp hn hR_38.2.1 (P := A.P.swL j) hBd j 2 hj (by decide)) (by decide) rfl rfl (Nat.le_of_ble_eq_true rfl) dX6_switches_42 rfl (ro_k ?_)
    exact j_iret F hRt rfl (oM_e (show o_switches A (nI j) = (nI ((A.P.swL j).lp j 2), A.setP (A.P.swL j)) by unfold o_switches; rw [if_neg hs1, tn_n (by omega)]; rw [show (A.P.swL j).lp j 2 = 1 - A.P.lp j 2 from if_pos ⟨rfl, rfl⟩]) hR_38 (FrM.put fm_16 (by decide))) dX6_switches_45
  · refine j_iconst (v := (-1 : Int32)) F dX6_switches_13 rfl (by decide) ?_
    exact j_iret F hRt rfl (oM_e (if_pos c_10) hR FrM.rf) dX6_switches_14

set_option maxRecDepth 10000 in
set_option maxHeartbeats 2000000 in
theorem c_X6_setsWall {l : Launch} {n : Nat} {E : Ev} {σ : St} (hn : 69 ≤ n) (w x y len u : Nat) (hw : w < 14) : Ct l yX6_setsWall cX6_setsWall 6 none 0 n E [.ref (E.1 + 55), .int (nI (w)), .int (nI (x)), .int (nI (y)), .int (nI (len)), .int (nI (u))] σ (fun v' σ' => v' = none ∧ σ' = upR σ 56 (upd (upd (upd (upd (σ 56) (26 + 4 * w) (nI x)) (26 + 4 * w + 1) (nI y)) (26 + 4 * w + 2) (nI len)) (26 + 4 * w + 3) (nI u))) := by
  refine Ct.of (lv0 := [some (.ref (E.1 + 55)), some (.int (nI (w))), some (.int (nI (x))), some (.int (nI (y))), some (.int (nI (len))), some (.int (nI (u)))]) (by decide) (Nat.le_of_ble_eq_true rfl) rfl ?_
  intro X hXn hXE hXl hXL F hRt
  subst hXn hXE hXl
  have hL : ∀ i, i < 6 → i < X.nL := fun i h => by rw [hXL]; exact h
  refine j_aload_n F dX6_setsWall_0 rfl rfl ?_
  refine gX6_7 hn F dX6_setsWall_1 rfl ?_
  refine j_bipush (v := nI (26)) F dX6_setsWall_4 rfl (by decide) ?_
  refine j_iconst (v := nI (4)) F dX6_setsWall_6 rfl (by decide) ?_
  refine j_iload_n F dX6_setsWall_7 rfl rfl ?_
  refine j_imulN (a := 4) (b := w) F dX6_setsWall_8 rfl ?_
  refine j_iaddN (a := 26) (b := 4 * w) F dX6_setsWall_9 rfl ?_
  refine j_iload_n F dX6_setsWall_10 rfl rfl ?_
  refine j_iastore (a := 26 + (4 * w)) F (by omega) rfl rfl (by omega) (by decide) dX6_setsWall_11 rfl ?_
  refine j_aload_n F dX6_setsWall_12 rfl rfl ?_
  refine gX6_7 hn F dX6_setsWall_13 rfl ?_
  refine j_bipush (v := nI (26)) F dX6_setsWall_16 rfl (by decide) ?_
  refine j_iconst (v := nI (4)) F dX6_setsWall_18 rfl (by decide) ?_
  refine j_iload_n F dX6_setsWall_19 rfl rfl ?_
  refine j_imulN (a := 4) (b := w) F dX6_setsWall_20 rfl ?_
  refine j_iaddN (a := 26) (b := 4 * w) F dX6_setsWall_21 rfl ?_
  refine j_iconst (v := nI (1)) F dX6_setsWall_22 rfl (by decide) ?_
  refine j_iaddN (a := 26 + (4 * w)) (b := 1) F dX6_setsWall_23 rfl ?_
  refine j_iload_n F dX6_setsWall_24 rfl rfl ?_
  refine j_iastore (a := (26 + (4 * w)) + 1) F (by omega) rfl rfl (by omega) (by decide) dX6_setsWall_25 rfl ?_
  refine j_aload_n F dX6_setsWall_26 rfl rfl ?_
  refine gX6_7 hn F dX6_setsWall_27 rfl ?_
  refine j_bipush (v := nI (26)) F dX6_setsWall_30 rfl (by decide) ?_
  refine j_iconst (v := nI (4)) F dX6_setsWall_32 rfl (by decide) ?_
  refine j_iload_n F dX6_setsWall_33 rfl rfl ?_
  refine j_imulN (a := 4) (b := w) F dX6_setsWall_34 rfl ?_
  refine j_iaddN (a := 26) (b := 4 * w) F dX6_setsWall_35 rfl ?_
  refine j_iconst (v := nI (2)) F dX6_setsWall_36 rfl (by decide) ?_
  refine j_iaddN (a := 26 + (4 * w)) (b := 2) F dX6_setsWall_37 rfl ?_
  refine j_iload F dX6_setsWall_38 rfl rfl ?_
  refine j_iastore (a := (26 + (4 * w)) + 2) F (by omega) rfl rfl (by omega) (by decide) dX6_setsWall_40 rfl ?_
  refine j_aload_n F dX6_setsWall_41 rfl rfl ?_
  refine gX6_7 hn F dX6_setsWall_42 rfl ?_
  refine j_bipush (v := nI (26)) F dX6_setsWall_45 rfl (by decide) ?_
  refine j_iconst (v := nI (4)) F dX6_setsWall_47 rfl (by decide) ?_
  refine j_iload_n F dX6_setsWall_48 rfl rfl ?_
  refine j_imulN (a := 4) (b := w) F dX6_setsWall_49 rfl ?_
  refine j_iaddN (a := 26) (b := 4 * w) F dX6_setsWall_50 rfl ?_
  refine j_iconst (v := nI (3)) F dX6_setsWall_51 rfl (by decide) ?_
  refine j_iaddN (a := 26 + (4 * w)) (b := 3) F dX6_setsWall_52 rfl ?_
  refine j_iload F dX6_setsWall_53 rfl rfl ?_
  refine j_iastore (a := (26 + (4 * w)) + 3) F (by omega) rfl rfl (by omega) (by decide) dX6_setsWall_55 rfl ?_
  exact j_vret F hRt (⟨rfl, by simp only [up4_56]⟩) dX6_setsWall_56

set_option maxRecDepth 10000 in
set_option maxHeartbeats 2000000 in
theorem c_X6_builds {l : Launch} {n : Nat} {E : Ev} {σ : St} {A : Ab} (hn : 69 ≤ n) (hA : AI A) (hR : MR σ A) (x y len u : Int32) : Ct l yX6_builds cX6_builds 5 (some .int) 2 n E [.ref (E.1 + 55), .int (x), .int (y), .int (len), .int (u)] σ (oM σ (o_builds A x y len u)) := by
  refine Ct.of (lv0 := [some (.ref (E.1 + 55)), some (.int (x)), some (.int (y)), some (.int (len)), some (.int (u))]) (by decide) (Nat.le_of_ble_eq_true rfl) rfl ?_
  intro X hXn hXE hXl hXL F hRt
  subst hXn hXE hXl
  have hL : ∀ i, i < 5 → i < X.nL := fun i h => by rw [hXL]; exact h
  have hTh := hR.1
  have hM := hR.2.1
  have hG := hA.1
  have hBd := hG.1
  have hWl := hG.2.1
  have hLm := hG.2.2.1
  have hB0 := hBd
  obtain ⟨b1, b2, b3, b4, b5, b6, b7⟩ := hB0
  refine j_aload_n F dX6_builds_0 rfl rfl ?_
  refine j_iconst (v := nI (0)) F dX6_builds_1 rfl (by decide) ?_
  refine pX6_56 hn F dX6_builds_2 rfl ?_
  refine j_store (σ' := σ) (up_id hTh) ?_
  refine j_iload F dX6_builds_5 rfl rfl ?_
  refine j_iconst (v := nI (0)) F dX6_builds_7 rfl (by decide) ?_
  refine j_iconst (v := nI (1)) F dX6_builds_8 rfl (by decide) ?_
  refine kX6_63 F (As := [.int (u), .int (nI (0)), .int (nI (1))]) (rest := []) (c_X6_in u (nI (0)) (nI (1))) (by decide) rfl rfl (Nat.le_of_ble_eq_true rfl) dX6_builds_9 rfl (ro_k ?_)
  refine j_if_eqB F (x := decide (¬ u < (nI (0)) ∧ ¬ (nI (1)) < u)) (tgt := 75) dX6_builds_12 (by decide) rfl (fun c_12 => ?_) (fun c_12 => ?_)
  · have hz : canW A.P x y len u = false := canW_n (of_decide_eq_false c_12)
    refine j_iconst (v := (-1 : Int32)) F dX6_builds_75 rfl (by decide) ?_
    exact j_iret F hRt rfl (oM_e (if_pos hz) hR FrM.rf) dX6_builds_76
  · rcases up_01 (of_decide_eq_true c_12) with rfl | rfl
    · refine j_iload_n F dX6_builds_15 rfl rfl ?_
      refine j_iconst (v := nI (0)) F dX6_builds_16 rfl (by decide) ?_
      refine j_aload_n F dX6_builds_17 rfl rfl ?_
      refine gX6_60 hn F dX6_builds_18 rfl ?_
      refine j_int (y := nI (A.P.W)) (hM.w) ?_
      refine j_iconst (v := nI (1)) F dX6_builds_21 rfl (by decide) ?_
      refine j_isubN (a := A.P.W) (b := 1) F (by omega) dX6_builds_22 rfl ?_
      refine j_iload F dX6_builds_23 rfl rfl ?_
      refine j_iaddN (a := A.P.W - 1) (b := 0) F dX6_builds_25 rfl ?_
      refine kX6_63 F (As := [.int (x), .int (nI (0)), .int (nI ((A.P.W - 1) + 0))]) (rest := []) (c_X6_in x (nI (0)) (nI ((A.P.W - 1) + 0))) (by decide) rfl rfl (Nat.le_of_ble_eq_true rfl) dX6_builds_26 rfl (ro_k ?_)
      refine j_if_eqB F (x := decide (¬ x < (nI (0)) ∧ ¬ (nI ((A.P.W - 1) + 0)) < x)) (tgt := 75) dX6_builds_29 (by decide) rfl (fun c_29 => ?_) (fun c_29 => ?_)
      · have hz : canW A.P x y len (nI 0) = false := by rw [canW_0 hBd]; exact decide_eq_false (fun q => of_decide_eq_false c_29 q.1)
        refine j_iconst (v := (-1 : Int32)) F dX6_builds_75 rfl (by decide) ?_
        exact j_iret F hRt rfl (oM_e (if_pos hz) hR FrM.rf) dX6_builds_76
      · refine j_iload_n F dX6_builds_32 rfl rfl ?_
        refine j_iconst (v := nI (0)) F dX6_builds_33 rfl (by decide) ?_
        refine j_aload_n F dX6_builds_34 rfl rfl ?_
        refine gX6_67 hn F dX6_builds_35 rfl ?_
        refine j_int (y := nI (A.P.H)) (hM.h) ?_
        refine j_iload F dX6_builds_38 rfl rfl ?_
        refine j_isubN (a := A.P.H) (b := 0) F (by omega) dX6_builds_40 rfl ?_
        refine kX6_63 F (As := [.int (y), .int (nI (0)), .int (nI (A.P.H - 0))]) (rest := []) (c_X6_in y (nI (0)) (nI (A.P.H - 0))) (by decide) rfl rfl (Nat.le_of_ble_eq_true rfl) dX6_builds_41 rfl (ro_k ?_)
        refine j_if_eqB F (x := decide (¬ y < (nI (0)) ∧ ¬ (nI (A.P.H - 0)) < y)) (tgt := 75) dX6_builds_44 (by decide) rfl (fun c_44 => ?_) (fun c_44 => ?_)
        · have hz : canW A.P x y len (nI 0) = false := by rw [canW_0 hBd]; exact decide_eq_false (fun q => of_decide_eq_false c_44 q.2.1)
          refine j_iconst (v := (-1 : Int32)) F dX6_builds_75 rfl (by decide) ?_
          exact j_iret F hRt rfl (oM_e (if_pos hz) hR FrM.rf) dX6_builds_76
        · refine j_iload_n F dX6_builds_47 rfl rfl ?_
          refine j_iconst (v := nI (1)) F dX6_builds_48 rfl (by decide) ?_
          refine j_iload F dX6_builds_49 rfl rfl ?_
          refine j_if_neN (a := 0) F (by omega) (tgt := 63) dX6_builds_51 (by decide) rfl (fun c_51 => False.elim (by revert c_51; decide)) (fun c_51 => ?_)
          refine j_aload_n F dX6_builds_54 rfl rfl ?_
          refine gX6_60 hn F dX6_builds_55 rfl ?_
          refine j_int (y := nI (A.P.W)) (hM.w) ?_
          refine j_iload_n F dX6_builds_58 rfl rfl ?_
          refine j_isub F dX6_builds_59 rfl ?_
          refine j_goto (pc' := 69) F dX6_builds_60 (by decide) ?_
          refine kX6_63 F (As := [.int (len), .int (nI (1)), .int ((nI (A.P.W) - x))]) (rest := []) (c_X6_in len (nI (1)) ((nI (A.P.W) - x))) (by decide) rfl rfl (Nat.le_of_ble_eq_true rfl) dX6_builds_69 rfl (ro_k ?_)
          refine j_if_neB F (x := decide (¬ len < (nI (1)) ∧ ¬ ((nI (A.P.W) - x)) < len)) (tgt := 77) dX6_builds_72 (by decide) rfl (fun c_72 => ?_) (fun c_72 => ?_)
          · have hs0 : canW A.P x y len (nI 0) = true := by rw [canW_0 hBd]; exact decide_eq_true ⟨of_decide_eq_true c_29, of_decide_eq_true c_44, of_decide_eq_true c_72⟩
            obtain ⟨jx, jy, jl, ju, rfl, rfl, rfl, hju, hw1, hw2, hw3, hw4, hw5, hw6⟩ := canW_t hs0 hBd
            have hs1 : ¬ canW A.P (nI jx) (nI jy) (nI jl) (nI 0) = false := by rw [hs0]; decide
            refine j_aload_n F dX6_builds_77 rfl rfl ?_
            refine gX6_7 hn F dX6_builds_78 rfl ?_
            refine j_iconst (v := nI (1)) F dX6_builds_81 rfl (by decide) ?_
            refine j_iaload (a := 1) F (by omega) rfl rfl (by omega) (by decide) dX6_builds_82 rfl ?_
            refine j_int (y := nI (A.P.nw)) (hM.nw) ?_
            refine j_bipush (v := nI (14)) F dX6_builds_83 rfl (by decide) ?_
            refine j_icmp_neN (a := A.P.nw) (b := 14) F (by omega) (by omega) (tgt := 91) dX6_builds_85 (by decide) rfl (fun c_85 => ?_) (fun c_85 => ?_)
            · refine j_aload_n F dX6_builds_91 rfl rfl ?_
              refine kX6_221 hn F (As := []) (rest := []) (c_X6_notes hn hA hR) (by decide) rfl rfl (Nat.le_of_ble_eq_true rfl) dX6_builds_92 rfl (fun v_92 σ_92 q_92 => ?_)
              obtain ⟨rfl, hR_92, fm_92⟩ := q_92
              have hM_92 : MP σ_92 A.P := hR_92.2.1
              have hw_92 := hM_92.2.2
              refine j_aload_n F dX6_builds_95 rfl rfl ?_
              refine j_aload_n F dX6_builds_96 rfl rfl ?_
              refine gX6_7 hn F dX6_builds_97 rfl ?_
              refine j_iconst (v := nI (1)) F dX6_builds_100 rfl (by decide) ?_
              refine j_iaload (a := 1) F (by omega) rfl rfl (by omega) (by decide) dX6_builds_101 rfl ?_
              refine j_int (y := nI (A.P.nw)) (hM_92.nw) ?_
              refine j_iload_n F dX6_builds_102 rfl rfl ?_
              refine j_iload_n F dX6_builds_103 rfl rfl ?_
              refine j_iload_n F dX6_builds_104 rfl rfl ?_
              refine j_iload F dX6_builds_105 rfl rfl ?_
              refine kX6_122 hn F (As := [.int (nI (A.P.nw)), .int (nI (jx)), .int (nI (jy)), .int (nI (jl)), .int (nI (0))]) (rest := []) (c_X6_setsWall hn A.P.nw jx jy jl 0 (by omega)) (by decide) rfl rfl (Nat.le_of_ble_eq_true rfl) dX6_builds_107 rfl (fun v_107 σ_107 q_107 => ?_)
              obtain ⟨rfl, rfl⟩ := q_107
              refine j_aload_n F dX6_builds_110 rfl rfl ?_
              refine gX6_7 hn F dX6_builds_111 rfl ?_
              refine j_iconst (v := nI (1)) F dX6_builds_114 rfl (by decide) ?_
              refine j_dup2 F dX6_builds_115 rfl rfl rfl ?_
              refine j_iaload (a := 1) F (by omega) rfl rfl (by omega) (by decide) dX6_builds_116 rfl ?_
              refine j_int (y := nI (A.P.nw)) (by rw [upR_s, upd_n _ _ (by omega), upd_n _ _ (by omega), upd_n _ _ (by omega), upd_n _ _ (by omega)]; exact hM_92.nw) ?_
              refine j_iconst (v := nI (1)) F dX6_builds_117 rfl (by decide) ?_
              refine j_iaddN (a := A.P.nw) (b := 1) F dX6_builds_118 rfl ?_
              refine j_iastore (a := 1) F (by omega) rfl rfl (by omega) (by decide) dX6_builds_119 rfl ?_
              refine j_aload_n F dX6_builds_120 rfl rfl ?_
              refine gX6_7 hn F dX6_builds_121 rfl ?_
              refine j_iconst (v := nI (1)) F dX6_builds_124 rfl (by decide) ?_
              refine j_iaload (a := 1) F (by omega) rfl rfl (by omega) (by decide) dX6_builds_125 rfl ?_
              refine j_int (y := nI (A.P.nw + 1)) (by simp only [up, upR_s, upd_s]) ?_
              exact j_iret F hRt rfl (oM_e (show o_builds A (nI jx) (nI jy) (nI jl) (nI 0) = (nI (A.P.nw + 1), A.setP (A.P.addW jx jy jl 0)) by unfold o_builds; rw [if_neg hs1, if_neg (by omega), tn_n (by omega), tn_n (by omega), tn_n (by omega), tn_n (by omega)]) (MR_P hR_92 (fun a ha => by rw [up, upR_n _ _ ha, upR_n _ _ ha]) rfl rfl (by rw [up, upR_s, upR_s]; exact RwM_addW hw_92 b7)) (FrM.put (fm_92.tr (fun a ha => upR_n _ _ (by omega))) (by decide))) dX6_builds_126
            · refine j_bipush (v := (-3 : Int32)) F dX6_builds_88 rfl (by decide) ?_
              exact j_iret F hRt rfl (oM_e (show o_builds A (nI jx) (nI jy) (nI jl) (nI 0) = (-3, A) by unfold o_builds; rw [if_neg hs1, if_pos (by omega)]) hR FrM.rf) dX6_builds_90
          · have hz : canW A.P x y len (nI 0) = false := by rw [canW_0 hBd]; exact decide_eq_false (fun q => of_decide_eq_false c_72 q.2.2)
            refine j_iconst (v := (-1 : Int32)) F dX6_builds_75 rfl (by decide) ?_
            exact j_iret F hRt rfl (oM_e (if_pos hz) hR FrM.rf) dX6_builds_76
    · refine j_iload_n F dX6_builds_15 rfl rfl ?_
      refine j_iconst (v := nI (0)) F dX6_builds_16 rfl (by decide) ?_
      refine j_aload_n F dX6_builds_17 rfl rfl ?_
      refine gX6_60 hn F dX6_builds_18 rfl ?_
      refine j_int (y := nI (A.P.W)) (hM.w) ?_
      refine j_iconst (v := nI (1)) F dX6_builds_21 rfl (by decide) ?_
      refine j_isubN (a := A.P.W) (b := 1) F (by omega) dX6_builds_22 rfl ?_
      refine j_iload F dX6_builds_23 rfl rfl ?_
      refine j_iaddN (a := A.P.W - 1) (b := 1) F dX6_builds_25 rfl ?_
      refine kX6_63 F (As := [.int (x), .int (nI (0)), .int (nI ((A.P.W - 1) + 1))]) (rest := []) (c_X6_in x (nI (0)) (nI ((A.P.W - 1) + 1))) (by decide) rfl rfl (Nat.le_of_ble_eq_true rfl) dX6_builds_26 rfl (ro_k ?_)
      refine j_if_eqB F (x := decide (¬ x < (nI (0)) ∧ ¬ (nI ((A.P.W - 1) + 1)) < x)) (tgt := 75) dX6_builds_29 (by decide) rfl (fun c_29 => ?_) (fun c_29 => ?_)
      · have hz : canW A.P x y len (nI 1) = false := by rw [canW_1 hBd]; exact decide_eq_false (fun q => of_decide_eq_false c_29 q.1)
        refine j_iconst (v := (-1 : Int32)) F dX6_builds_75 rfl (by decide) ?_
        exact j_iret F hRt rfl (oM_e (if_pos hz) hR FrM.rf) dX6_builds_76
      · refine j_iload_n F dX6_builds_32 rfl rfl ?_
        refine j_iconst (v := nI (0)) F dX6_builds_33 rfl (by decide) ?_
        refine j_aload_n F dX6_builds_34 rfl rfl ?_
        refine gX6_67 hn F dX6_builds_35 rfl ?_
        refine j_int (y := nI (A.P.H)) (hM.h) ?_
        refine j_iload F dX6_builds_38 rfl rfl ?_
        refine j_isubN (a := A.P.H) (b := 1) F (by omega) dX6_builds_40 rfl ?_
        refine kX6_63 F (As := [.int (y), .int (nI (0)), .int (nI (A.P.H - 1))]) (rest := []) (c_X6_in y (nI (0)) (nI (A.P.H - 1))) (by decide) rfl rfl (Nat.le_of_ble_eq_true rfl) dX6_builds_41 rfl (ro_k ?_)
        refine j_if_eqB F (x := decide (¬ y < (nI (0)) ∧ ¬ (nI (A.P.H - 1)) < y)) (tgt := 75) dX6_builds_44 (by decide) rfl (fun c_44 => ?_) (fun c_44 => ?_)
        · have hz : canW A.P x y len (nI 1) = false := by rw [canW_1 hBd]; exact decide_eq_false (fun q => of_decide_eq_false c_44 q.2.1)
          refine j_iconst (v := (-1 : Int32)) F dX6_builds_75 rfl (by decide) ?_
          exact j_iret F hRt rfl (oM_e (if_pos hz) hR FrM.rf) dX6_builds_76
        · refine j_iload_n F dX6_builds_47 rfl rfl ?_
          refine j_iconst (v := nI (1)) F dX6_builds_48 rfl (by decide) ?_
          refine j_iload F dX6_builds_49 rfl rfl ?_
          refine j_if_neN (a := 1) F (by omega) (tgt := 63) dX6_builds_51 (by decide) rfl (fun c_51 => ?_) (fun c_51 => False.elim (by revert c_51; decide))
          refine j_aload_n F dX6_builds_63 rfl rfl ?_
          refine gX6_67 hn F dX6_builds_64 rfl ?_
          refine j_int (y := nI (A.P.H)) (hM.h) ?_
          refine j_iload_n F dX6_builds_67 rfl rfl ?_
          refine j_isub F dX6_builds_68 rfl ?_
          refine kX6_63 F (As := [.int (len), .int (nI (1)), .int ((nI (A.P.H) - y))]) (rest := []) (c_X6_in len (nI (1)) ((nI (A.P.H) - y))) (by decide) rfl rfl (Nat.le_of_ble_eq_true rfl) dX6_builds_69 rfl (ro_k ?_)
          refine j_if_neB F (x := decide (¬ len < (nI (1)) ∧ ¬ ((nI (A.P.H) - y)) < len)) (tgt := 77) dX6_builds_72 (by decide) rfl (fun c_72 => ?_) (fun c_72 => ?_)
          · have hs0 : canW A.P x y len (nI 1) = true := by rw [canW_1 hBd]; exact decide_eq_true ⟨of_decide_eq_true c_29, of_decide_eq_true c_44, of_decide_eq_true c_72⟩
            obtain ⟨jx, jy, jl, ju, rfl, rfl, rfl, hju, hw1, hw2, hw3, hw4, hw5, hw6⟩ := canW_t hs0 hBd
            have hs1 : ¬ canW A.P (nI jx) (nI jy) (nI jl) (nI 1) = false := by rw [hs0]; decide
            refine j_aload_n F dX6_builds_77 rfl rfl ?_
            refine gX6_7 hn F dX6_builds_78 rfl ?_
            refine j_iconst (v := nI (1)) F dX6_builds_81 rfl (by decide) ?_
            refine j_iaload (a := 1) F (by omega) rfl rfl (by omega) (by decide) dX6_builds_82 rfl ?_
            refine j_int (y := nI (A.P.nw)) (hM.nw) ?_
            refine j_bipush (v := nI (14)) F dX6_builds_83 rfl (by decide) ?_
            refine j_icmp_neN (a := A.P.nw) (b := 14) F (by omega) (by omega) (tgt := 91) dX6_builds_85 (by decide) rfl (fun c_85 => ?_) (fun c_85 => ?_)
            · refine j_aload_n F dX6_builds_91 rfl rfl ?_
              refine kX6_221 hn F (As := []) (rest := []) (c_X6_notes hn hA hR) (by decide) rfl rfl (Nat.le_of_ble_eq_true rfl) dX6_builds_92 rfl (fun v_92 σ_92 q_92 => ?_)
              obtain ⟨rfl, hR_92, fm_92⟩ := q_92
              have hM_92 : MP σ_92 A.P := hR_92.2.1
              have hw_92 := hM_92.2.2
              refine j_aload_n F dX6_builds_95 rfl rfl ?_
              refine j_aload_n F dX6_builds_96 rfl rfl ?_
              refine gX6_7 hn F dX6_builds_97 rfl ?_
              refine j_iconst (v := nI (1)) F dX6_builds_100 rfl (by decide) ?_
              refine j_iaload (a := 1) F (by omega) rfl rfl (by omega) (by decide) dX6_builds_101 rfl ?_
              refine j_int (y := nI (A.P.nw)) (hM_92.nw) ?_
              refine j_iload_n F dX6_builds_102 rfl rfl ?_
              refine j_iload_n F dX6_builds_103 rfl rfl ?_
              refine j_iload_n F dX6_builds_104 rfl rfl ?_
              refine j_iload F dX6_builds_105 rfl rfl ?_
              refine kX6_122 hn F (As := [.int (nI (A.P.nw)), .int (nI (jx)), .int (nI (jy)), .int (nI (jl)), .int (nI (1))]) (rest := []) (c_X6_setsWall hn A.P.nw jx jy jl 1 (by omega)) (by decide) rfl rfl (Nat.le_of_ble_eq_true rfl) dX6_builds_107 rfl (fun v_107 σ_107 q_107 => ?_)
              obtain ⟨rfl, rfl⟩ := q_107
              refine j_aload_n F dX6_builds_110 rfl rfl ?_
              refine gX6_7 hn F dX6_builds_111 rfl ?_
              refine j_iconst (v := nI (1)) F dX6_builds_114 rfl (by decide) ?_
              refine j_dup2 F dX6_builds_115 rfl rfl rfl ?_
              refine j_iaload (a := 1) F (by omega) rfl rfl (by omega) (by decide) dX6_builds_116 rfl ?_
              refine j_int (y := nI (A.P.nw)) (by rw [upR_s, upd_n _ _ (by omega), upd_n _ _ (by omega), upd_n _ _ (by omega), upd_n _ _ (by omega)]; exact hM_92.nw) ?_
              refine j_iconst (v := nI (1)) F dX6_builds_117 rfl (by decide) ?_
              refine j_iaddN (a := A.P.nw) (b := 1) F dX6_builds_118 rfl ?_
              refine j_iastore (a := 1) F (by omega) rfl rfl (by omega) (by decide) dX6_builds_119 rfl ?_
              refine j_aload_n F dX6_builds_120 rfl rfl ?_
              refine gX6_7 hn F dX6_builds_121 rfl ?_
              refine j_iconst (v := nI (1)) F dX6_builds_124 rfl (by decide) ?_
              refine j_iaload (a := 1) F (by omega) rfl rfl (by omega) (by decide) dX6_builds_125 rfl ?_
              refine j_int (y := nI (A.P.nw + 1)) (by simp only [up, upR_s, upd_s]) ?_
              exact j_iret F hRt rfl (oM_e (show o_builds A (nI jx) (nI jy) (nI jl) (nI 1) = (nI (A.P.nw + 1), A.setP (A.P.addW jx jy jl 1)) by unfold o_builds; rw [if_neg hs1, if_neg (by omega), tn_n (by omega), tn_n (by omega), tn_n (by omega), tn_n (by omega)]) (MR_P hR_92 (fun a ha => by rw [up, upR_n _ _ ha, upR_n _ _ ha]) rfl rfl (by rw [up, upR_s, upR_s]; exact RwM_addW hw_92 b7)) (FrM.put (fm_92.tr (fun a ha => upR_n _ _ (by omega))) (by decide))) dX6_builds_126
            · refine j_bipush (v := (-3 : Int32)) F dX6_builds_88 rfl (by decide) ?_
              exact j_iret F hRt rfl (oM_e (show o_builds A (nI jx) (nI jy) (nI jl) (nI 1) = (-3, A) by unfold o_builds; rw [if_neg hs1, if_pos (by omega)]) hR FrM.rf) dX6_builds_90
          · have hz : canW A.P x y len (nI 1) = false := by rw [canW_1 hBd]; exact decide_eq_false (fun q => of_decide_eq_false c_72 q.2.2)
            refine j_iconst (v := (-1 : Int32)) F dX6_builds_75 rfl (by decide) ?_
            exact j_iret F hRt rfl (oM_e (if_pos hz) hR FrM.rf) dX6_builds_76

set_option maxRecDepth 10000 in
set_option maxHeartbeats 2000000 in
theorem c_X6_undo {l : Launch} {n : Nat} {E : Ev} {σ : St} {A : Ab} (hn : 69 ≤ n) (hA : AI A) (hR : MR σ A) : Ct l yX6_undo cX6_undo 2 (some .int) 0 n E [.ref (E.1 + 55)] σ (oM σ (o_undo A)) := by
  refine Ct.of (lv0 := [some (.ref (E.1 + 55)), none]) (by decide) (Nat.le_of_ble_eq_true rfl) rfl ?_
  intro X hXn hXE hXl hXL F hRt
  subst hXn hXE hXl
  have hL : ∀ i, i < 2 → i < X.nL := fun i h => by rw [hXL]; exact h
  have hTh := hR.1
  have hM := hR.2.1
  have hG := hA.1
  have hBd := hG.1
  have hWl := hG.2.1
  have hLm := hG.2.2.1
  have hB0 := hBd
  obtain ⟨b1, b2, b3, b4, b5, b6, b7⟩ := hB0
  have hh10 := hR.2.2.2.1.2.1
  refine j_aload_n F dX6_undo_0 rfl rfl ?_
  refine j_iconst (v := nI (0)) F dX6_undo_1 rfl (by decide) ?_
  refine pX6_56 hn F dX6_undo_2 rfl ?_
  refine j_store (σ' := σ) (up_id hTh) ?_
  refine j_aload_n F dX6_undo_5 rfl rfl ?_
  refine gX6_126 hn F dX6_undo_6 rfl ?_
  refine j_int (y := nI (A.hs.length)) (hR.2.2.2.1.1) ?_
  refine j_if_neN (a := A.hs.length) F (by omega) (tgt := 15) dX6_undo_9 (by decide) rfl (fun c_9 => ?_) (fun c_9 => ?_)
  · obtain ⟨Q, r0, hq⟩ : ∃ Q r0, A.hs = Q :: r0 := by cases hh : A.hs with | nil => rw [hh] at c_9; exact absurd rfl c_9 | cons Q r0 => exact ⟨Q, r0, rfl⟩
    have hQ := hA.2.1 Q (by rw [hq]; exact List.mem_cons_self)
    have hln : A.hs.length = r0.length + 1 := by rw [hq]; rfl
    refine j_aload_n F dX6_undo_15 rfl rfl ?_
    refine j_dup F dX6_undo_16 rfl rfl ?_
    refine gX6_126 hn F dX6_undo_17 rfl ?_
    refine j_int (y := nI (A.hs.length)) (hR.2.2.2.1.1) ?_
    refine j_iconst (v := nI (1)) F dX6_undo_20 rfl (by decide) ?_
    refine j_isubN (a := A.hs.length) (b := 1) F (by omega) dX6_undo_21 rfl ?_
    refine j_int (y := nI (r0.length)) (congrArg nI (by omega)) ?_
    refine pX6_126 hn F dX6_undo_22 rfl ?_
    refine j_iconst (v := nI (0)) F dX6_undo_25 rfl (by decide) ?_
    refine j_istore_n (lv' := [some (.ref (X.E.1 + 55)), some (.int (nI (0)))]) F dX6_undo_26 rfl (hL _ (by decide)) rfl rfl ?_
    refine j_store (σ' := upR (up σ 55 5 (nI r0.length)) 56 (cpR (σ 56) (fun z => σ 57 (82 * r0.length + z)) 0 0)) (by rw [cpR_0, show σ 56 = up σ 55 5 (nI r0.length) 56 from (upR_n _ _ (by decide)).symm, upR_id]) ?_
    have loop_27 : ∀ (kk : Nat), kk ≤ 82 → J X 27 [some (.ref (X.E.1 + 55)), some (.int (nI (kk)))] [] (upR (up σ 55 5 (nI r0.length)) 56 (cpR (σ 56) (fun z => σ 57 (82 * r0.length + z)) 0 kk)) := by
      refine dnL (fun kk hkk ih_27 => ?_)
      refine j_iload_n F dX6_undo_27 rfl rfl ?_
      refine j_bipush (v := nI (82)) F dX6_undo_28 rfl (by decide) ?_
      refine j_icmp_geN (a := kk) (b := 82) F (by omega) (by omega) (tgt := 59) dX6_undo_30 (by decide) rfl (fun c_30 => ?_) (fun c_30 => ?_)
      · have hkN : kk = 82 := by omega
        refine j_aload_n F dX6_undo_59 rfl rfl ?_
        refine gX6_126 hn F dX6_undo_60 rfl ?_
        refine j_int (y := nI (r0.length)) (by rw [upR_n _ _ (by decide), up, upR_s, upd_s]) ?_
        exact j_iret F hRt rfl (oM_e (show o_undo A = (nI r0.length, (Q, A.t, A.m, r0, A.im, A.sn)) by unfold o_undo; rw [hq]) (by rw [hkN]; exact und_end hR hq hQ.1.1 hQ.2.1 hQ.2.2) (fun a ha => by rw [upR_n _ _ (by omega), up, upR_n _ _ (by omega)])) dX6_undo_63
      · refine j_aload_n F dX6_undo_33 rfl rfl ?_
        refine gX6_7 hn F dX6_undo_34 rfl ?_
        refine j_iload_n F dX6_undo_37 rfl rfl ?_
        refine j_aload_n F dX6_undo_38 rfl rfl ?_
        refine gX6_13 hn F dX6_undo_39 rfl ?_
        refine j_bipush (v := nI (82)) F dX6_undo_42 rfl (by decide) ?_
        refine j_aload_n F dX6_undo_44 rfl rfl ?_
        refine gX6_126 hn F dX6_undo_45 rfl ?_
        refine j_int (y := nI (r0.length)) (by rw [upR_n _ _ (by decide), up, upR_s, upd_s]) ?_
        refine j_imulN (a := 82) (b := r0.length) F dX6_undo_48 rfl ?_
        refine j_iload_n F dX6_undo_49 rfl rfl ?_
        refine j_iaddN (a := 82 * r0.length) (b := kk) F dX6_undo_50 rfl ?_
        refine j_iaload (a := (82 * r0.length) + kk) F (by omega) rfl rfl (by omega) (by decide) dX6_undo_51 rfl ?_
        refine j_iastore (a := kk) F (by omega) rfl rfl (by omega) (by decide) dX6_undo_52 rfl ?_
        refine j_store (σ' := upR (up σ 55 5 (nI r0.length)) 56 (cpR (σ 56) (fun z => σ 57 (82 * r0.length + z)) 0 (kk + 1))) (und_s _ _ _ _ _) ?_
        refine j_iincN (a := kk) (c := 1) (lv' := [some (.ref (X.E.1 + 55)), some (.int (nI (kk + 1)))]) F dX6_undo_53 rfl rfl (by decide) (hL _ (by decide)) rfl rfl ?_
        refine j_goto (pc' := 27) F dX6_undo_56 (by decide) ?_
        exact ih_27 (by omega)  
    exact loop_27 0 (by omega)  
  · have hz : A.hs = [] := List.length_eq_zero_iff.mp (by omega)
    refine j_bipush (v := (-2 : Int32)) F dX6_undo_12 rfl (by decide) ?_
    exact j_iret F hRt rfl (oM_e (show o_undo A = (-2, A) by unfold o_undo; rw [hz]) hR FrM.rf) dX6_undo_14

set_option maxRecDepth 10000 in
set_option maxHeartbeats 2000000 in
theorem c_X6_sees {l : Launch} {n : Nat} {E : Ev} {σ : St} {A : Ab} (hn : 69 ≤ n) (hA : AI A) (hR : MR σ A) (x y z : Int32) : Ct l yX6_sees cX6_sees 4 (some .int) 2 n E [.ref (E.1 + 55), .int (x), .int (y), .int (z)] σ (oM σ (o_sees A x y z)) := by
  refine Ct.of (lv0 := [some (.ref (E.1 + 55)), some (.int (x)), some (.int (y)), some (.int (z))]) (by decide) (Nat.le_of_ble_eq_true rfl) rfl ?_
  intro X hXn hXE hXl hXL F hRt
  subst hXn hXE hXl
  have hL : ∀ i, i < 4 → i < X.nL := fun i h => by rw [hXL]; exact h
  have hTh := hR.1
  have hM := hR.2.1
  have hG := hA.1
  have hBd := hG.1
  have hWl := hG.2.1
  have hLm := hG.2.2.1
  have hB0 := hBd
  obtain ⟨b1, b2, b3, b4, b5, b6, b7⟩ := hB0
  refine j_aload_n F dX6_sees_0 rfl rfl ?_
  refine j_iconst (v := nI (0)) F dX6_sees_1 rfl (by decide) ?_
  refine pX6_56 hn F dX6_sees_2 rfl ?_
  refine j_store (σ' := σ) (up_id hTh) ?_
  refine j_aload_n F dX6_sees_5 rfl rfl ?_
  refine j_iload_n F dX6_sees_6 rfl rfl ?_
  refine j_iload_n F dX6_sees_7 rfl rfl ?_
  refine kX6_163 hn F (As := [.int (x), .int (y)]) (rest := []) (c_X6_isSpot hn hM hBd x y) (by decide) rfl rfl (Nat.le_of_ble_eq_true rfl) dX6_sees_8 rfl (ro_k ?_)
  refine j_if_eqB F (x := inR x A.P.W && inR y A.P.H) (tgt := 23) dX6_sees_11 (by decide) rfl (fun c_11 => ?_) (fun c_11 => ?_)
  · have hz : ¬ ((inR x A.P.W && inR y A.P.H) = true ∧ ¬ z < 0 ∧ z ≤ nI 1) := fun q => by rw [c_11] at q; exact absurd q.1 (by decide)
    refine j_iconst (v := (-1 : Int32)) F dX6_sees_23 rfl (by decide) ?_
    exact j_iret F hRt rfl (oM_e (if_pos hz) hR FrM.rf) dX6_sees_24
  · refine j_iload_n F dX6_sees_14 rfl rfl ?_
    refine j_iconst (v := nI (0)) F dX6_sees_15 rfl (by decide) ?_
    refine j_iconst (v := nI (1)) F dX6_sees_16 rfl (by decide) ?_
    refine kX6_63 F (As := [.int (z), .int (nI (0)), .int (nI (1))]) (rest := []) (c_X6_in z (nI (0)) (nI (1))) (by decide) rfl rfl (Nat.le_of_ble_eq_true rfl) dX6_sees_17 rfl (ro_k ?_)
    refine j_int (y := bI (decide (¬ z < 0 ∧ z ≤ nI 1))) (congrArg bI (in_k (by decide))) ?_
    refine j_if_neB F (x := decide (¬ z < 0 ∧ z ≤ nI 1)) (tgt := 25) dX6_sees_20 (by decide) rfl (fun c_20 => ?_) (fun c_20 => ?_)
    · have hxx := of_decide_eq_true c_20
      have hz : (inR x A.P.W && inR y A.P.H) = true ∧ ¬ z < 0 ∧ z ≤ nI 1 := ⟨c_11, hxx⟩
      obtain ⟨hsx, hsy⟩ := and_t c_11
      obtain ⟨j, hj, rfl⟩ := inR_t hsx (by omega)
      obtain ⟨i, hi, rfl⟩ := inR_t hsy (by omega)
      obtain ⟨k, hk, rfl⟩ := rg_le hxx.1 hxx.2 (by decide)
      have hs6 := hA.2.2.2.1
      refine j_aload_n F dX6_sees_25 rfl rfl ?_
      refine gX6_129 hn F dX6_sees_26 rfl ?_
      refine j_int (y := nI (A.sn.length)) (hR.2.2.2.2.2.1) ?_
      refine j_bipush (v := nI (6)) F dX6_sees_29 rfl (by decide) ?_
      refine j_icmp_neN (a := A.sn.length) (b := 6) F (by omega) (by omega) (tgt := 37) dX6_sees_31 (by decide) rfl (fun c_31 => ?_) (fun c_31 => ?_)
      · refine j_aload_n F dX6_sees_37 rfl rfl ?_
        refine gX6_23 hn F dX6_sees_38 rfl ?_
        refine j_aload_n F dX6_sees_41 rfl rfl ?_
        refine gX6_129 hn F dX6_sees_42 rfl ?_
        refine j_int (y := nI (A.sn.length)) (hR.2.2.2.2.2.1) ?_
        refine j_iload_n F dX6_sees_45 rfl rfl ?_
        refine j_iastore (a := A.sn.length) F (by omega) rfl rfl (by omega) (by decide) dX6_sees_46 rfl ?_
        refine j_aload_n F dX6_sees_47 rfl rfl ?_
        refine gX6_26 hn F dX6_sees_48 rfl ?_
        refine j_aload_n F dX6_sees_51 rfl rfl ?_
        refine gX6_129 hn F dX6_sees_52 rfl ?_
        refine j_int (y := nI (A.sn.length)) (by simp only [up, upR_n _ _ (show (55 : Nat) ≠ 60 by decide), upR_n _ _ (show (55 : Nat) ≠ 61 by decide), upR_n _ _ (show (55 : Nat) ≠ 62 by decide)]; exact hR.2.2.2.2.2.1) ?_
        refine j_iload_n F dX6_sees_55 rfl rfl ?_
        refine j_iastore (a := A.sn.length) F (by omega) rfl rfl (by omega) (by decide) dX6_sees_56 rfl ?_
        refine j_aload_n F dX6_sees_57 rfl rfl ?_
        refine gX6_29 hn F dX6_sees_58 rfl ?_
        refine j_aload_n F dX6_sees_61 rfl rfl ?_
        refine gX6_129 hn F dX6_sees_62 rfl ?_
        refine j_int (y := nI (A.sn.length)) (by simp only [up, upR_n _ _ (show (55 : Nat) ≠ 60 by decide), upR_n _ _ (show (55 : Nat) ≠ 61 by decide), upR_n _ _ (show (55 : Nat) ≠ 62 by decide)]; exact hR.2.2.2.2.2.1) ?_
        refine j_iload_n F dX6_sees_65 rfl rfl ?_
        refine j_iastore (a := A.sn.length) F (by omega) rfl rfl (by omega) (by decide) dX6_sees_66 rfl ?_
        refine j_aload_n F dX6_sees_67 rfl rfl ?_
        refine j_dup F dX6_sees_68 rfl rfl ?_
        refine gX6_129 hn F dX6_sees_69 rfl ?_
        refine j_int (y := nI (A.sn.length)) (by simp only [up, upR_n _ _ (show (55 : Nat) ≠ 60 by decide), upR_n _ _ (show (55 : Nat) ≠ 61 by decide), upR_n _ _ (show (55 : Nat) ≠ 62 by decide)]; exact hR.2.2.2.2.2.1) ?_
        refine j_iconst (v := nI (1)) F dX6_sees_72 rfl (by decide) ?_
        refine j_iaddN (a := A.sn.length) (b := 1) F dX6_sees_73 rfl ?_
        refine pX6_129 hn F dX6_sees_74 rfl ?_
        refine j_aload_n F dX6_sees_77 rfl rfl ?_
        refine gX6_129 hn F dX6_sees_78 rfl ?_
        refine j_int (y := nI (A.sn.length + 1)) (by simp only [up, upR_s, upd_s]) ?_
        exact j_iret F hRt rfl (oM_e (show o_sees A (nI j) (nI i) (nI k) = (nI (A.sn.length + 1), (A.P, A.t, A.m, A.hs, A.im, A.sn ++ [(j, i, k)])) by unfold o_sees; rw [if_neg (fun q => q hz), if_neg (by omega), tn_n (by omega), tn_n (by omega), tn_n (by omega)]) (MR_S hR (fun i hi => by simp only [up, upR_s, upR_n _ _ (show (55 : Nat) ≠ 60 by decide), upR_n _ _ (show (55 : Nat) ≠ 61 by decide), upR_n _ _ (show (55 : Nat) ≠ 62 by decide)]; exact upd_n _ _ hi) (fun a h1 h2 h3 h4 => by simp only [up, upR_n _ _ h1, upR_n _ _ h2, upR_n _ _ h3, upR_n _ _ h4]) (MSn_push hR.2.2.2.2.2)) (FrM.put (FrM.put (FrM.put (FrM.put FrM.rf (by decide)) (by decide)) (by decide)) (by decide))) dX6_sees_81
      · refine j_bipush (v := (-3 : Int32)) F dX6_sees_34 rfl (by decide) ?_
        exact j_iret F hRt rfl (oM_e (show o_sees A (nI j) (nI i) (nI k) = (-3, A) by unfold o_sees; rw [if_neg (fun q => q hz), if_pos (by omega)]) hR FrM.rf) dX6_sees_36
    · have hz : ¬ ((inR x A.P.W && inR y A.P.H) = true ∧ ¬ z < 0 ∧ z ≤ nI 1) := fun q => of_decide_eq_false c_20 q.2
      refine j_iconst (v := (-1 : Int32)) F dX6_sees_23 rfl (by decide) ?_
      exact j_iret F hRt rfl (oM_e (if_pos hz) hR FrM.rf) dX6_sees_24

set_option maxRecDepth 10000 in
set_option maxHeartbeats 2000000 in
theorem c_X6_keep {l : Launch} {n : Nat} {E : Ev} {σ : St} {A : Ab} (hn : 69 ≤ n) (hA : AI A) (hR : MR σ A) (x : Int32) : Ct l yX6_keep cX6_keep 3 (some .int) 1 n E [.ref (E.1 + 55), .int (x)] σ (oM σ (o_keep A x)) := by
  refine Ct.of (lv0 := [some (.ref (E.1 + 55)), some (.int (x)), none]) (by decide) (Nat.le_of_ble_eq_true rfl) rfl ?_
  intro X hXn hXE hXl hXL F hRt
  subst hXn hXE hXl
  have hL : ∀ i, i < 3 → i < X.nL := fun i h => by rw [hXL]; exact h
  have hTh := hR.1
  have hM := hR.2.1
  have hG := hA.1
  have hBd := hG.1
  have hWl := hG.2.1
  have hLm := hG.2.2.1
  have hB0 := hBd
  obtain ⟨b1, b2, b3, b4, b5, b6, b7⟩ := hB0
  refine j_aload_n F dX6_keep_0 rfl rfl ?_
  refine j_iconst (v := nI (0)) F dX6_keep_1 rfl (by decide) ?_
  refine pX6_56 hn F dX6_keep_2 rfl ?_
  refine j_store (σ' := σ) (up_id hTh) ?_
  refine j_iload_n F dX6_keep_5 rfl rfl ?_
  refine j_iconst (v := nI (0)) F dX6_keep_6 rfl (by decide) ?_
  refine j_iconst (v := nI (1)) F dX6_keep_7 rfl (by decide) ?_
  refine kX6_63 F (As := [.int (x), .int (nI (0)), .int (nI (1))]) (rest := []) (c_X6_in x (nI (0)) (nI (1))) (by decide) rfl rfl (Nat.le_of_ble_eq_true rfl) dX6_keep_8 rfl (ro_k ?_)
  refine j_int (y := bI (decide (¬ x < 0 ∧ x < nI 2))) (congrArg bI (in_lt (k := 1) (by decide))) ?_
  refine j_if_neB F (x := decide (¬ x < 0 ∧ x < nI 2)) (tgt := 16) dX6_keep_11 (by decide) rfl (fun c_11 => ?_) (fun c_11 => ?_)
  · have hz : ¬ x < 0 ∧ x < nI 2 := of_decide_eq_true c_11
    obtain ⟨j, hj, rfl⟩ := rg_lt hz.1 hz.2 (by decide)
    refine j_iconst (v := nI (0)) F dX6_keep_16 rfl (by decide) ?_
    refine j_istore_n (lv' := [some (.ref (X.E.1 + 55)), some (.int (nI (j))), some (.int (nI (0)))]) F dX6_keep_17 rfl (hL _ (by decide)) rfl rfl ?_
    refine j_store (σ' := upR σ 58 (cpR (σ 58) (σ 56) (82 * j) 0)) (by rw [cpR_0, upR_id]) ?_
    have loop_18 : ∀ (kk : Nat), kk ≤ 82 → J X 18 [some (.ref (X.E.1 + 55)), some (.int (nI (j))), some (.int (nI (kk)))] [] (upR σ 58 (cpR (σ 58) (σ 56) (82 * j) kk)) := by
      refine dnL (fun kk hkk ih_18 => ?_)
      refine j_iload_n F dX6_keep_18 rfl rfl ?_
      refine j_bipush (v := nI (82)) F dX6_keep_19 rfl (by decide) ?_
      refine j_icmp_geN (a := kk) (b := 82) F (by omega) (by omega) (tgt := 47) dX6_keep_21 (by decide) rfl (fun c_21 => ?_) (fun c_21 => ?_)
      · have hkN : kk = 82 := by omega
        refine j_aload_n F dX6_keep_47 rfl rfl ?_
        refine gX6_19 hn F dX6_keep_48 rfl ?_
        refine j_iload_n F dX6_keep_51 rfl rfl ?_
        refine j_iconst (v := nI (1)) F dX6_keep_52 rfl (by decide) ?_
        refine j_bastore (a := j) F (by omega) rfl rfl (by omega) (by decide) rfl dX6_keep_53 rfl ?_
        refine j_aload_n F dX6_keep_54 rfl rfl ?_
        refine gX6_7 hn F dX6_keep_55 rfl ?_
        refine j_iconst (v := nI (0)) F dX6_keep_58 rfl (by decide) ?_
        refine j_iaload (a := 0) F (by omega) rfl rfl (by omega) (by decide) dX6_keep_59 rfl ?_
        refine j_int (y := nI (A.P.nl)) (by rw [up, upR_n _ _ (by decide), upR_n _ _ (by decide)]; exact hM.nl) ?_
        exact j_iret F hRt rfl (oM_e (show o_keep A (nI j) = (nI A.P.nl, (A.P, A.t, A.m, A.hs, fun i => if i = j then some A.P else A.im i, A.sn)) by unfold o_keep; rw [if_neg (fun q => q hz), tn_n (by omega)]) (by rw [hkN]; exact MR_keep hR hA hj) (FrM.put (fun a ha => upR_n _ _ (by omega)) (by decide))) dX6_keep_60
      · refine j_aload_n F dX6_keep_24 rfl rfl ?_
        refine gX6_16 hn F dX6_keep_25 rfl ?_
        refine j_bipush (v := nI (82)) F dX6_keep_28 rfl (by decide) ?_
        refine j_iload_n F dX6_keep_30 rfl rfl ?_
        refine j_imulN (a := 82) (b := j) F dX6_keep_31 rfl ?_
        refine j_iload_n F dX6_keep_32 rfl rfl ?_
        refine j_iaddN (a := 82 * j) (b := kk) F dX6_keep_33 rfl ?_
        refine j_aload_n F dX6_keep_34 rfl rfl ?_
        refine gX6_7 hn F dX6_keep_35 rfl ?_
        refine j_iload_n F dX6_keep_38 rfl rfl ?_
        refine j_iaload (a := kk) F (by omega) rfl rfl (by omega) (by decide) dX6_keep_39 rfl ?_
        refine j_iastore (a := (82 * j) + kk) F (by omega) rfl rfl (by omega) (by decide) dX6_keep_40 rfl ?_
        refine j_store (σ' := upR σ 58 (cpR (σ 58) (σ 56) (82 * j) (kk + 1))) (by rw [upR_up, upR_n _ _ (show (56 : Nat) ≠ 58 by decide), cpR_s]) ?_
        refine j_iincN (a := kk) (c := 1) (lv' := [some (.ref (X.E.1 + 55)), some (.int (nI (j))), some (.int (nI (kk + 1)))]) F dX6_keep_41 rfl rfl (by decide) (hL _ (by decide)) rfl rfl ?_
        refine j_goto (pc' := 18) F dX6_keep_44 (by decide) ?_
        exact ih_18 (by omega)  
    exact loop_18 0 (by omega)  
  · have hz : ¬ (¬ x < 0 ∧ x < nI 2) := of_decide_eq_false c_11
    refine j_iconst (v := (-1 : Int32)) F dX6_keep_14 rfl (by decide) ?_
    exact j_iret F hRt rfl (oM_e (if_pos hz) hR FrM.rf) dX6_keep_15

set_option maxRecDepth 10000 in
set_option maxHeartbeats 2000000 in
theorem c_X6_back {l : Launch} {n : Nat} {E : Ev} {σ : St} {A : Ab} (hn : 69 ≤ n) (hA : AI A) (hR : MR σ A) (x : Int32) : Ct l yX6_back cX6_back 3 (some .int) 1 n E [.ref (E.1 + 55), .int (x)] σ (oM σ (o_back A x)) := by
  refine Ct.of (lv0 := [some (.ref (E.1 + 55)), some (.int (x)), none]) (by decide) (Nat.le_of_ble_eq_true rfl) rfl ?_
  intro X hXn hXE hXl hXL F hRt
  subst hXn hXE hXl
  have hL : ∀ i, i < 3 → i < X.nL := fun i h => by rw [hXL]; exact h
  have hTh := hR.1
  have hM := hR.2.1
  have hG := hA.1
  have hBd := hG.1
  have hWl := hG.2.1
  have hLm := hG.2.2.1
  have hB0 := hBd
  obtain ⟨b1, b2, b3, b4, b5, b6, b7⟩ := hB0
  refine j_aload_n F dX6_back_0 rfl rfl ?_
  refine j_iconst (v := nI (0)) F dX6_back_1 rfl (by decide) ?_
  refine pX6_56 hn F dX6_back_2 rfl ?_
  refine j_store (σ' := σ) (up_id hTh) ?_
  refine j_iload_n F dX6_back_5 rfl rfl ?_
  refine j_iconst (v := nI (0)) F dX6_back_6 rfl (by decide) ?_
  refine j_iconst (v := nI (1)) F dX6_back_7 rfl (by decide) ?_
  refine kX6_63 F (As := [.int (x), .int (nI (0)), .int (nI (1))]) (rest := []) (c_X6_in x (nI (0)) (nI (1))) (by decide) rfl rfl (Nat.le_of_ble_eq_true rfl) dX6_back_8 rfl (ro_k ?_)
  refine j_int (y := bI (decide (¬ x < 0 ∧ x < nI 2))) (congrArg bI (in_lt (k := 1) (by decide))) ?_
  refine j_if_neB F (x := decide (¬ x < 0 ∧ x < nI 2)) (tgt := 16) dX6_back_11 (by decide) rfl (fun c_11 => ?_) (fun c_11 => ?_)
  · have hz : ¬ x < 0 ∧ x < nI 2 := of_decide_eq_true c_11
    obtain ⟨j, hj, rfl⟩ := rg_lt hz.1 hz.2 (by decide)
    refine j_aload_n F dX6_back_16 rfl rfl ?_
    refine gX6_19 hn F dX6_back_17 rfl ?_
    refine j_iload_n F dX6_back_20 rfl rfl ?_
    refine j_baload (a := j) F (by omega) rfl rfl (by omega) (by decide) dX6_back_21 rfl ?_
    rcases hm : A.im j with _ | Q
    · refine j_int (y := nI (0)) ((hR.2.2.2.2.1 j hj).1 hm) ?_
      refine j_if_neN (a := 0) F (by omega) (tgt := 28) dX6_back_22 (by decide) rfl (fun c_22 => False.elim (by revert c_22; decide)) (fun c_22 => ?_)
      refine j_bipush (v := (-2 : Int32)) F dX6_back_25 rfl (by decide) ?_
      exact j_iret F hRt rfl (oM_e (show o_back A (nI j) = (-2, A) by unfold o_back; rw [if_neg (fun q => q hz), tn_n (by omega), hm]) hR FrM.rf) dX6_back_27
    · have hQ := ((hR.2.2.2.2.1 j hj).2 Q hm).2
      have hQB := hA.2.2.1 j Q hm
      refine j_int (y := nI (1)) (((hR.2.2.2.2.1 j hj).2 Q hm).1) ?_
      refine j_if_neN (a := 1) F (by omega) (tgt := 28) dX6_back_22 (by decide) rfl (fun c_22 => ?_) (fun c_22 => False.elim (by revert c_22; decide))
      refine j_iconst (v := nI (0)) F dX6_back_28 rfl (by decide) ?_
      refine j_istore_n (lv' := [some (.ref (X.E.1 + 55)), some (.int (nI (j))), some (.int (nI (0)))]) F dX6_back_29 rfl (hL _ (by decide)) rfl rfl ?_
      refine j_store (σ' := upR σ 56 (cpR (σ 56) (fun z => σ 58 (82 * j + z)) 0 0)) (by rw [cpR_0, upR_id]) ?_
      have loop_30 : ∀ (kk : Nat), kk ≤ 82 → J X 30 [some (.ref (X.E.1 + 55)), some (.int (nI (j))), some (.int (nI (kk)))] [] (upR σ 56 (cpR (σ 56) (fun z => σ 58 (82 * j + z)) 0 kk)) := by
        refine dnL (fun kk hkk ih_30 => ?_)
        refine j_iload_n F dX6_back_30 rfl rfl ?_
        refine j_bipush (v := nI (82)) F dX6_back_31 rfl (by decide) ?_
        refine j_icmp_geN (a := kk) (b := 82) F (by omega) (by omega) (tgt := 59) dX6_back_33 (by decide) rfl (fun c_33 => ?_) (fun c_33 => ?_)
        · have hkN : kk = 82 := by omega
          refine j_aload_n F dX6_back_59 rfl rfl ?_
          refine j_iconst (v := nI (0)) F dX6_back_60 rfl (by decide) ?_
          refine pX6_126 hn F dX6_back_61 rfl ?_
          refine j_aload_n F dX6_back_64 rfl rfl ?_
          refine gX6_7 hn F dX6_back_65 rfl ?_
          refine j_iconst (v := nI (0)) F dX6_back_68 rfl (by decide) ?_
          refine j_iaload (a := 0) F (by omega) rfl rfl (by omega) (by decide) dX6_back_69 rfl ?_
          refine j_int (y := nI (Q.nl)) (by rw [hkN, up, upR_n _ _ (by decide), upR_s]; exact (cpR_in (b := 0) (show 0 < 82 by decide)).trans hQ.1) ?_
          exact j_iret F hRt rfl (oM_e (show o_back A (nI j) = (nI Q.nl, (Q, A.t, A.m, [], A.im, A.sn)) by unfold o_back; rw [if_neg (fun q => q hz), tn_n (by omega), hm]) (by rw [hkN]; exact bck_end hR hQ hQB.1.1 hQB.2.1 hQB.2.2) (FrM.put (fun a ha => upR_n _ _ (by omega)) (by decide))) dX6_back_70
        · refine j_aload_n F dX6_back_36 rfl rfl ?_
          refine gX6_7 hn F dX6_back_37 rfl ?_
          refine j_iload_n F dX6_back_40 rfl rfl ?_
          refine j_aload_n F dX6_back_41 rfl rfl ?_
          refine gX6_16 hn F dX6_back_42 rfl ?_
          refine j_bipush (v := nI (82)) F dX6_back_45 rfl (by decide) ?_
          refine j_iload_n F dX6_back_47 rfl rfl ?_
          refine j_imulN (a := 82) (b := j) F dX6_back_48 rfl ?_
          refine j_iload_n F dX6_back_49 rfl rfl ?_
          refine j_iaddN (a := 82 * j) (b := kk) F dX6_back_50 rfl ?_
          refine j_iaload (a := (82 * j) + kk) F (by omega) rfl rfl (by omega) (by decide) dX6_back_51 rfl ?_
          refine j_iastore (a := kk) F (by omega) rfl rfl (by omega) (by decide) dX6_back_52 rfl ?_
          refine j_store (σ' := upR σ 56 (cpR (σ 56) (fun z => σ 58 (82 * j + z)) 0 (kk + 1))) (bck_s _ _ _) ?_
          refine j_iincN (a := kk) (c := 1) (lv' := [some (.ref (X.E.1 + 55)), some (.int (nI (j))), some (.int (nI (kk + 1)))]) F dX6_back_53 rfl rfl (by decide) (hL _ (by decide)) rfl rfl ?_
          refine j_goto (pc' := 30) F dX6_back_56 (by decide) ?_
          exact ih_30 (by omega)  
      exact loop_30 0 (by omega)  
  · have hz : ¬ (¬ x < 0 ∧ x < nI 2) := of_decide_eq_false c_11
    refine j_iconst (v := (-1 : Int32)) F dX6_back_14 rfl (by decide) ?_
    exact j_iret F hRt rfl (oM_e (if_pos hz) hR FrM.rf) dX6_back_15
