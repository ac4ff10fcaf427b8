set_option maxRecDepth 10000 in
set_option maxHeartbeats 2000000 in
theorem c_X6_laysSpots {l : Launch} {n : Nat} {E : Ev} {σ : St} {P : Pl} (hn : 69 ≤ n) (hM : MP σ P) (hBd : PB P) (hWl : ∀ w, w < P.nw → WallOK P w) (hLm : ∀ l, l < P.nl → LampOK P l) : Ct l yX6_laysSpots cX6_laysSpots 2 none 5 n E [.ref (E.1 + 55)] σ (fun v' σ' => v' = none ∧ ∃ g : Nat → Int32, σ' = upR σ 68 g ∧ ∀ s, s < P.W * P.H → g s = nI (P.LM (s % P.W) (s / P.W) (-9))) := by
  refine Ct.of (lv0 := [some (.ref (E.1 + 55)), none]) (by decide) (Nat.le_of_ble_eq_true rfl) rfl ?_
  intro X hXn hXE hXl hXL F hRt
  subst hXn hXE hXl
  have hL : ∀ i, i < 2 → i < X.nL := fun i h => by rw [hXL]; exact h
  have hB0 := hBd
  obtain ⟨b1, b2, b3, b4, b5, b6, b7⟩ := hB0
  have har := ar_le b2 b4
  refine j_iconst (v := nI (0)) F dX6_laysSpots_0 rfl (by decide) ?_
  refine j_istore_n (lv' := [some (.ref (X.E.1 + 55)), some (.int (nI (0)))]) F dX6_laysSpots_1 rfl (hL _ (by decide)) rfl rfl ?_
  refine j_store (σ' := upR σ 68 (σ 68)) (upR_id _ _).symm ?_
  have loop_2 : ∀ (ii : Nat), ii ≤ (P.W * P.H) → ∀ (g : Nat → Int32), (∀ s, s < ii → g s = nI (P.LM (s % P.W) (s / P.W) (-9))) → J X 2 [some (.ref (X.E.1 + 55)), some (.int (nI (ii)))] [] (upR σ 68 g) := by
    refine dnL (fun ii hii ih_2 => ?_)
    intro g hg
    have hMg : MP (upR σ 68 g) P := MP_eq hM (upR_n _ _ (by decide)) (upR_n _ _ (by decide))
    refine j_iload_n F dX6_laysSpots_2 rfl rfl ?_
    refine j_aload_n F dX6_laysSpots_3 rfl rfl ?_
    refine gX6_60 hn F dX6_laysSpots_4 rfl ?_
    refine j_int (y := nI (P.W)) (hMg.w) ?_
    refine j_aload_n F dX6_laysSpots_7 rfl rfl ?_
    refine gX6_67 hn F dX6_laysSpots_8 rfl ?_
    refine j_int (y := nI (P.H)) (hMg.h) ?_
    refine j_imulN (a := P.W) (b := P.H) F dX6_laysSpots_11 rfl ?_
    refine j_icmp_geN (a := ii) (b := P.W * P.H) F (by omega) (by omega) (tgt := 45) dX6_laysSpots_12 (by decide) rfl (fun c_12 => ?_) (fun c_12 => ?_)
    · have hiN : ii = P.W * P.H := by omega
      exact j_vret F hRt (⟨rfl, g, rfl, by rw [← hiN]; exact hg⟩) dX6_laysSpots_45
    · have hd1 : ii % P.W < P.W := Nat.mod_lt _ (by omega)
      have hd2 : ii / P.W < P.H := Nat.div_lt_of_lt_mul c_12
      refine j_aload_n F dX6_laysSpots_15 rfl rfl ?_
      refine gX6_47 hn F dX6_laysSpots_16 rfl ?_
      refine j_iload_n F dX6_laysSpots_19 rfl rfl ?_
      refine j_aload_n F dX6_laysSpots_20 rfl rfl ?_
      refine j_iload_n F dX6_laysSpots_21 rfl rfl ?_
      refine j_aload_n F dX6_laysSpots_22 rfl rfl ?_
      refine gX6_60 hn F dX6_laysSpots_23 rfl ?_
      refine j_int (y := nI (P.W)) (hMg.w) ?_
      refine j_iremN (a := ii) (b := P.W) F (by omega) (by omega) (by omega) dX6_laysSpots_26 rfl ?_
      refine j_iload_n F dX6_laysSpots_27 rfl rfl ?_
      refine j_aload_n F dX6_laysSpots_28 rfl rfl ?_
      refine gX6_60 hn F dX6_laysSpots_29 rfl ?_
      refine j_int (y := nI (P.W)) (hMg.w) ?_
      refine j_idivN (a := ii) (b := P.W) F (by omega) (by omega) (by omega) dX6_laysSpots_32 rfl ?_
      refine j_bipush (v := (-9 : Int32)) F dX6_laysSpots_33 rfl (by decide) ?_
      refine kX6_155 hn F (As := [.int (nI (ii % P.W)), .int (nI (ii / P.W)), .int ((-9 : Int32))]) (rest := [.int (nI (ii)), .ref (X.E.1 + 68)]) (c_X6_lampsOf hn hMg hBd hWl hLm (ii % P.W) (ii / P.W) ((-9 : Int32)) (by omega) (by omega)) (by decide) rfl rfl (Nat.le_of_ble_eq_true rfl) dX6_laysSpots_35 rfl (ro_k ?_)
      refine j_iastore (a := ii) F (by omega) rfl rfl (by omega) (by decide) dX6_laysSpots_38 rfl ?_
      refine j_store (σ' := upR σ 68 (upd g ii (nI (P.LM (ii % P.W) (ii / P.W) (-9))))) (upR_up _ _ _ _ _) ?_
      refine j_iincN (a := ii) (c := 1) (lv' := [some (.ref (X.E.1 + 55)), some (.int (nI (ii + 1)))]) F dX6_laysSpots_39 rfl rfl (by decide) (hL _ (by decide)) rfl rfl ?_
      refine j_goto (pc' := 2) F dX6_laysSpots_42 (by decide) ?_
      exact ih_2 (by omega) (upd g ii (nI (P.LM (ii % P.W) (ii / P.W) (-9)))) (fun s h => by rcases (show s < ii ∨ s = ii by omega) with t | rfl; (rw [upd_n _ _ (by omega)]; exact hg s t); exact upd_s _ _ _)
  exact loop_2 0 (by omega) (σ 68) (fun s h => absurd h (Nat.not_lt_zero s))

set_option maxRecDepth 10000 in
set_option maxHeartbeats 2000000 in
theorem c_X6_isEnough {l : Launch} {n : Nat} {E : Ev} {σ : St} {P : Pl} (hn : 69 ≤ n) (hM : MP σ P) (hBd : PB P) (L : Nat → Nat) (hLt : ∀ s, s < P.W * P.H → σ 68 s = nI (L s)) (hL2 : ∀ s, L s < 256) (q : Nat) (hq : q < 2147483648) : Ct l yX6_isEnough cX6_isEnough 3 (some .boolean) 0 n E [.ref (E.1 + 55), .int (nI (q))] σ (ro (.int (bI (enoughL L (P.W * P.H) q))) σ) := by
  refine Ct.of (lv0 := [some (.ref (E.1 + 55)), some (.int (nI (q))), none]) (by decide) (Nat.le_of_ble_eq_true rfl) rfl ?_
  intro X hXn hXE hXl hXL F hRt
  subst hXn hXE hXl
  have hL : ∀ i, i < 3 → i < X.nL := fun i h => by rw [hXL]; exact h
  have hB0 := hBd
  obtain ⟨b1, b2, b3, b4, b5, b6, b7⟩ := hB0
  have har := ar_le b2 b4
  refine j_iconst (v := nI (0)) F dX6_isEnough_0 rfl (by decide) ?_
  refine j_istore_n (lv' := [some (.ref (X.E.1 + 55)), some (.int (nI (q))), some (.int (nI (0)))]) F dX6_isEnough_1 rfl (hL _ (by decide)) rfl rfl ?_
  have loop_2 : ∀ (ii : Nat), ii ≤ (P.W * P.H) → (∀ s, s < ii → ¬ L s = 0 → ¬ (L s &&& q) = 0) → J X 2 [some (.ref (X.E.1 + 55)), some (.int (nI (q))), some (.int (nI (ii)))] [] σ := by
    refine dnL (fun ii hii ih_2 => ?_)
    intro hno
    refine j_iload_n F dX6_isEnough_2 rfl rfl ?_
    refine j_aload_n F dX6_isEnough_3 rfl rfl ?_
    refine gX6_60 hn F dX6_isEnough_4 rfl ?_
    refine j_int (y := nI (P.W)) (hM.w) ?_
    refine j_aload_n F dX6_isEnough_7 rfl rfl ?_
    refine gX6_67 hn F dX6_isEnough_8 rfl ?_
    refine j_int (y := nI (P.H)) (hM.h) ?_
    refine j_imulN (a := P.W) (b := P.H) F dX6_isEnough_11 rfl ?_
    refine j_icmp_geN (a := ii) (b := P.W * P.H) F (by omega) (by omega) (tgt := 43) dX6_isEnough_12 (by decide) rfl (fun c_12 => ?_) (fun c_12 => ?_)
    · have hiN : ii = P.W * P.H := by omega
      have hz : enoughL L (P.W * P.H) q = true := decide_eq_true (by rw [← hiN]; exact hno)
      refine j_iconst (v := nI (1)) F dX6_isEnough_43 rfl (by decide) ?_
      exact j_iret F hRt rfl (roB_t hz) dX6_isEnough_44
    · have hLs := hL2 ii
      refine j_aload_n F dX6_isEnough_15 rfl rfl ?_
      refine gX6_47 hn F dX6_isEnough_16 rfl ?_
      refine j_iload_n F dX6_isEnough_19 rfl rfl ?_
      refine j_iaload (a := ii) F (by omega) rfl rfl (by omega) (by decide) dX6_isEnough_20 rfl ?_
      refine j_int (y := nI (L ii)) (hLt ii c_12) ?_
      refine j_if_eqN (a := L ii) F (by omega) (tgt := 37) dX6_isEnough_21 (by decide) rfl (fun c_21 => ?_) (fun c_21 => ?_)
      · have hni : ¬ L ii = 0 → ¬ (L ii &&& q) = 0 := fun z => absurd c_21 z
        refine j_iincN (a := ii) (c := 1) (lv' := [some (.ref (X.E.1 + 55)), some (.int (nI (q))), some (.int (nI (ii + 1)))]) F dX6_isEnough_37 rfl rfl (by decide) (hL _ (by decide)) rfl rfl ?_
        refine j_goto (pc' := 2) F dX6_isEnough_40 (by decide) ?_
        exact ih_2 (by omega)  (fun s h z => by rcases (show s < ii ∨ s = ii by omega) with t | rfl; exact hno s t z; exact hni z)
      · refine j_aload_n F dX6_isEnough_24 rfl rfl ?_
        refine gX6_47 hn F dX6_isEnough_25 rfl ?_
        refine j_iload_n F dX6_isEnough_28 rfl rfl ?_
        refine j_iaload (a := ii) F (by omega) rfl rfl (by omega) (by decide) dX6_isEnough_29 rfl ?_
        refine j_int (y := nI (L ii)) (hLt ii c_12) ?_
        refine j_iload_n F dX6_isEnough_30 rfl rfl ?_
        refine j_iand F dX6_isEnough_31 rfl ?_
        refine j_int (y := nI (L ii &&& q)) (fa_and _ _) ?_
        refine j_if_neN (a := L ii &&& q) F (Nat.lt_of_le_of_lt Nat.and_le_left (by omega)) (tgt := 37) dX6_isEnough_32 (by decide) rfl (fun c_32 => ?_) (fun c_32 => ?_)
        · have hni : ¬ L ii = 0 → ¬ (L ii &&& q) = 0 := fun _ => c_32
          refine j_iincN (a := ii) (c := 1) (lv' := [some (.ref (X.E.1 + 55)), some (.int (nI (q))), some (.int (nI (ii + 1)))]) F dX6_isEnough_37 rfl rfl (by decide) (hL _ (by decide)) rfl rfl ?_
          refine j_goto (pc' := 2) F dX6_isEnough_40 (by decide) ?_
          exact ih_2 (by omega)  (fun s h z => by rcases (show s < ii ∨ s = ii by omega) with t | rfl; exact hno s t z; exact hni z)
        · have hz : enoughL L (P.W * P.H) q = false := decide_eq_false (fun z => z ii c_12 c_21 c_32)
          refine j_iconst (v := nI (0)) F dX6_isEnough_35 rfl (by decide) ?_
          exact j_iret F hRt rfl (roB_f hz) dX6_isEnough_36
  exact loop_2 0 (by omega)  (fun s h => absurd h (Nat.not_lt_zero s))

set_option maxRecDepth 10000 in
set_option maxHeartbeats 2000000 in
theorem c_X6_ones {l : Launch} {n : Nat} {E : Ev} {σ : St} (a : Nat) (ha : a < 2147483648) : Ct l yX6_ones cX6_ones 3 (some .int) 0 n E [.int (nI (a))] σ (ro (.int (nI (pop8 a))) σ) := by
  refine Ct.of (lv0 := [some (.int (nI (a))), none, none]) (by decide) (Nat.le_of_ble_eq_true rfl) rfl ?_
  intro X hXn hXE hXl hXL F hRt
  subst hXn hXE hXl
  have hL : ∀ i, i < 3 → i < X.nL := fun i h => by rw [hXL]; exact h
  refine j_iconst (v := nI (0)) F dX6_ones_0 rfl (by decide) ?_
  refine j_istore_n (lv' := [some (.int (nI (a))), some (.int (nI (0))), none]) F dX6_ones_1 rfl (hL _ (by decide)) rfl rfl ?_
  refine j_iconst (v := nI (0)) F dX6_ones_2 rfl (by decide) ?_
  refine j_istore_n (lv' := [some (.int (nI (a))), some (.int (nI (0))), some (.int (nI (0)))]) F dX6_ones_3 rfl (hL _ (by decide)) rfl rfl ?_
  have loop_4 : ∀ (ii : Nat), ii ≤ 8 → J X 4 [some (.int (nI (a))), some (.int (nI (fa_cnt (fun z => a.testBit z) ii))), some (.int (nI (ii)))] [] σ := by
    refine dnL (fun ii hii ih_4 => ?_)
    refine j_iload_n F dX6_ones_4 rfl rfl ?_
    refine j_bipush (v := nI (8)) F dX6_ones_5 rfl (by decide) ?_
    refine j_icmp_geN (a := ii) (b := 8) F (by omega) (by omega) (tgt := 24) dX6_ones_7 (by decide) rfl (fun c_7 => ?_) (fun c_7 => ?_)
    · have hiN : ii = 8 := by omega
      refine j_iload_n F dX6_ones_24 rfl rfl ?_
      exact j_iret F hRt rfl (roI (by unfold pop8; rw [hiN])) dX6_ones_25
    · refine j_iload_n F dX6_ones_10 rfl rfl ?_
      refine j_iload_n F dX6_ones_11 rfl rfl ?_
      refine j_iload_n F dX6_ones_12 rfl rfl ?_
      refine j_ishr F dX6_ones_13 rfl ?_
      refine j_iconst (v := nI (1)) F dX6_ones_14 rfl (by decide) ?_
      refine j_iand F dX6_ones_15 rfl ?_
      refine j_int (y := nI ((a.testBit ii).toNat)) (bit_n ha (by omega)) ?_
      refine j_iaddN (a := fa_cnt (fun z => a.testBit z) ii) (b := (a.testBit ii).toNat) F dX6_ones_16 rfl ?_
      refine j_istore_n (lv' := [some (.int (nI (a))), some (.int (nI ((fa_cnt (fun z => a.testBit z) ii) + ((a.testBit ii).toNat)))), some (.int (nI (ii)))]) F dX6_ones_17 rfl (hL _ (by decide)) rfl rfl ?_
      refine j_iincN (a := ii) (c := 1) (lv' := [some (.int (nI (a))), some (.int (nI ((fa_cnt (fun z => a.testBit z) ii) + ((a.testBit ii).toNat)))), some (.int (nI (ii + 1)))]) F dX6_ones_18 rfl rfl (by decide) (hL _ (by decide)) rfl rfl ?_
      refine j_goto (pc' := 4) F dX6_ones_21 (by decide) ?_
      refine j_lvq (lv' := [some (.int (nI (a))), some (.int (nI (fa_cnt (fun z => a.testBit z) (ii + 1)))), some (.int (nI (ii + 1)))]) (by cases hb : a.testBit ii; (rw [fa_cnt_no (p := fun z => a.testBit z) hb]; rfl); (rw [fa_cnt_yes (p := fun z => a.testBit z) hb]; rfl)) ?_
      exact ih_4 (by omega)
  exact loop_4 0 (by omega)  

set_option maxRecDepth 10000 in
set_option maxHeartbeats 2000000 in
theorem c_X6_fewest {l : Launch} {n : Nat} {E : Ev} {σ : St} {A : Ab} (hn : 69 ≤ n) (hA : AI A) (hR : MR σ A) : Ct l yX6_fewest cX6_fewest 3 (some .int) 6 n E [.ref (E.1 + 55)] σ (oM σ (o_fewest A)) := by
  refine Ct.of (lv0 := [some (.ref (E.1 + 55)), none, none]) (by decide) (Nat.le_of_ble_eq_true rfl) rfl ?_
  intro X hXn hXE hXl hXL F hRt
  subst hXn hXE hXl
  have hL : ∀ i, i < 3 → i < X.nL := fun i h => by rw [hXL]; exact h
  have hTh := hR.1
  have hM := hR.2.1
  have hG := hA.1
  have hBd := hG.1
  have hWl := hG.2.1
  have hLm := hG.2.2.1
  have hB0 := hBd
  obtain ⟨b1, b2, b3, b4, b5, b6, b7⟩ := hB0
  have hp1 : 1 ≤ 2 ^ A.P.nl := Nat.one_le_two_pow
  have hp2 : 2 ^ A.P.nl ≤ 256 := Nat.pow_le_pow_right (n := 2) (by decide) b7
  have har := ar_le b2 b4
  refine j_aload_n F dX6_fewest_0 rfl rfl ?_
  refine j_iconst (v := nI (0)) F dX6_fewest_1 rfl (by decide) ?_
  refine pX6_56 hn F dX6_fewest_2 rfl ?_
  refine j_store (σ' := σ) (up_id hTh) ?_
  refine j_aload_n F dX6_fewest_5 rfl rfl ?_
  refine kX6_209 hn F (As := []) (rest := []) (c_X6_laysSpots hn hM hBd hWl hLm) (by decide) rfl rfl (Nat.le_of_ble_eq_true rfl) dX6_fewest_6 rfl (fun v_6 σ_6 q_6 => ?_)
  obtain ⟨rfl, g_6, rfl, hg_6⟩ := q_6
  have hM_6 : MP (upR σ 68 g_6) A.P := MP_eq hM (upR_n _ _ (by decide)) (upR_n _ _ (by decide))
  have hR_6 : MR (upR σ 68 g_6) A := MR_eq hR (fun i _ => by rw [upR_n _ _ (by decide)]) (fun a _ _ => upR_n _ _ (by omega))
  have fm_6 : FrM σ (upR σ 68 g_6) := fun a ha => upR_n _ _ (by omega)
  refine j_iconst (v := nI (1)) F dX6_fewest_9 rfl (by decide) ?_
  refine j_aload_n F dX6_fewest_10 rfl rfl ?_
  refine gX6_7 hn F dX6_fewest_11 rfl ?_
  refine j_iconst (v := nI (0)) F dX6_fewest_14 rfl (by decide) ?_
  refine j_iaload (a := 0) F (by omega) rfl rfl (by omega) (by decide) dX6_fewest_15 rfl ?_
  refine j_int (y := nI (A.P.nl)) (hM_6.nl) ?_
  refine j_ishl F dX6_fewest_16 rfl ?_
  refine j_int (y := nI (2 ^ A.P.nl)) (sh_n (Nat.le_refl 1) (by omega)) ?_
  refine j_iconst (v := nI (1)) F dX6_fewest_17 rfl (by decide) ?_
  refine j_isubN (a := 2 ^ A.P.nl) (b := 1) F (by omega) dX6_fewest_18 rfl ?_
  refine j_istore_n (lv' := [some (.ref (X.E.1 + 55)), some (.int (nI ((2 ^ A.P.nl) - 1))), none]) F dX6_fewest_19 rfl (hL _ (by decide)) rfl rfl ?_
  refine j_iload_n F dX6_fewest_20 rfl rfl ?_
  refine j_istore_n (lv' := [some (.ref (X.E.1 + 55)), some (.int (nI ((2 ^ A.P.nl) - 1))), some (.int (nI ((2 ^ A.P.nl) - 1)))]) F dX6_fewest_21 rfl (hL _ (by decide)) rfl rfl ?_
  refine j_lvq (lv' := [some (.ref (X.E.1 + 55)), some (.int (nI (fewD (fun s => A.P.LM (s % A.P.W) (s / A.P.W) (-9)) (A.P.W * A.P.H) (2 ^ A.P.nl - 1) 0))), some (.int ((nI (2 ^ A.P.nl - 1) - nI 0)))]) (by rw [ev_0]; rfl) ?_
  have loop_22 : ∀ (kk : Nat), kk ≤ (2 ^ A.P.nl - 1 + 1) → J X 22 [some (.ref (X.E.1 + 55)), some (.int (nI (fewD (fun s => A.P.LM (s % A.P.W) (s / A.P.W) (-9)) (A.P.W * A.P.H) (2 ^ A.P.nl - 1) kk))), some (.int ((nI (2 ^ A.P.nl - 1) - nI kk)))] [] (upR σ 68 g_6) := by
    refine dnL (fun kk hkk ih_22 => ?_)
    have hfl : fewD (fun s => A.P.LM (s % A.P.W) (s / A.P.W) (-9)) (A.P.W * A.P.H) (2 ^ A.P.nl - 1) kk ≤ 2 ^ A.P.nl - 1 := fewD_le kk
    refine j_iload_n F dX6_fewest_22 rfl rfl ?_
    rcases (show kk = 2 ^ A.P.nl - 1 + 1 ∨ kk ≤ 2 ^ A.P.nl - 1 by omega) with hiN | hik
    · refine j_if_lt F (tgt := 57) dX6_fewest_23 (by decide) rfl (fun c_23 => ?_) (fun c_23 => False.elim (c_23 (by rw [hiN]; exact ev_neg (by omega))))
      refine j_iload_n F dX6_fewest_57 rfl rfl ?_
      exact j_iret F hRt rfl (oM_q (by rw [few_eq b7, hiN]) hR_6 fm_6) dX6_fewest_58
    · have hev : nI (2 ^ A.P.nl - 1) - nI kk = nI (2 ^ A.P.nl - 1 - kk) := pk_sub hik
      rw [hev]
      refine j_if_ltN (a := 2 ^ A.P.nl - 1 - kk) F (by omega) (tgt := 57) dX6_fewest_23 (by decide) rfl ?_
      refine j_iload_n F dX6_fewest_26 rfl rfl ?_
      refine kX6_212 F (As := [.int (nI (2 ^ A.P.nl - 1 - kk))]) (rest := []) (c_X6_ones (2 ^ A.P.nl - 1 - kk) (by omega)) (by decide) rfl rfl (Nat.le_of_ble_eq_true rfl) dX6_fewest_27 rfl (ro_k ?_)
      refine j_iload_n F dX6_fewest_30 rfl rfl ?_
      refine kX6_212 F (As := [.int (nI (fewD (fun s => A.P.LM (s % A.P.W) (s / A.P.W) (-9)) (A.P.W * A.P.H) (2 ^ A.P.nl - 1) kk))]) (rest := [.int (nI (pop8 (2 ^ A.P.nl - 1 - kk)))]) (c_X6_ones (fewD (fun s => A.P.LM (s % A.P.W) (s / A.P.W) (-9)) (A.P.W * A.P.H) (2 ^ A.P.nl - 1) kk) (by omega)) (by decide) rfl rfl (Nat.le_of_ble_eq_true rfl) dX6_fewest_31 rfl (ro_k ?_)
      refine j_icmp_gtN (a := pop8 (2 ^ A.P.nl - 1 - kk)) (b := pop8 (fewD (fun s => A.P.LM (s % A.P.W) (s / A.P.W) (-9)) (A.P.W * A.P.H) (2 ^ A.P.nl - 1) kk)) F (by have := pop8_le (2 ^ A.P.nl - 1 - kk); omega) (by have := pop8_le (fewD (fun s => A.P.LM (s % A.P.W) (s / A.P.W) (-9)) (A.P.W * A.P.H) (2 ^ A.P.nl - 1) kk); omega) (tgt := 49) dX6_fewest_34 (by decide) rfl (fun c_34 => ?_) (fun c_34 => ?_)
      · have hnx : fewD (fun s => A.P.LM (s % A.P.W) (s / A.P.W) (-9)) (A.P.W * A.P.H) (2 ^ A.P.nl - 1) (kk + 1) = fewD (fun s => A.P.LM (s % A.P.W) (s / A.P.W) (-9)) (A.P.W * A.P.H) (2 ^ A.P.nl - 1) kk := by rw [fewD, if_neg (fun q => by have := q.1; omega)]
        refine j_iload_n F dX6_fewest_49 rfl rfl ?_
        refine j_istore_n (lv' := [some (.ref (X.E.1 + 55)), some (.int (nI (fewD (fun s => A.P.LM (s % A.P.W) (s / A.P.W) (-9)) (A.P.W * A.P.H) (2 ^ A.P.nl - 1) kk))), some (.int (nI (2 ^ A.P.nl - 1 - kk)))]) F dX6_fewest_50 rfl (hL _ (by decide)) rfl rfl ?_
        refine j_iinc (v := nI (2 ^ A.P.nl - 1 - kk) + (-1 : Int32)) (lv' := [some (.ref (X.E.1 + 55)), some (.int (nI (fewD (fun s => A.P.LM (s % A.P.W) (s / A.P.W) (-9)) (A.P.W * A.P.H) (2 ^ A.P.nl - 1) kk))), some (.int (nI (2 ^ A.P.nl - 1 - kk) + (-1 : Int32)))]) F dX6_fewest_51 rfl rfl rfl (hL _ (by decide)) rfl rfl ?_
        refine j_goto (pc' := 22) F dX6_fewest_54 (by decide) ?_
        refine j_lvq (lv' := [some (.ref (X.E.1 + 55)), some (.int (nI (fewD (fun s => A.P.LM (s % A.P.W) (s / A.P.W) (-9)) (A.P.W * A.P.H) (2 ^ A.P.nl - 1) (kk + 1)))), some (.int (nI (2 ^ A.P.nl - 1 - kk) + (-1 : Int32)))]) (by rw [hnx]) ?_
        refine j_lvq (lv' := [some (.ref (X.E.1 + 55)), some (.int (nI (fewD (fun s => A.P.LM (s % A.P.W) (s / A.P.W) (-9)) (A.P.W * A.P.H) (2 ^ A.P.nl - 1) (kk + 1)))), some (.int ((nI (2 ^ A.P.nl - 1) - nI (kk + 1))))]) (by rw [← hev, ev_dec]) ?_
        exact ih_22 (by omega)
      · refine j_aload_n F dX6_fewest_37 rfl rfl ?_
        refine j_iload_n F dX6_fewest_38 rfl rfl ?_
        refine kX6_215 hn F (As := [.int (nI (2 ^ A.P.nl - 1 - kk))]) (rest := []) (c_X6_isEnough hn hM_6 hBd (fun s => A.P.LM (s % A.P.W) (s / A.P.W) (-9)) (fun s hs => by rw [upR_s]; exact hg_6 s hs) (fun s => Bt_le b7) (2 ^ A.P.nl - 1 - kk) (by omega)) (by decide) rfl rfl (Nat.le_of_ble_eq_true rfl) dX6_fewest_39 rfl (ro_k ?_)
        refine j_if_eqB F (x := enoughL (fun s => A.P.LM (s % A.P.W) (s / A.P.W) (-9)) (A.P.W * A.P.H) (2 ^ A.P.nl - 1 - kk)) (tgt := 49) dX6_fewest_42 (by decide) rfl (fun c_42 => ?_) (fun c_42 => ?_)
        · have hnx : fewD (fun s => A.P.LM (s % A.P.W) (s / A.P.W) (-9)) (A.P.W * A.P.H) (2 ^ A.P.nl - 1) (kk + 1) = fewD (fun s => A.P.LM (s % A.P.W) (s / A.P.W) (-9)) (A.P.W * A.P.H) (2 ^ A.P.nl - 1) kk := by rw [fewD, if_neg (fun q => by rw [c_42] at q; exact absurd q.2 (by decide))]
          refine j_iload_n F dX6_fewest_49 rfl rfl ?_
          refine j_istore_n (lv' := [some (.ref (X.E.1 + 55)), some (.int (nI (fewD (fun s => A.P.LM (s % A.P.W) (s / A.P.W) (-9)) (A.P.W * A.P.H) (2 ^ A.P.nl - 1) kk))), some (.int (nI (2 ^ A.P.nl - 1 - kk)))]) F dX6_fewest_50 rfl (hL _ (by decide)) rfl rfl ?_
          refine j_iinc (v := nI (2 ^ A.P.nl - 1 - kk) + (-1 : Int32)) (lv' := [some (.ref (X.E.1 + 55)), some (.int (nI (fewD (fun s => A.P.LM (s % A.P.W) (s / A.P.W) (-9)) (A.P.W * A.P.H) (2 ^ A.P.nl - 1) kk))), some (.int (nI (2 ^ A.P.nl - 1 - kk) + (-1 : Int32)))]) F dX6_fewest_51 rfl rfl rfl (hL _ (by decide)) rfl rfl ?_
          refine j_goto (pc' := 22) F dX6_fewest_54 (by decide) ?_
          refine j_lvq (lv' := [some (.ref (X.E.1 + 55)), some (.int (nI (fewD (fun s => A.P.LM (s % A.P.W) (s / A.P.W) (-9)) (A.P.W * A.P.H) (2 ^ A.P.nl - 1) (kk + 1)))), some (.int (nI (2 ^ A.P.nl - 1 - kk) + (-1 : Int32)))]) (by rw [hnx]) ?_
          refine j_lvq (lv' := [some (.ref (X.E.1 + 55)), some (.int (nI (fewD (fun s => A.P.LM (s % A.P.W) (s / A.P.W) (-9)) (A.P.W * A.P.H) (2 ^ A.P.nl - 1) (kk + 1)))), some (.int ((nI (2 ^ A.P.nl - 1) - nI (kk + 1))))]) (by rw [← hev, ev_dec]) ?_
          exact ih_22 (by omega)
        · have hnx : fewD (fun s => A.P.LM (s % A.P.W) (s / A.P.W) (-9)) (A.P.W * A.P.H) (2 ^ A.P.nl - 1) (kk + 1) = 2 ^ A.P.nl - 1 - kk := by rw [fewD, if_pos ⟨by omega, c_42⟩]
          refine j_iload_n F dX6_fewest_45 rfl rfl ?_
          refine j_goto (pc' := 50) F dX6_fewest_46 (by decide) ?_
          refine j_istore_n (lv' := [some (.ref (X.E.1 + 55)), some (.int (nI (2 ^ A.P.nl - 1 - kk))), some (.int (nI (2 ^ A.P.nl - 1 - kk)))]) F dX6_fewest_50 rfl (hL _ (by decide)) rfl rfl ?_
          refine j_iinc (v := nI (2 ^ A.P.nl - 1 - kk) + (-1 : Int32)) (lv' := [some (.ref (X.E.1 + 55)), some (.int (nI (2 ^ A.P.nl - 1 - kk))), some (.int (nI (2 ^ A.P.nl - 1 - kk) + (-1 : Int32)))]) F dX6_fewest_51 rfl rfl rfl (hL _ (by decide)) rfl rfl ?_
          refine j_goto (pc' := 22) F dX6_fewest_54 (by decide) ?_
          refine j_lvq (lv' := [some (.ref (X.E.1 + 55)), some (.int (nI (fewD (fun s => A.P.LM (s % A.P.W) (s / A.P.W) (-9)) (A.P.W * A.P.H) (2 ^ A.P.nl - 1) (kk + 1)))), some (.int (nI (2 ^ A.P.nl - 1 - kk) + (-1 : Int32)))]) (by rw [hnx]) ?_
          refine j_lvq (lv' := [some (.ref (X.E.1 + 55)), some (.int (nI (fewD (fun s => A.P.LM (s % A.P.W) (s / A.P.W) (-9)) (A.P.W * A.P.H) (2 ^ A.P.nl - 1) (kk + 1)))), some (.int ((nI (2 ^ A.P.nl - 1) - nI (kk + 1))))]) (by rw [← hev, ev_dec]) ?_
          exact ih_22 (by omega)
  exact loop_22 0 (by omega)  

set_option maxRecDepth 10000 in
set_option maxHeartbeats 2000000 in
theorem c_X6_best {l : Launch} {n : Nat} {E : Ev} {σ : St} {A : Ab} (hn : 69 ≤ n) (hA : AI A) (hR : MR σ A) (x : Int32) : Ct l yX6_best cX6_best 7 (some .int) 6 n E [.ref (E.1 + 55), .int (x)] σ (oM σ (o_best A x)) := by
  refine Ct.of (lv0 := [some (.ref (E.1 + 55)), some (.int (x)), none, none, none, none, none]) (by decide) (Nat.le_of_ble_eq_true rfl) rfl ?_
  intro X hXn hXE hXl hXL F hRt
  subst hXn hXE hXl
  have hL : ∀ i, i < 7 → i < X.nL := fun i h => by rw [hXL]; exact h
  have hTh := hR.1
  have hM := hR.2.1
  have hG := hA.1
  have hBd := hG.1
  have hWl := hG.2.1
  have hLm := hG.2.2.1
  have hB0 := hBd
  obtain ⟨b1, b2, b3, b4, b5, b6, b7⟩ := hB0
  have har := ar_le b2 b4
  have hon : A.P.on < 256 := Bt_le b7
  refine j_aload_n F dX6_best_0 rfl rfl ?_
  refine j_iconst (v := nI (0)) F dX6_best_1 rfl (by decide) ?_
  refine pX6_56 hn F dX6_best_2 rfl ?_
  refine j_store (σ' := σ) (up_id hTh) ?_
  refine j_iload_n F dX6_best_5 rfl rfl ?_
  refine j_iconst (v := nI (0)) F dX6_best_6 rfl (by decide) ?_
  refine j_iconst (v := nI (2)) F dX6_best_7 rfl (by decide) ?_
  refine kX6_63 F (As := [.int (x), .int (nI (0)), .int (nI (2))]) (rest := []) (c_X6_in x (nI (0)) (nI (2))) (by decide) rfl rfl (Nat.le_of_ble_eq_true rfl) dX6_best_8 rfl (ro_k ?_)
  refine j_int (y := bI (decide (¬ x < 0 ∧ x ≤ nI 2))) (congrArg bI (in_k (by decide))) ?_
  refine j_if_neB F (x := decide (¬ x < 0 ∧ x ≤ nI 2)) (tgt := 16) dX6_best_11 (by decide) rfl (fun c_11 => ?_) (fun c_11 => ?_)
  · have hz : ¬ x < 0 ∧ x ≤ nI 2 := of_decide_eq_true c_11
    refine j_aload_n F dX6_best_16 rfl rfl ?_
    refine kX6_209 hn F (As := []) (rest := []) (c_X6_laysSpots hn hM hBd hWl hLm) (by decide) rfl rfl (Nat.le_of_ble_eq_true rfl) dX6_best_17 rfl (fun v_17 σ_17 q_17 => ?_)
    obtain ⟨rfl, g_17, rfl, hg_17⟩ := q_17
    have hM_17 : MP (upR σ 68 g_17) A.P := MP_eq hM (upR_n _ _ (by decide)) (upR_n _ _ (by decide))
    have hR_17 : MR (upR σ 68 g_17) A := MR_eq hR (fun i _ => by rw [upR_n _ _ (by decide)]) (fun a _ _ => upR_n _ _ (by omega))
    have fm_17 : FrM σ (upR σ 68 g_17) := fun a ha => upR_n _ _ (by omega)
    refine j_iconst (v := (-1 : Int32)) F dX6_best_20 rfl (by decide) ?_
    refine j_istore_n (lv' := [some (.ref (X.E.1 + 55)), some (.int (x)), some (.int ((-1 : Int32))), none, none, none, none]) F dX6_best_21 rfl (hL _ (by decide)) rfl rfl ?_
    refine j_bipush (v := (-9 : Int32)) F dX6_best_22 rfl (by decide) ?_
    refine j_istore_n (lv' := [some (.ref (X.E.1 + 55)), some (.int (x)), some (.int ((-1 : Int32))), some (.int ((-9 : Int32))), none, none, none]) F dX6_best_24 rfl (hL _ (by decide)) rfl rfl ?_
    refine j_iconst (v := nI (0)) F dX6_best_25 rfl (by decide) ?_
    refine j_istore (lv' := [some (.ref (X.E.1 + 55)), some (.int (x)), some (.int ((-1 : Int32))), some (.int ((-9 : Int32))), some (.int (nI (0))), none, none]) F dX6_best_26 rfl (hL _ (by decide)) rfl rfl ?_
    have loop_28 : ∀ (ii : Nat), ii ≤ (A.P.W * A.P.H) → ∀ (L2 : Int32) (L3 : Int32), (bM (bstC A.P ii) L2 L3) → J X 28 [some (.ref (X.E.1 + 55)), some (.int (x)), some (.int (L2)), some (.int (L3)), some (.int (nI (ii))), none, none] [] (upR σ 68 g_17) := by
      refine dnL (fun ii hii ih_28 => ?_)
      intro L2 L3 hI
      refine j_iload F dX6_best_28 rfl rfl ?_
      refine j_aload_n F dX6_best_30 rfl rfl ?_
      refine gX6_60 hn F dX6_best_31 rfl ?_
      refine j_int (y := nI (A.P.W)) (hM_17.w) ?_
      refine j_aload_n F dX6_best_34 rfl rfl ?_
      refine gX6_67 hn F dX6_best_35 rfl ?_
      refine j_int (y := nI (A.P.H)) (hM_17.h) ?_
      refine j_imulN (a := A.P.W) (b := A.P.H) F dX6_best_38 rfl ?_
      refine j_icmp_geN (a := ii) (b := A.P.W * A.P.H) F (by omega) (by omega) (tgt := 171) dX6_best_39 (by decide) rfl (fun c_39 => ?_) (fun c_39 => ?_)
      · have hiH : ii = A.P.W * A.P.H := by omega
        rcases hI with ⟨hb1, rfl, rfl⟩ | ⟨sp, dd, hb1, rfl, rfl, hdd, hss⟩
        · have hbe : bstA A.P x = -9 := by unfold bstA; rw [← hiH, hb1]
          refine j_iload_n F dX6_best_171 rfl rfl ?_
          refine j_bipush (v := (-9 : Int32)) F dX6_best_172 rfl (by decide) ?_
          refine j_icmp_ne F (tgt := 182) dX6_best_174 (by decide) rfl (fun c_174 => False.elim (c_174 rfl)) (fun c_174 => ?_)
          refine j_bipush (v := (-9 : Int32)) F dX6_best_177 rfl (by decide) ?_
          refine j_goto (pc' := 210) F dX6_best_179 (by decide) ?_
          exact j_iret F hRt rfl (oM_q (by rw [if_pos hz, hbe]) hR_17 fm_17) dX6_best_210
        · have hbe : bstA A.P x = if x = 0 then nI (sp % A.P.W) else if x = nI 1 then nI (sp / A.P.W) else nI dd := by unfold bstA; rw [← hiH, hb1]
          refine j_iload_n F dX6_best_171 rfl rfl ?_
          refine j_bipush (v := (-9 : Int32)) F dX6_best_172 rfl (by decide) ?_
          refine j_icmp_ne F (tgt := 182) dX6_best_174 (by decide) rfl (fun c_174 => ?_) (fun c_174 => False.elim (absurd (show nI sp = -9 by first | exact c_174 | exact Classical.byContradiction c_174) (nI_m9 (by omega))))
          refine j_iload_n F dX6_best_182 rfl rfl ?_
          refine j_if_ne F (tgt := 195) dX6_best_183 (by decide) rfl (fun c_183 => ?_) (fun c_183 => ?_)
          · have c_183z : ¬ x = 0 := c_183
            refine j_iload_n F dX6_best_195 rfl rfl ?_
            refine j_iconst (v := nI (1)) F dX6_best_196 rfl (by decide) ?_
            refine j_icmp_ne F (tgt := 209) dX6_best_197 (by decide) rfl (fun c_197 => ?_) (fun c_197 => ?_)
            · have c_197z : ¬ x = nI 1 := c_197
              refine j_iload_n F dX6_best_209 rfl rfl ?_
              exact j_iret F hRt rfl (oM_q (by rw [if_pos hz, hbe]; first | rw [if_pos c_183z] | rw [if_neg c_183z, if_pos c_197z] | rw [if_neg c_183z, if_neg c_197z]) hR_17 fm_17) dX6_best_210
            · have c_197z : x = nI 1 := by first | exact c_197 | exact Classical.byContradiction c_197
              refine j_iload_n F dX6_best_200 rfl rfl ?_
              refine j_aload_n F dX6_best_201 rfl rfl ?_
              refine gX6_60 hn F dX6_best_202 rfl ?_
              refine j_int (y := nI (A.P.W)) (hM_17.w) ?_
              refine j_idivN (a := sp) (b := A.P.W) F (by omega) (by omega) (by omega) dX6_best_205 rfl ?_
              refine j_goto (pc' := 210) F dX6_best_206 (by decide) ?_
              exact j_iret F hRt rfl (oM_q (by rw [if_pos hz, hbe]; first | rw [if_pos c_183z] | rw [if_neg c_183z, if_pos c_197z] | rw [if_neg c_183z, if_neg c_197z]) hR_17 fm_17) dX6_best_210
          · have c_183z : x = 0 := by first | exact c_183 | exact Classical.byContradiction c_183
            refine j_iload_n F dX6_best_186 rfl rfl ?_
            refine j_aload_n F dX6_best_187 rfl rfl ?_
            refine gX6_60 hn F dX6_best_188 rfl ?_
            refine j_int (y := nI (A.P.W)) (hM_17.w) ?_
            refine j_iremN (a := sp) (b := A.P.W) F (by omega) (by omega) (by omega) dX6_best_191 rfl ?_
            refine j_goto (pc' := 210) F dX6_best_192 (by decide) ?_
            exact j_iret F hRt rfl (oM_q (by rw [if_pos hz, hbe]; first | rw [if_pos c_183z] | rw [if_neg c_183z, if_pos c_197z] | rw [if_neg c_183z, if_neg c_197z]) hR_17 fm_17) dX6_best_210
      · have hd1 : ii % A.P.W < A.P.W := Nat.mod_lt _ (by omega)
        have hd2 : ii / A.P.W < A.P.H := Nat.div_lt_of_lt_mul c_39
        refine j_iconst (v := nI (0)) F dX6_best_42 rfl (by decide) ?_
        refine j_istore (lv' := [some (.ref (X.E.1 + 55)), some (.int (x)), some (.int (L2)), some (.int (L3)), some (.int (nI (ii))), some (.int (nI (0))), none]) F dX6_best_43 rfl (hL _ (by decide)) rfl rfl ?_
        refine j_iconst (v := nI (0)) F dX6_best_45 rfl (by decide) ?_
        refine j_istore (lv' := [some (.ref (X.E.1 + 55)), some (.int (x)), some (.int (L2)), some (.int (L3)), some (.int (nI (ii))), some (.int (nI (0))), some (.int (nI (0)))]) F dX6_best_46 rfl (hL _ (by decide)) rfl rfl ?_
        have loop_48 : ∀ (kk : Nat), kk ≤ (A.P.W * A.P.H) → J X 48 [some (.ref (X.E.1 + 55)), some (.int (x)), some (.int (L2)), some (.int (L3)), some (.int (nI (ii))), some (.int (nI (fa_cnt (fun s => decide (A.P.LS A.P.on (-9) s = 0) && A.P.free (ii % A.P.W) (ii / A.P.W) (s % A.P.W) (s / A.P.W) (-9)) kk))), some (.int (nI (kk)))] [] (upR σ 68 g_17) := by
          refine dnL (fun kk hkk ih_48 => ?_)
          have hck := fa_cnt_le (fun s => decide (A.P.LS A.P.on (-9) s = 0) && A.P.free (ii % A.P.W) (ii / A.P.W) (s % A.P.W) (s / A.P.W) (-9)) kk
          refine j_iload F dX6_best_48 rfl rfl ?_
          refine j_aload_n F dX6_best_50 rfl rfl ?_
          refine gX6_60 hn F dX6_best_51 rfl ?_
          refine j_int (y := nI (A.P.W)) (hM_17.w) ?_
          refine j_aload_n F dX6_best_54 rfl rfl ?_
          refine gX6_67 hn F dX6_best_55 rfl ?_
          refine j_int (y := nI (A.P.H)) (hM_17.h) ?_
          refine j_imulN (a := A.P.W) (b := A.P.H) F dX6_best_58 rfl ?_
          refine j_icmp_geN (a := kk) (b := A.P.W * A.P.H) F (by omega) (by omega) (tgt := 130) dX6_best_59 (by decide) rfl (fun c_59 => ?_) (fun c_59 => ?_)
          · have hkN : kk = A.P.W * A.P.H := by omega
            have hdk : fa_cnt (fun s => decide (A.P.LS A.P.on (-9) s = 0) && A.P.free (ii % A.P.W) (ii / A.P.W) (s % A.P.W) (s / A.P.W) (-9)) kk = A.P.dark (A.P.LS A.P.on (-9)) (ii % A.P.W) (ii / A.P.W) := by rw [hkN]; rfl
            refine j_lvq (lv' := [some (.ref (X.E.1 + 55)), some (.int (x)), some (.int (L2)), some (.int (L3)), some (.int (nI (ii))), some (.int (nI (A.P.dark (A.P.LS A.P.on (-9)) (ii % A.P.W) (ii / A.P.W)))), some (.int (nI (kk)))]) (by rw [hdk]) ?_
            refine j_iload F dX6_best_130 rfl rfl ?_
            refine j_iload_n F dX6_best_132 rfl rfl ?_
            refine j_icmp_le F (tgt := 165) dX6_best_133 (by decide) rfl (fun c_133 => ?_) (fun c_133 => ?_)
            · have hnx := bM_le hBd hI c_133
              refine j_iincN (a := ii) (c := 1) (lv' := [some (.ref (X.E.1 + 55)), some (.int (x)), some (.int (L2)), some (.int (L3)), some (.int (nI (ii + 1))), some (.int (nI (A.P.dark (A.P.LS A.P.on (-9)) (ii % A.P.W) (ii / A.P.W)))), some (.int (nI (kk)))]) F dX6_best_165 rfl rfl (by decide) (hL _ (by decide)) rfl rfl ?_
              refine j_goto (pc' := 28) F dX6_best_168 (by decide) ?_
              refine j_lv (lv' := [some (.ref (X.E.1 + 55)), some (.int (x)), some (.int (L2)), some (.int (L3)), some (.int (nI (ii + 1))), none, none]) (sbl (ks := [0, 1, 2, 3, 4]) rfl) ?_
              exact ih_28 (by omega) L2 L3 hnx
            · refine j_aload_n F dX6_best_136 rfl rfl ?_
              refine j_iload F dX6_best_137 rfl rfl ?_
              refine j_aload_n F dX6_best_139 rfl rfl ?_
              refine gX6_60 hn F dX6_best_140 rfl ?_
              refine j_int (y := nI (A.P.W)) (hM_17.w) ?_
              refine j_iremN (a := ii) (b := A.P.W) F (by omega) (by omega) (by omega) dX6_best_143 rfl ?_
              refine j_iload F dX6_best_144 rfl rfl ?_
              refine j_aload_n F dX6_best_146 rfl rfl ?_
              refine gX6_60 hn F dX6_best_147 rfl ?_
              refine j_int (y := nI (A.P.W)) (hM_17.w) ?_
              refine j_idivN (a := ii) (b := A.P.W) F (by omega) (by omega) (by omega) dX6_best_150 rfl ?_
              refine kX6_218 hn F (As := [.int (nI (ii % A.P.W)), .int (nI (ii / A.P.W))]) (rest := []) (c_X6_lampAt hn hM_17 hBd hLm (ii % A.P.W) (ii / A.P.W) (by omega) (by omega)) (by decide) rfl rfl (Nat.le_of_ble_eq_true rfl) dX6_best_151 rfl (fun v_151 σ_151 q_151 => ?_)
              obtain ⟨rfl, r_151, rfl, hat⟩ := q_151
              refine j_bipush (v := (-9 : Int32)) F dX6_best_154 rfl (by decide) ?_
              refine j_icmp_ne F (tgt := 165) dX6_best_156 (by decide) rfl (fun c_156 => ?_) (fun c_156 => ?_)
              · have hnx := bM_at hI (fun q => c_156 (hat.mpr q))
                refine j_iincN (a := ii) (c := 1) (lv' := [some (.ref (X.E.1 + 55)), some (.int (x)), some (.int (L2)), some (.int (L3)), some (.int (nI (ii + 1))), some (.int (nI (A.P.dark (A.P.LS A.P.on (-9)) (ii % A.P.W) (ii / A.P.W)))), some (.int (nI (kk)))]) F dX6_best_165 rfl rfl (by decide) (hL _ (by decide)) rfl rfl ?_
                refine j_goto (pc' := 28) F dX6_best_168 (by decide) ?_
                refine j_lv (lv' := [some (.ref (X.E.1 + 55)), some (.int (x)), some (.int (L2)), some (.int (L3)), some (.int (nI (ii + 1))), none, none]) (sbl (ks := [0, 1, 2, 3, 4]) rfl) ?_
                exact ih_28 (by omega) L2 L3 hnx
              · have hnx := bM_gt hBd (by omega) hI (hat.mp (by first | exact c_156 | exact Classical.byContradiction c_156)) c_133
                refine j_iload F dX6_best_159 rfl rfl ?_
                refine j_istore_n (lv' := [some (.ref (X.E.1 + 55)), some (.int (x)), some (.int (nI (A.P.dark (A.P.LS A.P.on (-9)) (ii % A.P.W) (ii / A.P.W)))), some (.int (L3)), some (.int (nI (ii))), some (.int (nI (A.P.dark (A.P.LS A.P.on (-9)) (ii % A.P.W) (ii / A.P.W)))), some (.int (nI (kk)))]) F dX6_best_161 rfl (hL _ (by decide)) rfl rfl ?_
                refine j_iload F dX6_best_162 rfl rfl ?_
                refine j_istore_n (lv' := [some (.ref (X.E.1 + 55)), some (.int (x)), some (.int (nI (A.P.dark (A.P.LS A.P.on (-9)) (ii % A.P.W) (ii / A.P.W)))), some (.int (nI (ii))), some (.int (nI (ii))), some (.int (nI (A.P.dark (A.P.LS A.P.on (-9)) (ii % A.P.W) (ii / A.P.W)))), some (.int (nI (kk)))]) F dX6_best_164 rfl (hL _ (by decide)) rfl rfl ?_
                refine j_iincN (a := ii) (c := 1) (lv' := [some (.ref (X.E.1 + 55)), some (.int (x)), some (.int (nI (A.P.dark (A.P.LS A.P.on (-9)) (ii % A.P.W) (ii / A.P.W)))), some (.int (nI (ii))), some (.int (nI (ii + 1))), some (.int (nI (A.P.dark (A.P.LS A.P.on (-9)) (ii % A.P.W) (ii / A.P.W)))), some (.int (nI (kk)))]) F dX6_best_165 rfl rfl (by decide) (hL _ (by decide)) rfl rfl ?_
                refine j_goto (pc' := 28) F dX6_best_168 (by decide) ?_
                refine j_lv (lv' := [some (.ref (X.E.1 + 55)), some (.int (x)), some (.int (nI (A.P.dark (A.P.LS A.P.on (-9)) (ii % A.P.W) (ii / A.P.W)))), some (.int (nI (ii))), some (.int (nI (ii + 1))), none, none]) (sbl (ks := [0, 1, 2, 3, 4]) rfl) ?_
                exact ih_28 (by omega) (nI (A.P.dark (A.P.LS A.P.on (-9)) (ii % A.P.W) (ii / A.P.W))) (nI (ii)) hnx
          · have hd3 : kk % A.P.W < A.P.W := Nat.mod_lt _ (by omega)
            have hd4 : kk / A.P.W < A.P.H := Nat.div_lt_of_lt_mul c_59
            have hLs : A.P.LS A.P.on (-9) kk < 256 := Bt_le b7
            refine j_iload F dX6_best_62 rfl rfl ?_
            refine j_aload_n F dX6_best_64 rfl rfl ?_
            refine gX6_47 hn F dX6_best_65 rfl ?_
            refine j_iload F dX6_best_68 rfl rfl ?_
            refine j_iaload (a := kk) F (by omega) rfl rfl (by omega) (by decide) dX6_best_70 rfl ?_
            refine j_int (y := nI (A.P.LM (kk % A.P.W) (kk / A.P.W) (-9))) (by rw [upR_s]; exact hg_17 kk c_59) ?_
            refine j_aload_n F dX6_best_71 rfl rfl ?_
            refine kX6_159 hn F (As := []) (rest := [.int (nI (A.P.LM (kk % A.P.W) (kk / A.P.W) (-9))), .int (nI (fa_cnt (fun s => decide (A.P.LS A.P.on (-9) s = 0) && A.P.free (ii % A.P.W) (ii / A.P.W) (s % A.P.W) (s / A.P.W) (-9)) kk))]) (c_X6_on hn hM_17 hBd hLm) (by decide) rfl rfl (Nat.le_of_ble_eq_true rfl) dX6_best_72 rfl (ro_k ?_)
            refine j_iand F dX6_best_75 rfl ?_
            refine j_int (y := nI (A.P.LS A.P.on (-9) kk)) (LM_on) ?_
            refine j_if_neN (a := A.P.LS A.P.on (-9) kk) F (by omega) (tgt := 120) dX6_best_76 (by decide) rfl (fun c_76 => ?_) (fun c_76 => ?_)
            · have hnx := fa_cnt_no (p := (fun s => decide (A.P.LS A.P.on (-9) s = 0) && A.P.free (ii % A.P.W) (ii / A.P.W) (s % A.P.W) (s / A.P.W) (-9))) (n := kk) (by show (decide _ && _) = false; rw [decide_eq_false c_76]; rfl)
              refine j_iconst (v := nI (0)) F dX6_best_120 rfl (by decide) ?_
              refine j_iaddN (a := fa_cnt (fun s => decide (A.P.LS A.P.on (-9) s = 0) && A.P.free (ii % A.P.W) (ii / A.P.W) (s % A.P.W) (s / A.P.W) (-9)) kk) (b := 0) F dX6_best_121 rfl ?_
              refine j_istore (lv' := [some (.ref (X.E.1 + 55)), some (.int (x)), some (.int (L2)), some (.int (L3)), some (.int (nI (ii))), some (.int (nI ((fa_cnt (fun s => decide (A.P.LS A.P.on (-9) s = 0) && A.P.free (ii % A.P.W) (ii / A.P.W) (s % A.P.W) (s / A.P.W) (-9)) kk) + 0))), some (.int (nI (kk)))]) F dX6_best_122 rfl (hL _ (by decide)) rfl rfl ?_
              refine j_iincN (a := kk) (c := 1) (lv' := [some (.ref (X.E.1 + 55)), some (.int (x)), some (.int (L2)), some (.int (L3)), some (.int (nI (ii))), some (.int (nI ((fa_cnt (fun s => decide (A.P.LS A.P.on (-9) s = 0) && A.P.free (ii % A.P.W) (ii / A.P.W) (s % A.P.W) (s / A.P.W) (-9)) kk) + 0))), some (.int (nI (kk + 1)))]) F dX6_best_124 rfl rfl (by decide) (hL _ (by decide)) rfl rfl ?_
              refine j_goto (pc' := 48) F dX6_best_127 (by decide) ?_
              refine j_lvq (lv' := [some (.ref (X.E.1 + 55)), some (.int (x)), some (.int (L2)), some (.int (L3)), some (.int (nI (ii))), some (.int (nI (fa_cnt (fun s => decide (A.P.LS A.P.on (-9) s = 0) && A.P.free (ii % A.P.W) (ii / A.P.W) (s % A.P.W) (s / A.P.W) (-9)) (kk + 1)))), some (.int (nI (kk + 1)))]) (by rw [hnx] <;> rfl) ?_
              exact ih_48 (by omega)
            · refine j_aload_n F dX6_best_79 rfl rfl ?_
              refine j_iload F dX6_best_80 rfl rfl ?_
              refine j_aload_n F dX6_best_82 rfl rfl ?_
              refine gX6_60 hn F dX6_best_83 rfl ?_
              refine j_int (y := nI (A.P.W)) (hM_17.w) ?_
              refine j_iremN (a := ii) (b := A.P.W) F (by omega) (by omega) (by omega) dX6_best_86 rfl ?_
              refine j_iload F dX6_best_87 rfl rfl ?_
              refine j_aload_n F dX6_best_89 rfl rfl ?_
              refine gX6_60 hn F dX6_best_90 rfl ?_
              refine j_int (y := nI (A.P.W)) (hM_17.w) ?_
              refine j_idivN (a := ii) (b := A.P.W) F (by omega) (by omega) (by omega) dX6_best_93 rfl ?_
              refine j_iload F dX6_best_94 rfl rfl ?_
              refine j_aload_n F dX6_best_96 rfl rfl ?_
              refine gX6_60 hn F dX6_best_97 rfl ?_
              refine j_int (y := nI (A.P.W)) (hM_17.w) ?_
              refine j_iremN (a := kk) (b := A.P.W) F (by omega) (by omega) (by omega) dX6_best_100 rfl ?_
              refine j_iload F dX6_best_101 rfl rfl ?_
              refine j_aload_n F dX6_best_103 rfl rfl ?_
              refine gX6_60 hn F dX6_best_104 rfl ?_
              refine j_int (y := nI (A.P.W)) (hM_17.w) ?_
              refine j_idivN (a := kk) (b := A.P.W) F (by omega) (by omega) (by omega) dX6_best_107 rfl ?_
              refine j_bipush (v := (-9 : Int32)) F dX6_best_108 rfl (by decide) ?_
              refine kX6_148 hn F (As := [.int (nI (ii % A.P.W)), .int (nI (ii / A.P.W)), .int (nI (kk % A.P.W)), .int (nI (kk / A.P.W)), .int ((-9 : Int32))]) (rest := [.int (nI (fa_cnt (fun s => decide (A.P.LS A.P.on (-9) s = 0) && A.P.free (ii % A.P.W) (ii / A.P.W) (s % A.P.W) (s / A.P.W) (-9)) kk))]) (c_X6_isLit hn hM_17 hBd hWl (ii % A.P.W) (ii / A.P.W) (kk % A.P.W) (kk / A.P.W) ((-9 : Int32)) (by omega) (by omega) (by omega) (by omega)) (by decide) rfl rfl (Nat.le_of_ble_eq_true rfl) dX6_best_110 rfl (ro_k ?_)
              refine j_if_eqB F (x := A.P.free (ii % A.P.W) (ii / A.P.W) (kk % A.P.W) (kk / A.P.W) ((-9 : Int32))) (tgt := 120) dX6_best_113 (by decide) rfl (fun c_113 => ?_) (fun c_113 => ?_)
              · have hnx := fa_cnt_no (p := (fun s => decide (A.P.LS A.P.on (-9) s = 0) && A.P.free (ii % A.P.W) (ii / A.P.W) (s % A.P.W) (s / A.P.W) (-9))) (n := kk) (by show (decide _ && A.P.free _ _ _ _ _) = false; rw [c_113, Bool.and_false])
                refine j_iconst (v := nI (0)) F dX6_best_120 rfl (by decide) ?_
                refine j_iaddN (a := fa_cnt (fun s => decide (A.P.LS A.P.on (-9) s = 0) && A.P.free (ii % A.P.W) (ii / A.P.W) (s % A.P.W) (s / A.P.W) (-9)) kk) (b := 0) F dX6_best_121 rfl ?_
                refine j_istore (lv' := [some (.ref (X.E.1 + 55)), some (.int (x)), some (.int (L2)), some (.int (L3)), some (.int (nI (ii))), some (.int (nI ((fa_cnt (fun s => decide (A.P.LS A.P.on (-9) s = 0) && A.P.free (ii % A.P.W) (ii / A.P.W) (s % A.P.W) (s / A.P.W) (-9)) kk) + 0))), some (.int (nI (kk)))]) F dX6_best_122 rfl (hL _ (by decide)) rfl rfl ?_
                refine j_iincN (a := kk) (c := 1) (lv' := [some (.ref (X.E.1 + 55)), some (.int (x)), some (.int (L2)), some (.int (L3)), some (.int (nI (ii))), some (.int (nI ((fa_cnt (fun s => decide (A.P.LS A.P.on (-9) s = 0) && A.P.free (ii % A.P.W) (ii / A.P.W) (s % A.P.W) (s / A.P.W) (-9)) kk) + 0))), some (.int (nI (kk + 1)))]) F dX6_best_124 rfl rfl (by decide) (hL _ (by decide)) rfl rfl ?_
                refine j_goto (pc' := 48) F dX6_best_127 (by decide) ?_
                refine j_lvq (lv' := [some (.ref (X.E.1 + 55)), some (.int (x)), some (.int (L2)), some (.int (L3)), some (.int (nI (ii))), some (.int (nI (fa_cnt (fun s => decide (A.P.LS A.P.on (-9) s = 0) && A.P.free (ii % A.P.W) (ii / A.P.W) (s % A.P.W) (s / A.P.W) (-9)) (kk + 1)))), some (.int (nI (kk + 1)))]) (by rw [hnx] <;> rfl) ?_
                exact ih_48 (by omega)
              · have hnx := fa_cnt_yes (p := (fun s => decide (A.P.LS A.P.on (-9) s = 0) && A.P.free (ii % A.P.W) (ii / A.P.W) (s % A.P.W) (s / A.P.W) (-9))) (n := kk) (by show (decide _ && A.P.free _ _ _ _ _) = true; rw [c_113, decide_eq_true c_76]; rfl)
                refine j_iconst (v := nI (1)) F dX6_best_116 rfl (by decide) ?_
                refine j_goto (pc' := 121) F dX6_best_117 (by decide) ?_
                refine j_iaddN (a := fa_cnt (fun s => decide (A.P.LS A.P.on (-9) s = 0) && A.P.free (ii % A.P.W) (ii / A.P.W) (s % A.P.W) (s / A.P.W) (-9)) kk) (b := 1) F dX6_best_121 rfl ?_
                refine j_istore (lv' := [some (.ref (X.E.1 + 55)), some (.int (x)), some (.int (L2)), some (.int (L3)), some (.int (nI (ii))), some (.int (nI ((fa_cnt (fun s => decide (A.P.LS A.P.on (-9) s = 0) && A.P.free (ii % A.P.W) (ii / A.P.W) (s % A.P.W) (s / A.P.W) (-9)) kk) + 1))), some (.int (nI (kk)))]) F dX6_best_122 rfl (hL _ (by decide)) rfl rfl ?_
                refine j_iincN (a := kk) (c := 1) (lv' := [some (.ref (X.E.1 + 55)), some (.int (x)), some (.int (L2)), some (.int (L3)), some (.int (nI (ii))), some (.int (nI ((fa_cnt (fun s => decide (A.P.LS A.P.on (-9) s = 0) && A.P.free (ii % A.P.W) (ii / A.P.W) (s % A.P.W) (s / A.P.W) (-9)) kk) + 1))), some (.int (nI (kk + 1)))]) F dX6_best_124 rfl rfl (by decide) (hL _ (by decide)) rfl rfl ?_
                refine j_goto (pc' := 48) F dX6_best_127 (by decide) ?_
                refine j_lvq (lv' := [some (.ref (X.E.1 + 55)), some (.int (x)), some (.int (L2)), some (.int (L3)), some (.int (nI (ii))), some (.int (nI (fa_cnt (fun s => decide (A.P.LS A.P.on (-9) s = 0) && A.P.free (ii % A.P.W) (ii / A.P.W) (s % A.P.W) (s / A.P.W) (-9)) (kk + 1)))), some (.int (nI (kk + 1)))]) (by rw [hnx] <;> rfl) ?_
                exact ih_48 (by omega)
        exact loop_48 0 (by omega)  
    exact loop_28 0 (by omega) (-1) (-9) (Or.inl ⟨rfl, rfl, rfl⟩)
  · have hz : ¬ (¬ x < 0 ∧ x ≤ nI 2) := of_decide_eq_false c_11
    refine j_iconst (v := (-1 : Int32)) F dX6_best_14 rfl (by decide) ?_
    exact j_iret F hRt rfl (oM_q (if_neg hz) hR FrM.rf) dX6_best_15

set_option maxRecDepth 10000 in
set_option maxHeartbeats 2000000 in
theorem c_X6_gain {l : Launch} {n : Nat} {E : Ev} {σ : St} {A : Ab} (hn : 69 ≤ n) (hA : AI A) (hR : MR σ A) (w : Int32) : Ct l yX6_gain cX6_gain 2 (some .int) 6 n E [.ref (E.1 + 55), .int (w)] σ (oM σ (o_gain A w)) := by
  refine Ct.of (lv0 := [some (.ref (E.1 + 55)), some (.int (w))]) (by decide) (Nat.le_of_ble_eq_true rfl) rfl ?_
  intro X hXn hXE hXl hXL F hRt
  subst hXn hXE hXl
  have hL : ∀ i, i < 2 → i < X.nL := fun i h => by rw [hXL]; exact h
  have hTh := hR.1
  have hM := hR.2.1
  have hG := hA.1
  have hBd := hG.1
  have hWl := hG.2.1
  have hLm := hG.2.2.1
  have hB0 := hBd
  obtain ⟨b1, b2, b3, b4, b5, b6, b7⟩ := hB0
  refine j_aload_n F dX6_gain_0 rfl rfl ?_
  refine j_iconst (v := nI (0)) F dX6_gain_1 rfl (by decide) ?_
  refine pX6_56 hn F dX6_gain_2 rfl ?_
  refine j_store (σ' := σ) (up_id hTh) ?_
  refine j_iload_n F dX6_gain_5 rfl rfl ?_
  refine j_iconst (v := nI (3)) F dX6_gain_6 rfl (by decide) ?_
  refine j_icmp_le F (tgt := 33) dX6_gain_7 (by decide) rfl (fun c_7 => ?_) (fun c_7 => ?_)
  · have hz : ¬ in4 w A.P.nw = true := by rw [in4_e (by omega)]; intro q; exact (of_decide_eq_true q).1 c_7
    refine j_iconst (v := (-1 : Int32)) F dX6_gain_33 rfl (by decide) ?_
    exact j_iret F hRt rfl (oM_q (if_neg hz) hR FrM.rf) dX6_gain_34
  · refine j_aload_n F dX6_gain_10 rfl rfl ?_
    refine j_iload_n F dX6_gain_11 rfl rfl ?_
    refine kX6_135 hn F (As := [.int (w)]) (rest := []) (c_X6_isWall hn hM hBd w) (by decide) rfl rfl (Nat.le_of_ble_eq_true rfl) dX6_gain_12 rfl (ro_k ?_)
    refine j_if_eqB F (x := inR w A.P.nw) (tgt := 33) dX6_gain_15 (by decide) rfl (fun c_15 => ?_) (fun c_15 => ?_)
    · have hz : ¬ in4 w A.P.nw = true := by rw [in4_e (by omega)]; intro q; have r := (of_decide_eq_true q).2; rw [c_15] at r; cases r
      refine j_iconst (v := (-1 : Int32)) F dX6_gain_33 rfl (by decide) ?_
      exact j_iret F hRt rfl (oM_q (if_neg hz) hR FrM.rf) dX6_gain_34
    · have hz : in4 w A.P.nw = true := by rw [in4_e (by omega)]; exact decide_eq_true ⟨c_7, c_15⟩
      refine j_aload_n F dX6_gain_18 rfl rfl ?_
      refine j_iload_n F dX6_gain_19 rfl rfl ?_
      refine kX6_166 hn F (As := [.int (w)]) (rest := []) (c_X6_allBy hn hM hBd hWl hLm w) (by decide) rfl rfl (Nat.le_of_ble_eq_true rfl) dX6_gain_20 rfl (ro_k ?_)
      refine j_aload_n F dX6_gain_23 rfl rfl ?_
      refine j_bipush (v := (-9 : Int32)) F dX6_gain_24 rfl (by decide) ?_
      refine kX6_166 hn F (As := [.int ((-9 : Int32))]) (rest := [.int (nI (A.P.cL A.P.on w))]) (c_X6_allBy hn hM hBd hWl hLm ((-9 : Int32))) (by decide) rfl rfl (Nat.le_of_ble_eq_true rfl) dX6_gain_26 rfl (ro_k ?_)
      refine j_isub F dX6_gain_29 rfl ?_
      refine j_goto (pc' := 34) F dX6_gain_30 (by decide) ?_
      exact j_iret F hRt rfl (oM_q (by rw [if_pos hz]) hR FrM.rf) dX6_gain_34

set_option maxRecDepth 10000 in
set_option maxHeartbeats 2000000 in
theorem c_X6_worst {l : Launch} {n : Nat} {E : Ev} {σ : St} {A : Ab} (hn : 69 ≤ n) (hA : AI A) (hR : MR σ A) : Ct l yX6_worst cX6_worst 5 (some .int) 6 n E [.ref (E.1 + 55)] σ (oM σ (o_worst A)) := by
  refine Ct.of (lv0 := [some (.ref (E.1 + 55)), none, none, none, none]) (by decide) (Nat.le_of_ble_eq_true rfl) rfl ?_
  intro X hXn hXE hXl hXL F hRt
  subst hXn hXE hXl
  have hL : ∀ i, i < 5 → i < X.nL := fun i h => by rw [hXL]; exact h
  have hTh := hR.1
  have hM := hR.2.1
  have hG := hA.1
  have hBd := hG.1
  have hWl := hG.2.1
  have hLm := hG.2.2.1
  have hB0 := hBd
  obtain ⟨b1, b2, b3, b4, b5, b6, b7⟩ := hB0
  refine j_aload_n F dX6_worst_0 rfl rfl ?_
  refine j_iconst (v := nI (0)) F dX6_worst_1 rfl (by decide) ?_
  refine pX6_56 hn F dX6_worst_2 rfl ?_
  refine j_store (σ' := σ) (up_id hTh) ?_
  refine j_iconst (v := (-1 : Int32)) F dX6_worst_5 rfl (by decide) ?_
  refine j_istore_n (lv' := [some (.ref (X.E.1 + 55)), some (.int ((-1 : Int32))), none, none, none]) F dX6_worst_6 rfl (hL _ (by decide)) rfl rfl ?_
  refine j_bipush (v := (-9 : Int32)) F dX6_worst_7 rfl (by decide) ?_
  refine j_istore_n (lv' := [some (.ref (X.E.1 + 55)), some (.int ((-1 : Int32))), some (.int ((-9 : Int32))), none, none]) F dX6_worst_9 rfl (hL _ (by decide)) rfl rfl ?_
  refine j_iconst (v := nI (4)) F dX6_worst_10 rfl (by decide) ?_
  refine j_istore_n (lv' := [some (.ref (X.E.1 + 55)), some (.int ((-1 : Int32))), some (.int ((-9 : Int32))), some (.int (nI (4))), none]) F dX6_worst_11 rfl (hL _ (by decide)) rfl rfl ?_
  have loop_12 : ∀ (ii : Nat), ii ≤ A.P.nw → ∀ (L1 : Int32) (L2 : Int32), (4 ≤ ii) → (wM (wrsC A.P ii) L1 L2) → J X 12 [some (.ref (X.E.1 + 55)), some (.int (L1)), some (.int (L2)), some (.int (nI (ii))), none] [] σ := by
    refine dnL (fun ii hii ih_12 => ?_)
    intro L1 L2 h4 hI
    refine j_iload_n F dX6_worst_12 rfl rfl ?_
    refine j_aload_n F dX6_worst_13 rfl rfl ?_
    refine gX6_7 hn F dX6_worst_14 rfl ?_
    refine j_iconst (v := nI (1)) F dX6_worst_17 rfl (by decide) ?_
    refine j_iaload (a := 1) F (by omega) rfl rfl (by omega) (by decide) dX6_worst_18 rfl ?_
    refine j_int (y := nI (A.P.nw)) (hM.nw) ?_
    refine j_icmp_geN (a := ii) (b := A.P.nw) F (by omega) (by omega) (tgt := 60) dX6_worst_19 (by decide) rfl (fun c_19 => ?_) (fun c_19 => ?_)
    · have hiN : ii = A.P.nw := by omega
      refine j_iload_n F dX6_worst_60 rfl rfl ?_
      exact j_iret F hRt rfl (oM_q (by rw [← hiN]; exact wM_end hI) hR FrM.rf) dX6_worst_61
    · refine j_aload_n F dX6_worst_22 rfl rfl ?_
      refine j_iload_n F dX6_worst_23 rfl rfl ?_
      refine kX6_166 hn F (As := [.int (nI (ii))]) (rest := []) (c_X6_allBy hn hM hBd hWl hLm (nI (ii))) (by decide) rfl rfl (Nat.le_of_ble_eq_true rfl) dX6_worst_24 rfl (ro_k ?_)
      refine j_istore (lv' := [some (.ref (X.E.1 + 55)), some (.int (L1)), some (.int (L2)), some (.int (nI (ii))), some (.int (nI (A.P.cL A.P.on (nI (ii)))))]) F dX6_worst_27 rfl (hL _ (by decide)) rfl rfl ?_
      refine j_iload F dX6_worst_29 rfl rfl ?_
      refine j_iload_n F dX6_worst_31 rfl rfl ?_
      refine j_icmp_le F (tgt := 39) dX6_worst_32 (by decide) rfl (fun c_32 => ?_) (fun c_32 => ?_)
      · have hnx := wM_le hBd h4 hI c_32
        refine j_iload_n F dX6_worst_39 rfl rfl ?_
        refine j_istore_n (lv' := [some (.ref (X.E.1 + 55)), some (.int (L1)), some (.int (L2)), some (.int (nI (ii))), some (.int (nI (A.P.cL A.P.on (nI (ii)))))]) F dX6_worst_40 rfl (hL _ (by decide)) rfl rfl ?_
        refine j_iload F dX6_worst_41 rfl rfl ?_
        refine j_iload_n F dX6_worst_43 rfl rfl ?_
        refine j_icmp_le F (tgt := 52) dX6_worst_44 (by decide) rfl (fun c_44 => ?_) (fun c_44 => False.elim (c_44 c_32))
        refine j_iload_n F dX6_worst_52 rfl rfl ?_
        refine j_istore_n (lv' := [some (.ref (X.E.1 + 55)), some (.int (L1)), some (.int (L2)), some (.int (nI (ii))), some (.int (nI (A.P.cL A.P.on (nI (ii)))))]) F dX6_worst_53 rfl (hL _ (by decide)) rfl rfl ?_
        refine j_iincN (a := ii) (c := 1) (lv' := [some (.ref (X.E.1 + 55)), some (.int (L1)), some (.int (L2)), some (.int (nI (ii + 1))), some (.int (nI (A.P.cL A.P.on (nI (ii)))))]) F dX6_worst_54 rfl rfl (by decide) (hL _ (by decide)) rfl rfl ?_
        refine j_goto (pc' := 12) F dX6_worst_57 (by decide) ?_
        refine j_lv (lv' := [some (.ref (X.E.1 + 55)), some (.int (L1)), some (.int (L2)), some (.int (nI (ii + 1))), none]) (sbl (ks := [0, 1, 2, 3]) rfl) ?_
        exact ih_12 (by omega) L1 L2 (by omega) hnx
      · have hnx := wM_gt hBd h4 hI c_32
        refine j_iload_n F dX6_worst_35 rfl rfl ?_
        refine j_goto (pc' := 40) F dX6_worst_36 (by decide) ?_
        refine j_istore_n (lv' := [some (.ref (X.E.1 + 55)), some (.int (L1)), some (.int (nI (ii))), some (.int (nI (ii))), some (.int (nI (A.P.cL A.P.on (nI (ii)))))]) F dX6_worst_40 rfl (hL _ (by decide)) rfl rfl ?_
        refine j_iload F dX6_worst_41 rfl rfl ?_
        refine j_iload_n F dX6_worst_43 rfl rfl ?_
        refine j_icmp_le F (tgt := 52) dX6_worst_44 (by decide) rfl (fun c_44 => False.elim (c_32 c_44)) (fun c_44 => ?_)
        refine j_iload F dX6_worst_47 rfl rfl ?_
        refine j_goto (pc' := 53) F dX6_worst_49 (by decide) ?_
        refine j_istore_n (lv' := [some (.ref (X.E.1 + 55)), some (.int (nI (A.P.cL A.P.on (nI (ii))))), some (.int (nI (ii))), some (.int (nI (ii))), some (.int (nI (A.P.cL A.P.on (nI (ii)))))]) F dX6_worst_53 rfl (hL _ (by decide)) rfl rfl ?_
        refine j_iincN (a := ii) (c := 1) (lv' := [some (.ref (X.E.1 + 55)), some (.int (nI (A.P.cL A.P.on (nI (ii))))), some (.int (nI (ii))), some (.int (nI (ii + 1))), some (.int (nI (A.P.cL A.P.on (nI (ii)))))]) F dX6_worst_54 rfl rfl (by decide) (hL _ (by decide)) rfl rfl ?_
        refine j_goto (pc' := 12) F dX6_worst_57 (by decide) ?_
        refine j_lv (lv' := [some (.ref (X.E.1 + 55)), some (.int (nI (A.P.cL A.P.on (nI (ii))))), some (.int (nI (ii))), some (.int (nI (ii + 1))), none]) (sbl (ks := [0, 1, 2, 3]) rfl) ?_
        exact ih_12 (by omega) (nI (A.P.cL A.P.on (nI (ii)))) (nI (ii)) (by omega) hnx
  exact loop_12 4 (by omega) (-1) (-9) (Nat.le_refl 4) (Or.inl ⟨rfl, rfl, rfl⟩)

set_option maxRecDepth 10000 in
set_option maxHeartbeats 2000000 in
theorem c_X6_unseen {l : Launch} {n : Nat} {E : Ev} {σ : St} {A : Ab} (hn : 69 ≤ n) (hA : AI A) (hR : MR σ A) : Ct l yX6_unseen cX6_unseen 6 (some .int) 5 n E [.ref (E.1 + 55)] σ (oM σ (o_unseen A)) := by
  refine Ct.of (lv0 := [some (.ref (E.1 + 55)), none, none, none, none, none]) (by decide) (Nat.le_of_ble_eq_true rfl) rfl ?_
  intro X hXn hXE hXl hXL F hRt
  subst hXn hXE hXl
  have hL : ∀ i, i < 6 → i < X.nL := fun i h => by rw [hXL]; exact h
  have hTh := hR.1
  have hM := hR.2.1
  have hG := hA.1
  have hBd := hG.1
  have hWl := hG.2.1
  have hLm := hG.2.2.1
  have hB0 := hBd
  obtain ⟨b1, b2, b3, b4, b5, b6, b7⟩ := hB0
  have hs6 := hA.2.2.2.1
  have hon : A.P.on < 256 := Bt_le b7
  refine j_aload_n F dX6_unseen_0 rfl rfl ?_
  refine j_iconst (v := nI (0)) F dX6_unseen_1 rfl (by decide) ?_
  refine pX6_56 hn F dX6_unseen_2 rfl ?_
  refine j_store (σ' := σ) (up_id hTh) ?_
  refine j_iconst (v := nI (0)) F dX6_unseen_5 rfl (by decide) ?_
  refine j_istore_n (lv' := [some (.ref (X.E.1 + 55)), some (.int (nI (0))), none, none, none, none]) F dX6_unseen_6 rfl (hL _ (by decide)) rfl rfl ?_
  refine j_iconst (v := nI (0)) F dX6_unseen_7 rfl (by decide) ?_
  refine j_istore_n (lv' := [some (.ref (X.E.1 + 55)), some (.int (nI (0))), some (.int (nI (0))), none, none, none]) F dX6_unseen_8 rfl (hL _ (by decide)) rfl rfl ?_
  have loop_9 : ∀ (ii : Nat), ii ≤ A.P.nl → J X 9 [some (.ref (X.E.1 + 55)), some (.int (nI (Bt (fun l => uB A.P A.sn l A.sn.length) ii))), some (.int (nI (ii))), none, none, none] [] σ := by
    refine dnL (fun ii hii ih_9 => ?_)
    refine j_iload_n F dX6_unseen_9 rfl rfl ?_
    refine j_aload_n F dX6_unseen_10 rfl rfl ?_
    refine gX6_7 hn F dX6_unseen_11 rfl ?_
    refine j_iconst (v := nI (0)) F dX6_unseen_14 rfl (by decide) ?_
    refine j_iaload (a := 0) F (by omega) rfl rfl (by omega) (by decide) dX6_unseen_15 rfl ?_
    refine j_int (y := nI (A.P.nl)) (hM.nl) ?_
    refine j_icmp_geN (a := ii) (b := A.P.nl) F (by omega) (by omega) (tgt := 145) dX6_unseen_16 (by decide) rfl (fun c_16 => ?_) (fun c_16 => ?_)
    · have hiN : ii = A.P.nl := by omega
      refine j_iload_n F dX6_unseen_145 rfl rfl ?_
      exact j_iret F hRt rfl (oM_q (by rw [uns_eq, hiN]) hR FrM.rf) dX6_unseen_146
    · have hlo := hLm ii c_16
      unfold LampOK at hlo
      refine j_aload_n F dX6_unseen_19 rfl rfl ?_
      refine j_iload_n F dX6_unseen_20 rfl rfl ?_
      refine j_iconst (v := nI (2)) F dX6_unseen_21 rfl (by decide) ?_
      refine kX6_70 hn F (As := [.int (nI (ii)), .int (nI (2))]) (rest := []) (c_X6_ofLamp hn hM hBd ii 2 (by omega) (by omega)) (by decide) rfl rfl (Nat.le_of_ble_eq_true rfl) dX6_unseen_22 rfl (ro_k ?_)
      refine j_iconst (v := nI (1)) F dX6_unseen_25 rfl (by decide) ?_
      refine j_icmp_neN (a := A.P.lp ii 2) (b := 1) F (by omega) (by omega) (tgt := 33) dX6_unseen_26 (by decide) rfl (fun c_26 => ?_) (fun c_26 => ?_)
      · have hu0 : uB A.P A.sn ii 0 = false := by rw [uB]; exact beq_eq_false_iff_ne.mpr c_26
        refine j_iconst (v := nI (0)) F dX6_unseen_33 rfl (by decide) ?_
        refine j_istore_n (lv' := [some (.ref (X.E.1 + 55)), some (.int (nI (Bt (fun l => uB A.P A.sn l A.sn.length) ii))), some (.int (nI (ii))), some (.int (nI (0))), none, none]) F dX6_unseen_34 rfl (hL _ (by decide)) rfl rfl ?_
        refine j_iconst (v := nI (0)) F dX6_unseen_35 rfl (by decide) ?_
        refine j_istore (lv' := [some (.ref (X.E.1 + 55)), some (.int (nI (Bt (fun l => uB A.P A.sn l A.sn.length) ii))), some (.int (nI (ii))), some (.int (nI (0))), some (.int (nI (0))), none]) F dX6_unseen_36 rfl (hL _ (by decide)) rfl rfl ?_
        refine j_lv (lv' := [some (.ref (X.E.1 + 55)), some (.int (nI (Bt (fun l => uB A.P A.sn l A.sn.length) ii))), some (.int (nI (ii))), some (.int (nI (0))), some (.int (nI (0))), none]) (sbl (ks := [0, 1, 2, 3, 4]) rfl) ?_
        refine j_lvq (lv' := [some (.ref (X.E.1 + 55)), some (.int (nI (Bt (fun l => uB A.P A.sn l A.sn.length) ii))), some (.int (nI (ii))), some (.int (bI (uB A.P A.sn ii 0))), some (.int (nI (0))), none]) (by rw [hu0]; rfl) ?_
        have loop_38 : ∀ (kk : Nat), kk ≤ A.sn.length → J X 38 [some (.ref (X.E.1 + 55)), some (.int (nI (Bt (fun l => uB A.P A.sn l A.sn.length) ii))), some (.int (nI (ii))), some (.int (bI (uB A.P A.sn ii kk))), some (.int (nI (kk))), none] [] σ := by
          refine dnL (fun kk hkk ih_38 => ?_)
          refine j_iload F dX6_unseen_38 rfl rfl ?_
          refine j_aload_n F dX6_unseen_40 rfl rfl ?_
          refine gX6_129 hn F dX6_unseen_41 rfl ?_
          refine j_int (y := nI (A.sn.length)) (hR.2.2.2.2.2.1) ?_
          refine j_icmp_geN (a := kk) (b := A.sn.length) F (by omega) (by omega) (tgt := 125) dX6_unseen_44 (by decide) rfl (fun c_44 => ?_) (fun c_44 => ?_)
          · have hkN : kk = A.sn.length := by omega
            refine j_iload_n F dX6_unseen_125 rfl rfl ?_
            refine j_iload_n F dX6_unseen_126 rfl rfl ?_
            refine j_if_eqB F (x := uB A.P A.sn ii kk) (tgt := 136) dX6_unseen_127 (by decide) rfl (fun c_127 => ?_) (fun c_127 => ?_)
            · have hnx2 : Bt (fun l => uB A.P A.sn l A.sn.length) (ii + 1) = Bt (fun l => uB A.P A.sn l A.sn.length) ii ||| 0 := by rw [Bt, if_neg (fun q => by rw [← hkN] at q; rw [show uB A.P A.sn ii kk = true from q] at c_127; cases c_127)]
              refine j_iconst (v := nI (0)) F dX6_unseen_136 rfl (by decide) ?_
              refine j_ior F dX6_unseen_137 rfl ?_
              refine j_int (y := nI (Bt (fun l => uB A.P A.sn l A.sn.length) (ii + 1))) ((fa_or _ _).trans (by rw [hnx2])) ?_
              refine j_istore_n (lv' := [some (.ref (X.E.1 + 55)), some (.int (nI (Bt (fun l => uB A.P A.sn l A.sn.length) (ii + 1)))), some (.int (nI (ii))), some (.int (bI (uB A.P A.sn ii kk))), some (.int (nI (kk))), none]) F dX6_unseen_138 rfl (hL _ (by decide)) rfl rfl ?_
              refine j_iincN (a := ii) (c := 1) (lv' := [some (.ref (X.E.1 + 55)), some (.int (nI (Bt (fun l => uB A.P A.sn l A.sn.length) (ii + 1)))), some (.int (nI (ii + 1))), some (.int (bI (uB A.P A.sn ii kk))), some (.int (nI (kk))), none]) F dX6_unseen_139 rfl rfl (by decide) (hL _ (by decide)) rfl rfl ?_
              refine j_goto (pc' := 9) F dX6_unseen_142 (by decide) ?_
              refine j_lv (lv' := [some (.ref (X.E.1 + 55)), some (.int (nI (Bt (fun l => uB A.P A.sn l A.sn.length) (ii + 1)))), some (.int (nI (ii + 1))), none, none, none]) (sbl (ks := [0, 1, 2]) rfl) ?_
              exact ih_9 (by omega)
            · have hnx2 : Bt (fun l => uB A.P A.sn l A.sn.length) (ii + 1) = Bt (fun l => uB A.P A.sn l A.sn.length) ii ||| 2 ^ ii := by rw [Bt, if_pos (by show uB A.P A.sn ii A.sn.length = true; rw [← hkN]; exact c_127)]
              refine j_iconst (v := nI (1)) F dX6_unseen_130 rfl (by decide) ?_
              refine j_iload_n F dX6_unseen_131 rfl rfl ?_
              refine j_ishl F dX6_unseen_132 rfl ?_
              refine j_int (y := nI (2 ^ ii)) (sh_n (Nat.le_refl 1) (by omega)) ?_
              refine j_goto (pc' := 137) F dX6_unseen_133 (by decide) ?_
              refine j_ior F dX6_unseen_137 rfl ?_
              refine j_int (y := nI (Bt (fun l => uB A.P A.sn l A.sn.length) (ii + 1))) ((fa_or _ _).trans (by rw [hnx2])) ?_
              refine j_istore_n (lv' := [some (.ref (X.E.1 + 55)), some (.int (nI (Bt (fun l => uB A.P A.sn l A.sn.length) (ii + 1)))), some (.int (nI (ii))), some (.int (bI (uB A.P A.sn ii kk))), some (.int (nI (kk))), none]) F dX6_unseen_138 rfl (hL _ (by decide)) rfl rfl ?_
              refine j_iincN (a := ii) (c := 1) (lv' := [some (.ref (X.E.1 + 55)), some (.int (nI (Bt (fun l => uB A.P A.sn l A.sn.length) (ii + 1)))), some (.int (nI (ii + 1))), some (.int (bI (uB A.P A.sn ii kk))), some (.int (nI (kk))), none]) F dX6_unseen_139 rfl rfl (by decide) (hL _ (by decide)) rfl rfl ?_
              refine j_goto (pc' := 9) F dX6_unseen_142 (by decide) ?_
              refine j_lv (lv' := [some (.ref (X.E.1 + 55)), some (.int (nI (Bt (fun l => uB A.P A.sn l A.sn.length) (ii + 1)))), some (.int (nI (ii + 1))), none, none, none]) (sbl (ks := [0, 1, 2]) rfl) ?_
              exact ih_9 (by omega)
          · have hmem : (A.sn.getD kk (0, 0, 0)) ∈ A.sn := by rw [List.getD_eq_getElem?_getD, List.getElem?_eq_getElem c_44]; exact List.getElem_mem c_44
            obtain ⟨hq1, hq2, hq3⟩ := hA.2.2.2.2 _ hmem
            obtain ⟨sx, sy, sz⟩ := hR.2.2.2.2.2.2 kk c_44
            have hla : A.P.LA (A.sn.getD kk (0, 0, 0)).1 (A.sn.getD kk (0, 0, 0)).2.1 A.P.on (-9) < 256 := Bt_le b7
            refine j_aload_n F dX6_unseen_47 rfl rfl ?_
            refine j_aload_n F dX6_unseen_48 rfl rfl ?_
            refine gX6_23 hn F dX6_unseen_49 rfl ?_
            refine j_iload F dX6_unseen_52 rfl rfl ?_
            refine j_iaload (a := kk) F (by omega) rfl rfl (by omega) (by decide) dX6_unseen_54 rfl ?_
            refine j_int (y := nI ((A.sn.getD kk (0, 0, 0)).1)) (sx) ?_
            refine j_aload_n F dX6_unseen_55 rfl rfl ?_
            refine gX6_26 hn F dX6_unseen_56 rfl ?_
            refine j_iload F dX6_unseen_59 rfl rfl ?_
            refine j_iaload (a := kk) F (by omega) rfl rfl (by omega) (by decide) dX6_unseen_61 rfl ?_
            refine j_int (y := nI ((A.sn.getD kk (0, 0, 0)).2.1)) (sy) ?_
            refine j_bipush (v := (-9 : Int32)) F dX6_unseen_62 rfl (by decide) ?_
            refine kX6_155 hn F (As := [.int (nI ((A.sn.getD kk (0, 0, 0)).1)), .int (nI ((A.sn.getD kk (0, 0, 0)).2.1)), .int ((-9 : Int32))]) (rest := []) (c_X6_lampsOf hn hM hBd hWl hLm ((A.sn.getD kk (0, 0, 0)).1) ((A.sn.getD kk (0, 0, 0)).2.1) ((-9 : Int32)) (by omega) (by omega)) (by decide) rfl rfl (Nat.le_of_ble_eq_true rfl) dX6_unseen_64 rfl (ro_k ?_)
            refine j_aload_n F dX6_unseen_67 rfl rfl ?_
            refine kX6_159 hn F (As := []) (rest := [.int (nI (A.P.LM ((A.sn.getD kk (0, 0, 0)).1) ((A.sn.getD kk (0, 0, 0)).2.1) ((-9 : Int32))))]) (c_X6_on hn hM hBd hLm) (by decide) rfl rfl (Nat.le_of_ble_eq_true rfl) dX6_unseen_68 rfl (ro_k ?_)
            refine j_iand F dX6_unseen_71 rfl ?_
            refine j_int (y := nI (A.P.LA (A.sn.getD kk (0, 0, 0)).1 (A.sn.getD kk (0, 0, 0)).2.1 A.P.on (-9))) (LM_on) ?_
            refine j_iconst (v := nI (1)) F dX6_unseen_72 rfl (by decide) ?_
            refine j_iload_n F dX6_unseen_73 rfl rfl ?_
            refine j_ishl F dX6_unseen_74 rfl ?_
            refine j_int (y := nI (2 ^ ii)) (sh_n (Nat.le_refl 1) (by omega)) ?_
            refine j_iconst (v := (-1 : Int32)) F dX6_unseen_75 rfl (by decide) ?_
            refine j_ixor F dX6_unseen_76 rfl ?_
            refine j_int (y := nI (2 ^ ii ^^^ 4294967295)) (by rw [m1_n]; exact fa_xorN _ _) ?_
            refine j_iand F dX6_unseen_77 rfl ?_
            refine j_int (y := nI (A.P.LA (A.sn.getD kk (0, 0, 0)).1 (A.sn.getD kk (0, 0, 0)).2.1 A.P.on (-9) &&& (2 ^ ii ^^^ 4294967295))) (fa_and _ _) ?_
            refine j_istore (lv' := [some (.ref (X.E.1 + 55)), some (.int (nI (Bt (fun l => uB A.P A.sn l A.sn.length) ii))), some (.int (nI (ii))), some (.int (bI (uB A.P A.sn ii kk))), some (.int (nI (kk))), some (.int (nI (A.P.LA (A.sn.getD kk (0, 0, 0)).1 (A.sn.getD kk (0, 0, 0)).2.1 A.P.on (-9) &&& (2 ^ ii ^^^ 4294967295))))]) F dX6_unseen_78 rfl (hL _ (by decide)) rfl rfl ?_
            refine j_iload_n F dX6_unseen_80 rfl rfl ?_
            refine j_if_eqB F (x := uB A.P A.sn ii kk) (tgt := 117) dX6_unseen_81 (by decide) rfl (fun c_81 => ?_) (fun c_81 => ?_)
            · have hnx : uB A.P A.sn ii (kk + 1) = false := by rw [uB, c_81]; rfl
              refine j_iconst (v := nI (0)) F dX6_unseen_117 rfl (by decide) ?_
              refine j_istore_n (lv' := [some (.ref (X.E.1 + 55)), some (.int (nI (Bt (fun l => uB A.P A.sn l A.sn.length) ii))), some (.int (nI (ii))), some (.int (nI (0))), some (.int (nI (kk))), some (.int (nI (A.P.LA (A.sn.getD kk (0, 0, 0)).1 (A.sn.getD kk (0, 0, 0)).2.1 A.P.on (-9) &&& (2 ^ ii ^^^ 4294967295))))]) F dX6_unseen_118 rfl (hL _ (by decide)) rfl rfl ?_
              refine j_iincN (a := kk) (c := 1) (lv' := [some (.ref (X.E.1 + 55)), some (.int (nI (Bt (fun l => uB A.P A.sn l A.sn.length) ii))), some (.int (nI (ii))), some (.int (nI (0))), some (.int (nI (kk + 1))), some (.int (nI (A.P.LA (A.sn.getD kk (0, 0, 0)).1 (A.sn.getD kk (0, 0, 0)).2.1 A.P.on (-9) &&& (2 ^ ii ^^^ 4294967295))))]) F dX6_unseen_119 rfl rfl (by decide) (hL _ (by decide)) rfl rfl ?_
              refine j_goto (pc' := 38) F dX6_unseen_122 (by decide) ?_
              refine j_lv (lv' := [some (.ref (X.E.1 + 55)), some (.int (nI (Bt (fun l => uB A.P A.sn l A.sn.length) ii))), some (.int (nI (ii))), some (.int (nI (0))), some (.int (nI (kk + 1))), none]) (sbl (ks := [0, 1, 2, 3, 4]) rfl) ?_
              refine j_lvq (lv' := [some (.ref (X.E.1 + 55)), some (.int (nI (Bt (fun l => uB A.P A.sn l A.sn.length) ii))), some (.int (nI (ii))), some (.int (bI (uB A.P A.sn ii (kk + 1)))), some (.int (nI (kk + 1))), none]) (by rw [hnx]; rfl) ?_
              exact ih_38 (by omega)
            · refine j_iload F dX6_unseen_84 rfl rfl ?_
              refine j_if_eqN (a := A.P.LA (A.sn.getD kk (0, 0, 0)).1 (A.sn.getD kk (0, 0, 0)).2.1 A.P.on (-9) &&& (2 ^ ii ^^^ 4294967295)) F (Nat.lt_of_lt_of_le (and_lt hla) (by decide)) (tgt := 93) dX6_unseen_86 (by decide) rfl (fun c_86 => ?_) (fun c_86 => ?_)
              · have hdc : (decide (¬ (A.P.LA (A.sn.getD kk (0, 0, 0)).1 (A.sn.getD kk (0, 0, 0)).2.1 A.P.on (-9) &&& (2 ^ ii ^^^ 4294967295)) = 0)).toNat = 0 := by rw [decide_eq_false (fun q => q c_86)]; rfl
                refine j_iconst (v := nI (0)) F dX6_unseen_93 rfl (by decide) ?_
                refine j_aload_n F dX6_unseen_94 rfl rfl ?_
                refine gX6_29 hn F dX6_unseen_95 rfl ?_
                refine j_iload F dX6_unseen_98 rfl rfl ?_
                refine j_iaload (a := kk) F (by omega) rfl rfl (by omega) (by decide) dX6_unseen_100 rfl ?_
                refine j_int (y := nI ((A.sn.getD kk (0, 0, 0)).2.2)) (sz) ?_
                refine j_iconst (v := nI (1)) F dX6_unseen_101 rfl (by decide) ?_
                refine j_icmp_neN (a := (A.sn.getD kk (0, 0, 0)).2.2) (b := 1) F (by omega) (by omega) (tgt := 109) dX6_unseen_102 (by decide) rfl (fun c_102 => ?_) (fun c_102 => ?_)
                · refine j_iconst (v := nI (0)) F dX6_unseen_109 rfl (by decide) ?_
                  have hnx : uB A.P A.sn ii (kk + 1) = true := by rw [uB, c_81, hdc]; exact beq_iff_eq.mpr (by omega)
                  refine j_icmp_neN (a := 0) (b := 0) F (by omega) (by omega) (tgt := 117) dX6_unseen_110 (by decide) rfl (fun c_110 => False.elim (by revert c_110; decide)) (fun c_110 => ?_)
                  refine j_iconst (v := nI (1)) F dX6_unseen_113 rfl (by decide) ?_
                  refine j_goto (pc' := 118) F dX6_unseen_114 (by decide) ?_
                  refine j_istore_n (lv' := [some (.ref (X.E.1 + 55)), some (.int (nI (Bt (fun l => uB A.P A.sn l A.sn.length) ii))), some (.int (nI (ii))), some (.int (nI (1))), some (.int (nI (kk))), some (.int (nI (A.P.LA (A.sn.getD kk (0, 0, 0)).1 (A.sn.getD kk (0, 0, 0)).2.1 A.P.on (-9) &&& (2 ^ ii ^^^ 4294967295))))]) F dX6_unseen_118 rfl (hL _ (by decide)) rfl rfl ?_
                  refine j_iincN (a := kk) (c := 1) (lv' := [some (.ref (X.E.1 + 55)), some (.int (nI (Bt (fun l => uB A.P A.sn l A.sn.length) ii))), some (.int (nI (ii))), some (.int (nI (1))), some (.int (nI (kk + 1))), some (.int (nI (A.P.LA (A.sn.getD kk (0, 0, 0)).1 (A.sn.getD kk (0, 0, 0)).2.1 A.P.on (-9) &&& (2 ^ ii ^^^ 4294967295))))]) F dX6_unseen_119 rfl rfl (by decide) (hL _ (by decide)) rfl rfl ?_
                  refine j_goto (pc' := 38) F dX6_unseen_122 (by decide) ?_
                  refine j_lv (lv' := [some (.ref (X.E.1 + 55)), some (.int (nI (Bt (fun l => uB A.P A.sn l A.sn.length) ii))), some (.int (nI (ii))), some (.int (nI (1))), some (.int (nI (kk + 1))), none]) (sbl (ks := [0, 1, 2, 3, 4]) rfl) ?_
                  refine j_lvq (lv' := [some (.ref (X.E.1 + 55)), some (.int (nI (Bt (fun l => uB A.P A.sn l A.sn.length) ii))), some (.int (nI (ii))), some (.int (bI (uB A.P A.sn ii (kk + 1)))), some (.int (nI (kk + 1))), none]) (by rw [hnx]; rfl) ?_
                  exact ih_38 (by omega)
                · refine j_iconst (v := nI (1)) F dX6_unseen_105 rfl (by decide) ?_
                  refine j_goto (pc' := 110) F dX6_unseen_106 (by decide) ?_
                  have hnx : uB A.P A.sn ii (kk + 1) = false := by rw [uB, c_81, hdc]; exact beq_eq_false_iff_ne.mpr (by omega)
                  refine j_icmp_neN (a := 0) (b := 1) F (by omega) (by omega) (tgt := 117) dX6_unseen_110 (by decide) rfl (fun c_110 => ?_) (fun c_110 => False.elim (by revert c_110; decide))
                  refine j_iconst (v := nI (0)) F dX6_unseen_117 rfl (by decide) ?_
                  refine j_istore_n (lv' := [some (.ref (X.E.1 + 55)), some (.int (nI (Bt (fun l => uB A.P A.sn l A.sn.length) ii))), some (.int (nI (ii))), some (.int (nI (0))), some (.int (nI (kk))), some (.int (nI (A.P.LA (A.sn.getD kk (0, 0, 0)).1 (A.sn.getD kk (0, 0, 0)).2.1 A.P.on (-9) &&& (2 ^ ii ^^^ 4294967295))))]) F dX6_unseen_118 rfl (hL _ (by decide)) rfl rfl ?_
                  refine j_iincN (a := kk) (c := 1) (lv' := [some (.ref (X.E.1 + 55)), some (.int (nI (Bt (fun l => uB A.P A.sn l A.sn.length) ii))), some (.int (nI (ii))), some (.int (nI (0))), some (.int (nI (kk + 1))), some (.int (nI (A.P.LA (A.sn.getD kk (0, 0, 0)).1 (A.sn.getD kk (0, 0, 0)).2.1 A.P.on (-9) &&& (2 ^ ii ^^^ 4294967295))))]) F dX6_unseen_119 rfl rfl (by decide) (hL _ (by decide)) rfl rfl ?_
                  refine j_goto (pc' := 38) F dX6_unseen_122 (by decide) ?_
                  refine j_lv (lv' := [some (.ref (X.E.1 + 55)), some (.int (nI (Bt (fun l => uB A.P A.sn l A.sn.length) ii))), some (.int (nI (ii))), some (.int (nI (0))), some (.int (nI (kk + 1))), none]) (sbl (ks := [0, 1, 2, 3, 4]) rfl) ?_
                  refine j_lvq (lv' := [some (.ref (X.E.1 + 55)), some (.int (nI (Bt (fun l => uB A.P A.sn l A.sn.length) ii))), some (.int (nI (ii))), some (.int (bI (uB A.P A.sn ii (kk + 1)))), some (.int (nI (kk + 1))), none]) (by rw [hnx]; rfl) ?_
                  exact ih_38 (by omega)
              · have hdc : (decide (¬ (A.P.LA (A.sn.getD kk (0, 0, 0)).1 (A.sn.getD kk (0, 0, 0)).2.1 A.P.on (-9) &&& (2 ^ ii ^^^ 4294967295)) = 0)).toNat = 1 := by rw [decide_eq_true c_86]; rfl
                refine j_iconst (v := nI (1)) F dX6_unseen_89 rfl (by decide) ?_
                refine j_goto (pc' := 94) F dX6_unseen_90 (by decide) ?_
                refine j_aload_n F dX6_unseen_94 rfl rfl ?_
                refine gX6_29 hn F dX6_unseen_95 rfl ?_
                refine j_iload F dX6_unseen_98 rfl rfl ?_
                refine j_iaload (a := kk) F (by omega) rfl rfl (by omega) (by decide) dX6_unseen_100 rfl ?_
                refine j_int (y := nI ((A.sn.getD kk (0, 0, 0)).2.2)) (sz) ?_
                refine j_iconst (v := nI (1)) F dX6_unseen_101 rfl (by decide) ?_
                refine j_icmp_neN (a := (A.sn.getD kk (0, 0, 0)).2.2) (b := 1) F (by omega) (by omega) (tgt := 109) dX6_unseen_102 (by decide) rfl (fun c_102 => ?_) (fun c_102 => ?_)
                · refine j_iconst (v := nI (0)) F dX6_unseen_109 rfl (by decide) ?_
                  have hnx : uB A.P A.sn ii (kk + 1) = false := by rw [uB, c_81, hdc]; exact beq_eq_false_iff_ne.mpr (by omega)
                  refine j_icmp_neN (a := 1) (b := 0) F (by omega) (by omega) (tgt := 117) dX6_unseen_110 (by decide) rfl (fun c_110 => ?_) (fun c_110 => False.elim (by revert c_110; decide))
                  refine j_iconst (v := nI (0)) F dX6_unseen_117 rfl (by decide) ?_
                  refine j_istore_n (lv' := [some (.ref (X.E.1 + 55)), some (.int (nI (Bt (fun l => uB A.P A.sn l A.sn.length) ii))), some (.int (nI (ii))), some (.int (nI (0))), some (.int (nI (kk))), some (.int (nI (A.P.LA (A.sn.getD kk (0, 0, 0)).1 (A.sn.getD kk (0, 0, 0)).2.1 A.P.on (-9) &&& (2 ^ ii ^^^ 4294967295))))]) F dX6_unseen_118 rfl (hL _ (by decide)) rfl rfl ?_
                  refine j_iincN (a := kk) (c := 1) (lv' := [some (.ref (X.E.1 + 55)), some (.int (nI (Bt (fun l => uB A.P A.sn l A.sn.length) ii))), some (.int (nI (ii))), some (.int (nI (0))), some (.int (nI (kk + 1))), some (.int (nI (A.P.LA (A.sn.getD kk (0, 0, 0)).1 (A.sn.getD kk (0, 0, 0)).2.1 A.P.on (-9) &&& (2 ^ ii ^^^ 4294967295))))]) F dX6_unseen_119 rfl rfl (by decide) (hL _ (by decide)) rfl rfl ?_
                  refine j_goto (pc' := 38) F dX6_unseen_122 (by decide) ?_
                  refine j_lv (lv' := [some (.ref (X.E.1 + 55)), some (.int (nI (Bt (fun l => uB A.P A.sn l A.sn.length) ii))), some (.int (nI (ii))), some (.int (nI (0))), some (.int (nI (kk + 1))), none]) (sbl (ks := [0, 1, 2, 3, 4]) rfl) ?_
                  refine j_lvq (lv' := [some (.ref (X.E.1 + 55)), some (.int (nI (Bt (fun l => uB A.P A.sn l A.sn.length) ii))), some (.int (nI (ii))), some (.int (bI (uB A.P A.sn ii (kk + 1)))), some (.int (nI (kk + 1))), none]) (by rw [hnx]; rfl) ?_
                  exact ih_38 (by omega)
                · refine j_iconst (v := nI (1)) F dX6_unseen_105 rfl (by decide) ?_
                  refine j_goto (pc' := 110) F dX6_unseen_106 (by decide) ?_
                  have hnx : uB A.P A.sn ii (kk + 1) = true := by rw [uB, c_81, hdc]; exact beq_iff_eq.mpr (by omega)
                  refine j_icmp_neN (a := 1) (b := 1) F (by omega) (by omega) (tgt := 117) dX6_unseen_110 (by decide) rfl (fun c_110 => False.elim (by revert c_110; decide)) (fun c_110 => ?_)
                  refine j_iconst (v := nI (1)) F dX6_unseen_113 rfl (by decide) ?_
                  refine j_goto (pc' := 118) F dX6_unseen_114 (by decide) ?_
                  refine j_istore_n (lv' := [some (.ref (X.E.1 + 55)), some (.int (nI (Bt (fun l => uB A.P A.sn l A.sn.length) ii))), some (.int (nI (ii))), some (.int (nI (1))), some (.int (nI (kk))), some (.int (nI (A.P.LA (A.sn.getD kk (0, 0, 0)).1 (A.sn.getD kk (0, 0, 0)).2.1 A.P.on (-9) &&& (2 ^ ii ^^^ 4294967295))))]) F dX6_unseen_118 rfl (hL _ (by decide)) rfl rfl ?_
                  refine j_iincN (a := kk) (c := 1) (lv' := [some (.ref (X.E.1 + 55)), some (.int (nI (Bt (fun l => uB A.P A.sn l A.sn.length) ii))), some (.int (nI (ii))), some (.int (nI (1))), some (.int (nI (kk + 1))), some (.int (nI (A.P.LA (A.sn.getD kk (0, 0, 0)).1 (A.sn.getD kk (0, 0, 0)).2.1 A.P.on (-9) &&& (2 ^ ii ^^^ 4294967295))))]) F dX6_unseen_119 rfl rfl (by decide) (hL _ (by decide)) rfl rfl ?_
                  refine j_goto (pc' := 38) F dX6_unseen_122 (by decide) ?_
                  refine j_lv (lv' := [some (.ref (X.E.1 + 55)), some (.int (nI (Bt (fun l => uB A.P A.sn l A.sn.length) ii))), some (.int (nI (ii))), some (.int (nI (1))), some (.int (nI (kk + 1))), none]) (sbl (ks := [0, 1, 2, 3, 4]) rfl) ?_
                  refine j_lvq (lv' := [some (.ref (X.E.1 + 55)), some (.int (nI (Bt (fun l => uB A.P A.sn l A.sn.length) ii))), some (.int (nI (ii))), some (.int (bI (uB A.P A.sn ii (kk + 1)))), some (.int (nI (kk + 1))), none]) (by rw [hnx]; rfl) ?_
                  exact ih_38 (by omega)
        exact loop_38 0 (by omega)  
      · have hu0 : uB A.P A.sn ii 0 = true := by rw [uB]; exact beq_iff_eq.mpr (by omega)
        refine j_iconst (v := nI (1)) F dX6_unseen_29 rfl (by decide) ?_
        refine j_goto (pc' := 34) F dX6_unseen_30 (by decide) ?_
        refine j_istore_n (lv' := [some (.ref (X.E.1 + 55)), some (.int (nI (Bt (fun l => uB A.P A.sn l A.sn.length) ii))), some (.int (nI (ii))), some (.int (nI (1))), none, none]) F dX6_unseen_34 rfl (hL _ (by decide)) rfl rfl ?_
        refine j_iconst (v := nI (0)) F dX6_unseen_35 rfl (by decide) ?_
        refine j_istore (lv' := [some (.ref (X.E.1 + 55)), some (.int (nI (Bt (fun l => uB A.P A.sn l A.sn.length) ii))), some (.int (nI (ii))), some (.int (nI (1))), some (.int (nI (0))), none]) F dX6_unseen_36 rfl (hL _ (by decide)) rfl rfl ?_
        refine j_lv (lv' := [some (.ref (X.E.1 + 55)), some (.int (nI (Bt (fun l => uB A.P A.sn l A.sn.length) ii))), some (.int (nI (ii))), some (.int (nI (1))), some (.int (nI (0))), none]) (sbl (ks := [0, 1, 2, 3, 4]) rfl) ?_
        refine j_lvq (lv' := [some (.ref (X.E.1 + 55)), some (.int (nI (Bt (fun l => uB A.P A.sn l A.sn.length) ii))), some (.int (nI (ii))), some (.int (bI (uB A.P A.sn ii 0))), some (.int (nI (0))), none]) (by rw [hu0]; rfl) ?_
        have loop_38 : ∀ (kk : Nat), kk ≤ A.sn.length → J X 38 [some (.ref (X.E.1 + 55)), some (.int (nI (Bt (fun l => uB A.P A.sn l A.sn.length) ii))), some (.int (nI (ii))), some (.int (bI (uB A.P A.sn ii kk))), some (.int (nI (kk))), none] [] σ := by
          refine dnL (fun kk hkk ih_38 => ?_)
          refine j_iload F dX6_unseen_38 rfl rfl ?_
          refine j_aload_n F dX6_unseen_40 rfl rfl ?_
          refine gX6_129 hn F dX6_unseen_41 rfl ?_
          refine j_int (y := nI (A.sn.length)) (hR.2.2.2.2.2.1) ?_
          refine j_icmp_geN (a := kk) (b := A.sn.length) F (by omega) (by omega) (tgt := 125) dX6_unseen_44 (by decide) rfl (fun c_44 => ?_) (fun c_44 => ?_)
          · have hkN : kk = A.sn.length := by omega
            refine j_iload_n F dX6_unseen_125 rfl rfl ?_
            refine j_iload_n F dX6_unseen_126 rfl rfl ?_
            refine j_if_eqB F (x := uB A.P A.sn ii kk) (tgt := 136) dX6_unseen_127 (by decide) rfl (fun c_127 => ?_) (fun c_127 => ?_)
            · have hnx2 : Bt (fun l => uB A.P A.sn l A.sn.length) (ii + 1) = Bt (fun l => uB A.P A.sn l A.sn.length) ii ||| 0 := by rw [Bt, if_neg (fun q => by rw [← hkN] at q; rw [show uB A.P A.sn ii kk = true from q] at c_127; cases c_127)]
              refine j_iconst (v := nI (0)) F dX6_unseen_136 rfl (by decide) ?_
              refine j_ior F dX6_unseen_137 rfl ?_
              refine j_int (y := nI (Bt (fun l => uB A.P A.sn l A.sn.length) (ii + 1))) ((fa_or _ _).trans (by rw [hnx2])) ?_
              refine j_istore_n (lv' := [some (.ref (X.E.1 + 55)), some (.int (nI (Bt (fun l => uB A.P A.sn l A.sn.length) (ii + 1)))), some (.int (nI (ii))), some (.int (bI (uB A.P A.sn ii kk))), some (.int (nI (kk))), none]) F dX6_unseen_138 rfl (hL _ (by decide)) rfl rfl ?_
              refine j_iincN (a := ii) (c := 1) (lv' := [some (.ref (X.E.1 + 55)), some (.int (nI (Bt (fun l => uB A.P A.sn l A.sn.length) (ii + 1)))), some (.int (nI (ii + 1))), some (.int (bI (uB A.P A.sn ii kk))), some (.int (nI (kk))), none]) F dX6_unseen_139 rfl rfl (by decide) (hL _ (by decide)) rfl rfl ?_
              refine j_goto (pc' := 9) F dX6_unseen_142 (by decide) ?_
              refine j_lv (lv' := [some (.ref (X.E.1 + 55)), some (.int (nI (Bt (fun l => uB A.P A.sn l A.sn.length) (ii + 1)))), some (.int (nI (ii + 1))), none, none, none]) (sbl (ks := [0, 1, 2]) rfl) ?_
              exact ih_9 (by omega)
            · have hnx2 : Bt (fun l => uB A.P A.sn l A.sn.length) (ii + 1) = Bt (fun l => uB A.P A.sn l A.sn.length) ii ||| 2 ^ ii := by rw [Bt, if_pos (by show uB A.P A.sn ii A.sn.length = true; rw [← hkN]; exact c_127)]
              refine j_iconst (v := nI (1)) F dX6_unseen_130 rfl (by decide) ?_
              refine j_iload_n F dX6_unseen_131 rfl rfl ?_
              refine j_ishl F dX6_unseen_132 rfl ?_
              refine j_int (y := nI (2 ^ ii)) (sh_n (Nat.le_refl 1) (by omega)) ?_
              refine j_goto (pc' := 137) F dX6_unseen_133 (by decide) ?_
              refine j_ior F dX6_unseen_137 rfl ?_
              refine j_int (y := nI (Bt (fun l => uB A.P A.sn l A.sn.length) (ii + 1))) ((fa_or _ _).trans (by rw [hnx2])) ?_
              refine j_istore_n (lv' := [some (.ref (X.E.1 + 55)), some (.int (nI (Bt (fun l => uB A.P A.sn l A.sn.length) (ii + 1)))), some (.int (nI (ii))), some (.int (bI (uB A.P A.sn ii kk))), some (.int (nI (kk))), none]) F dX6_unseen_138 rfl (hL _ (by decide)) rfl rfl ?_
              refine j_iincN (a := ii) (c := 1) (lv' := [some (.ref (X.E.1 + 55)), some (.int (nI (Bt (fun l => uB A.P A.sn l A.sn.length) (ii + 1)))), some (.int (nI (ii + 1))), some (.int (bI (uB A.P A.sn ii kk))), some (.int (nI (kk))), none]) F dX6_unseen_139 rfl rfl (by decide) (hL _ (by decide)) rfl rfl ?_
              refine j_goto (pc' := 9) F dX6_unseen_142 (by decide) ?_
              refine j_lv (lv' := [some (.ref (X.E.1 + 55)), some (.int (nI (Bt (fun l => uB A.P A.sn l A.sn.length) (ii + 1)))), some (.int (nI (ii + 1))), none, none, none]) (sbl (ks := [0, 1, 2]) rfl) ?_
              exact ih_9 (by omega)
          · have hmem : (A.sn.getD kk (0, 0, 0)) ∈ A.sn := by rw [List.getD_eq_getElem?_getD, List.getElem?_eq_getElem c_44]; exact List.getElem_mem c_44
            obtain ⟨hq1, hq2, hq3⟩ := hA.2.2.2.2 _ hmem
            obtain ⟨sx, sy, sz⟩ := hR.2.2.2.2.2.2 kk c_44
            have hla : A.P.LA (A.sn.getD kk (0, 0, 0)).1 (A.sn.getD kk (0, 0, 0)).2.1 A.P.on (-9) < 256 := Bt_le b7
            refine j_aload_n F dX6_unseen_47 rfl rfl ?_
            refine j_aload_n F dX6_unseen_48 rfl rfl ?_
            refine gX6_23 hn F dX6_unseen_49 rfl ?_
            refine j_iload F dX6_unseen_52 rfl rfl ?_
            refine j_iaload (a := kk) F (by omega) rfl rfl (by omega) (by decide) dX6_unseen_54 rfl ?_
            refine j_int (y := nI ((A.sn.getD kk (0, 0, 0)).1)) (sx) ?_
            refine j_aload_n F dX6_unseen_55 rfl rfl ?_
            refine gX6_26 hn F dX6_unseen_56 rfl ?_
            refine j_iload F dX6_unseen_59 rfl rfl ?_
            refine j_iaload (a := kk) F (by omega) rfl rfl (by omega) (by decide) dX6_unseen_61 rfl ?_
            refine j_int (y := nI ((A.sn.getD kk (0, 0, 0)).2.1)) (sy) ?_
            refine j_bipush (v := (-9 : Int32)) F dX6_unseen_62 rfl (by decide) ?_
            refine kX6_155 hn F (As := [.int (nI ((A.sn.getD kk (0, 0, 0)).1)), .int (nI ((A.sn.getD kk (0, 0, 0)).2.1)), .int ((-9 : Int32))]) (rest := []) (c_X6_lampsOf hn hM hBd hWl hLm ((A.sn.getD kk (0, 0, 0)).1) ((A.sn.getD kk (0, 0, 0)).2.1) ((-9 : Int32)) (by omega) (by omega)) (by decide) rfl rfl (Nat.le_of_ble_eq_true rfl) dX6_unseen_64 rfl (ro_k ?_)
            refine j_aload_n F dX6_unseen_67 rfl rfl ?_
            refine kX6_159 hn F (As := []) (rest := [.int (nI (A.P.LM ((A.sn.getD kk (0, 0, 0)).1) ((A.sn.getD kk (0, 0, 0)).2.1) ((-9 : Int32))))]) (c_X6_on hn hM hBd hLm) (by decide) rfl rfl (Nat.le_of_ble_eq_true rfl) dX6_unseen_68 rfl (ro_k ?_)
            refine j_iand F dX6_unseen_71 rfl ?_
            refine j_int (y := nI (A.P.LA (A.sn.getD kk (0, 0, 0)).1 (A.sn.getD kk (0, 0, 0)).2.1 A.P.on (-9))) (LM_on) ?_
            refine j_iconst (v := nI (1)) F dX6_unseen_72 rfl (by decide) ?_
            refine j_iload_n F dX6_unseen_73 rfl rfl ?_
            refine j_ishl F dX6_unseen_74 rfl ?_
            refine j_int (y := nI (2 ^ ii)) (sh_n (Nat.le_refl 1) (by omega)) ?_
            refine j_iconst (v := (-1 : Int32)) F dX6_unseen_75 rfl (by decide) ?_
            refine j_ixor F dX6_unseen_76 rfl ?_
            refine j_int (y := nI (2 ^ ii ^^^ 4294967295)) (by rw [m1_n]; exact fa_xorN _ _) ?_
            refine j_iand F dX6_unseen_77 rfl ?_
            refine j_int (y := nI (A.P.LA (A.sn.getD kk (0, 0, 0)).1 (A.sn.getD kk (0, 0, 0)).2.1 A.P.on (-9) &&& (2 ^ ii ^^^ 4294967295))) (fa_and _ _) ?_
            refine j_istore (lv' := [some (.ref (X.E.1 + 55)), some (.int (nI (Bt (fun l => uB A.P A.sn l A.sn.length) ii))), some (.int (nI (ii))), some (.int (bI (uB A.P A.sn ii kk))), some (.int (nI (kk))), some (.int (nI (A.P.LA (A.sn.getD kk (0, 0, 0)).1 (A.sn.getD kk (0, 0, 0)).2.1 A.P.on (-9) &&& (2 ^ ii ^^^ 4294967295))))]) F dX6_unseen_78 rfl (hL _ (by decide)) rfl rfl ?_
            refine j_iload_n F dX6_unseen_80 rfl rfl ?_
            refine j_if_eqB F (x := uB A.P A.sn ii kk) (tgt := 117) dX6_unseen_81 (by decide) rfl (fun c_81 => ?_) (fun c_81 => ?_)
            · have hnx : uB A.P A.sn ii (kk + 1) = false := by rw [uB, c_81]; rfl
              refine j_iconst (v := nI (0)) F dX6_unseen_117 rfl (by decide) ?_
              refine j_istore_n (lv' := [some (.ref (X.E.1 + 55)), some (.int (nI (Bt (fun l => uB A.P A.sn l A.sn.length) ii))), some (.int (nI (ii))), some (.int (nI (0))), some (.int (nI (kk))), some (.int (nI (A.P.LA (A.sn.getD kk (0, 0, 0)).1 (A.sn.getD kk (0, 0, 0)).2.1 A.P.on (-9) &&& (2 ^ ii ^^^ 4294967295))))]) F dX6_unseen_118 rfl (hL _ (by decide)) rfl rfl ?_
              refine j_iincN (a := kk) (c := 1) (lv' := [some (.ref (X.E.1 + 55)), some (.int (nI (Bt (fun l => uB A.P A.sn l A.sn.length) ii))), some (.int (nI (ii))), some (.int (nI (0))), some (.int (nI (kk + 1))), some (.int (nI (A.P.LA (A.sn.getD kk (0, 0, 0)).1 (A.sn.getD kk (0, 0, 0)).2.1 A.P.on (-9) &&& (2 ^ ii ^^^ 4294967295))))]) F dX6_unseen_119 rfl rfl (by decide) (hL _ (by decide)) rfl rfl ?_
              refine j_goto (pc' := 38) F dX6_unseen_122 (by decide) ?_
              refine j_lv (lv' := [some (.ref (X.E.1 + 55)), some (.int (nI (Bt (fun l => uB A.P A.sn l A.sn.length) ii))), some (.int (nI (ii))), some (.int (nI (0))), some (.int (nI (kk + 1))), none]) (sbl (ks := [0, 1, 2, 3, 4]) rfl) ?_
              refine j_lvq (lv' := [some (.ref (X.E.1 + 55)), some (.int (nI (Bt (fun l => uB A.P A.sn l A.sn.length) ii))), some (.int (nI (ii))), some (.int (bI (uB A.P A.sn ii (kk + 1)))), some (.int (nI (kk + 1))), none]) (by rw [hnx]; rfl) ?_
              exact ih_38 (by omega)
            · refine j_iload F dX6_unseen_84 rfl rfl ?_
              refine j_if_eqN (a := A.P.LA (A.sn.getD kk (0, 0, 0)).1 (A.sn.getD kk (0, 0, 0)).2.1 A.P.on (-9) &&& (2 ^ ii ^^^ 4294967295)) F (Nat.lt_of_lt_of_le (and_lt hla) (by decide)) (tgt := 93) dX6_unseen_86 (by decide) rfl (fun c_86 => ?_) (fun c_86 => ?_)
              · have hdc : (decide (¬ (A.P.LA (A.sn.getD kk (0, 0, 0)).1 (A.sn.getD kk (0, 0, 0)).2.1 A.P.on (-9) &&& (2 ^ ii ^^^ 4294967295)) = 0)).toNat = 0 := by rw [decide_eq_false (fun q => q c_86)]; rfl
                refine j_iconst (v := nI (0)) F dX6_unseen_93 rfl (by decide) ?_
                refine j_aload_n F dX6_unseen_94 rfl rfl ?_
                refine gX6_29 hn F dX6_unseen_95 rfl ?_
                refine j_iload F dX6_unseen_98 rfl rfl ?_
                refine j_iaload (a := kk) F (by omega) rfl rfl (by omega) (by decide) dX6_unseen_100 rfl ?_
                refine j_int (y := nI ((A.sn.getD kk (0, 0, 0)).2.2)) (sz) ?_
                refine j_iconst (v := nI (1)) F dX6_unseen_101 rfl (by decide) ?_
                refine j_icmp_neN (a := (A.sn.getD kk (0, 0, 0)).2.2) (b := 1) F (by omega) (by omega) (tgt := 109) dX6_unseen_102 (by decide) rfl (fun c_102 => ?_) (fun c_102 => ?_)
                · refine j_iconst (v := nI (0)) F dX6_unseen_109 rfl (by decide) ?_
                  have hnx : uB A.P A.sn ii (kk + 1) = true := by rw [uB, c_81, hdc]; exact beq_iff_eq.mpr (by omega)
                  refine j_icmp_neN (a := 0) (b := 0) F (by omega) (by omega) (tgt := 117) dX6_unseen_110 (by decide) rfl (fun c_110 => False.elim (by revert c_110; decide)) (fun c_110 => ?_)
                  refine j_iconst (v := nI (1)) F dX6_unseen_113 rfl (by decide) ?_
                  refine j_goto (pc' := 118) F dX6_unseen_114 (by decide) ?_
                  refine j_istore_n (lv' := [some (.ref (X.E.1 + 55)), some (.int (nI (Bt (fun l => uB A.P A.sn l A.sn.length) ii))), some (.int (nI (ii))), some (.int (nI (1))), some (.int (nI (kk))), some (.int (nI (A.P.LA (A.sn.getD kk (0, 0, 0)).1 (A.sn.getD kk (0, 0, 0)).2.1 A.P.on (-9) &&& (2 ^ ii ^^^ 4294967295))))]) F dX6_unseen_118 rfl (hL _ (by decide)) rfl rfl ?_
                  refine j_iincN (a := kk) (c := 1) (lv' := [some (.ref (X.E.1 + 55)), some (.int (nI (Bt (fun l => uB A.P A.sn l A.sn.length) ii))), some (.int (nI (ii))), some (.int (nI (1))), some (.int (nI (kk + 1))), some (.int (nI (A.P.LA (A.sn.getD kk (0, 0, 0)).1 (A.sn.getD kk (0, 0, 0)).2.1 A.P.on (-9) &&& (2 ^ ii ^^^ 4294967295))))]) F dX6_unseen_119 rfl rfl (by decide) (hL _ (by decide)) rfl rfl ?_
                  refine j_goto (pc' := 38) F dX6_unseen_122 (by decide) ?_
                  refine j_lv (lv' := [some (.ref (X.E.1 + 55)), some (.int (nI (Bt (fun l => uB A.P A.sn l A.sn.length) ii))), some (.int (nI (ii))), some (.int (nI (1))), some (.int (nI (kk + 1))), none]) (sbl (ks := [0, 1, 2, 3, 4]) rfl) ?_
                  refine j_lvq (lv' := [some (.ref (X.E.1 + 55)), some (.int (nI (Bt (fun l => uB A.P A.sn l A.sn.length) ii))), some (.int (nI (ii))), some (.int (bI (uB A.P A.sn ii (kk + 1)))), some (.int (nI (kk + 1))), none]) (by rw [hnx]; rfl) ?_
                  exact ih_38 (by omega)
                · refine j_iconst (v := nI (1)) F dX6_unseen_105 rfl (by decide) ?_
                  refine j_goto (pc' := 110) F dX6_unseen_106 (by decide) ?_
                  have hnx : uB A.P A.sn ii (kk + 1) = false := by rw [uB, c_81, hdc]; exact beq_eq_false_iff_ne.mpr (by omega)
                  refine j_icmp_neN (a := 0) (b := 1) F (by omega) (by omega) (tgt := 117) dX6_unseen_110 (by decide) rfl (fun c_110 => ?_) (fun c_110 => False.elim (by revert c_110; decide))
                  refine j_iconst (v := nI (0)) F dX6_unseen_117 rfl (by decide) ?_
                  refine j_istore_n (lv' := [some (.ref (X.E.1 + 55)), some (.int (nI (Bt (fun l => uB A.P A.sn l A.sn.length) ii))), some (.int (nI (ii))), some (.int (nI (0))), some (.int (nI (kk))), some (.int (nI (A.P.LA (A.sn.getD kk (0, 0, 0)).1 (A.sn.getD kk (0, 0, 0)).2.1 A.P.on (-9) &&& (2 ^ ii ^^^ 4294967295))))]) F dX6_unseen_118 rfl (hL _ (by decide)) rfl rfl ?_
                  refine j_iincN (a := kk) (c := 1) (lv' := [some (.ref (X.E.1 + 55)), some (.int (nI (Bt (fun l => uB A.P A.sn l A.sn.length) ii))), some (.int (nI (ii))), some (.int (nI (0))), some (.int (nI (kk + 1))), some (.int (nI (A.P.LA (A.sn.getD kk (0, 0, 0)).1 (A.sn.getD kk (0, 0, 0)).2.1 A.P.on (-9) &&& (2 ^ ii ^^^ 4294967295))))]) F dX6_unseen_119 rfl rfl (by decide) (hL _ (by decide)) rfl rfl ?_
                  refine j_goto (pc' := 38) F dX6_unseen_122 (by decide) ?_
                  refine j_lv (lv' := [some (.ref (X.E.1 + 55)), some (.int (nI (Bt (fun l => uB A.P A.sn l A.sn.length) ii))), some (.int (nI (ii))), some (.int (nI (0))), some (.int (nI (kk + 1))), none]) (sbl (ks := [0, 1, 2, 3, 4]) rfl) ?_
                  refine j_lvq (lv' := [some (.ref (X.E.1 + 55)), some (.int (nI (Bt (fun l => uB A.P A.sn l A.sn.length) ii))), some (.int (nI (ii))), some (.int (bI (uB A.P A.sn ii (kk + 1)))), some (.int (nI (kk + 1))), none]) (by rw [hnx]; rfl) ?_
                  exact ih_38 (by omega)
              · have hdc : (decide (¬ (A.P.LA (A.sn.getD kk (0, 0, 0)).1 (A.sn.getD kk (0, 0, 0)).2.1 A.P.on (-9) &&& (2 ^ ii ^^^ 4294967295)) = 0)).toNat = 1 := by rw [decide_eq_true c_86]; rfl
                refine j_iconst (v := nI (1)) F dX6_unseen_89 rfl (by decide) ?_
                refine j_goto (pc' := 94) F dX6_unseen_90 (by decide) ?_
                refine j_aload_n F dX6_unseen_94 rfl rfl ?_
                refine gX6_29 hn F dX6_unseen_95 rfl ?_
                refine j_iload F dX6_unseen_98 rfl rfl ?_
                refine j_iaload (a := kk) F (by omega) rfl rfl (by omega) (by decide) dX6_unseen_100 rfl ?_
                refine j_int (y := nI ((A.sn.getD kk (0, 0, 0)).2.2)) (sz) ?_
                refine j_iconst (v := nI (1)) F dX6_unseen_101 rfl (by decide) ?_
                refine j_icmp_neN (a := (A.sn.getD kk (0, 0, 0)).2.2) (b := 1) F (by omega) (by omega) (tgt := 109) dX6_unseen_102 (by decide) rfl (fun c_102 => ?_) (fun c_102 => ?_)
                · refine j_iconst (v := nI (0)) F dX6_unseen_109 rfl (by decide) ?_
                  have hnx : uB A.P A.sn ii (kk + 1) = false := by rw [uB, c_81, hdc]; exact beq_eq_false_iff_ne.mpr (by omega)
                  refine j_icmp_neN (a := 1) (b := 0) F (by omega) (by omega) (tgt := 117) dX6_unseen_110 (by decide) rfl (fun c_110 => ?_) (fun c_110 => False.elim (by revert c_110; decide))
                  refine j_iconst (v := nI (0)) F dX6_unseen_117 rfl (by decide) ?_
                  refine j_istore_n (lv' := [some (.ref (X.E.1 + 55)), some (.int (nI (Bt (fun l => uB A.P A.sn l A.sn.length) ii))), some (.int (nI (ii))), some (.int (nI (0))), some (.int (nI (kk))), some (.int (nI (A.P.LA (A.sn.getD kk (0, 0, 0)).1 (A.sn.getD kk (0, 0, 0)).2.1 A.P.on (-9) &&& (2 ^ ii ^^^ 4294967295))))]) F dX6_unseen_118 rfl (hL _ (by decide)) rfl rfl ?_
                  refine j_iincN (a := kk) (c := 1) (lv' := [some (.ref (X.E.1 + 55)), some (.int (nI (Bt (fun l => uB A.P A.sn l A.sn.length) ii))), some (.int (nI (ii))), some (.int (nI (0))), some (.int (nI (kk + 1))), some (.int (nI (A.P.LA (A.sn.getD kk (0, 0, 0)).1 (A.sn.getD kk (0, 0, 0)).2.1 A.P.on (-9) &&& (2 ^ ii ^^^ 4294967295))))]) F dX6_unseen_119 rfl rfl (by decide) (hL _ (by decide)) rfl rfl ?_
                  refine j_goto (pc' := 38) F dX6_unseen_122 (by decide) ?_
                  refine j_lv (lv' := [some (.ref (X.E.1 + 55)), some (.int (nI (Bt (fun l => uB A.P A.sn l A.sn.length) ii))), some (.int (nI (ii))), some (.int (nI (0))), some (.int (nI (kk + 1))), none]) (sbl (ks := [0, 1, 2, 3, 4]) rfl) ?_
                  refine j_lvq (lv' := [some (.ref (X.E.1 + 55)), some (.int (nI (Bt (fun l => uB A.P A.sn l A.sn.length) ii))), some (.int (nI (ii))), some (.int (bI (uB A.P A.sn ii (kk + 1)))), some (.int (nI (kk + 1))), none]) (by rw [hnx]; rfl) ?_
                  exact ih_38 (by omega)
                · refine j_iconst (v := nI (1)) F dX6_unseen_105 rfl (by decide) ?_
                  refine j_goto (pc' := 110) F dX6_unseen_106 (by decide) ?_
                  have hnx : uB A.P A.sn ii (kk + 1) = true := by rw [uB, c_81, hdc]; exact beq_iff_eq.mpr (by omega)
                  refine j_icmp_neN (a := 1) (b := 1) F (by omega) (by omega) (tgt := 117) dX6_unseen_110 (by decide) rfl (fun c_110 => False.elim (by revert c_110; decide)) (fun c_110 => ?_)
                  refine j_iconst (v := nI (1)) F dX6_unseen_113 rfl (by decide) ?_
                  refine j_goto (pc' := 118) F dX6_unseen_114 (by decide) ?_
                  refine j_istore_n (lv' := [some (.ref (X.E.1 + 55)), some (.int (nI (Bt (fun l => uB A.P A.sn l A.sn.length) ii))), some (.int (nI (ii))), some (.int (nI (1))), some (.int (nI (kk))), some (.int (nI (A.P.LA (A.sn.getD kk (0, 0, 0)).1 (A.sn.getD kk (0, 0, 0)).2.1 A.P.on (-9) &&& (2 ^ ii ^^^ 4294967295))))]) F dX6_unseen_118 rfl (hL _ (by decide)) rfl rfl ?_
                  refine j_iincN (a := kk) (c := 1) (lv' := [some (.ref (X.E.1 + 55)), some (.int (nI (Bt (fun l => uB A.P A.sn l A.sn.length) ii))), some (.int (nI (ii))), some (.int (nI (1))), some (.int (nI (kk + 1))), some (.int (nI (A.P.LA (A.sn.getD kk (0, 0, 0)).1 (A.sn.getD kk (0, 0, 0)).2.1 A.P.on (-9) &&& (2 ^ ii ^^^ 4294967295))))]) F dX6_unseen_119 rfl rfl (by decide) (hL _ (by decide)) rfl rfl ?_
                  refine j_goto (pc' := 38) F dX6_unseen_122 (by decide) ?_
                  refine j_lv (lv' := [some (.ref (X.E.1 + 55)), some (.int (nI (Bt (fun l => uB A.P A.sn l A.sn.length) ii))), some (.int (nI (ii))), some (.int (nI (1))), some (.int (nI (kk + 1))), none]) (sbl (ks := [0, 1, 2, 3, 4]) rfl) ?_
                  refine j_lvq (lv' := [some (.ref (X.E.1 + 55)), some (.int (nI (Bt (fun l => uB A.P A.sn l A.sn.length) ii))), some (.int (nI (ii))), some (.int (bI (uB A.P A.sn ii (kk + 1)))), some (.int (nI (kk + 1))), none]) (by rw [hnx]; rfl) ?_
                  exact ih_38 (by omega)
        exact loop_38 0 (by omega)  
  exact loop_9 0 (by omega)  
