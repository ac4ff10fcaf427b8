set_option maxRecDepth 10000 in
set_option maxHeartbeats 2000000 in
theorem c_X2_hasWall {l : Launch} {n : Nat} {E : Ev} {σ : St} {k : Nat} {P : Pl} (hn : 55 ≤ n) (hk : isPl n k) (hP : PlanOK σ k P) (hBd : PB P) (x : Int32) : Ct l yX2_hasWall cX2_hasWall 2 (some .boolean) 0 n E [.ref (E.1 + k), .int (x)] σ (ro (.int (bI (inR x P.nw))) σ) := by
  refine Ct.of (lv0 := [some (.ref (E.1 + k)), some (.int (x))]) (by decide) (Nat.le_of_ble_eq_true rfl) rfl ?_
  intro X hXn hXE hXl hXL F hRt
  subst hXn hXE hXl
  have hL : ∀ i, i < 2 → i < X.nL := fun i h => by rw [hXL]; exact h
  have hB0 := hBd
  obtain ⟨b1, b2, b3, b4, b5, b6, b7⟩ := hB0
  refine j_iload_n F dX2_hasWall_0 rfl rfl ?_
  refine j_if_lt F (tgt := 16) dX2_hasWall_1 (by decide) rfl (fun c_1 => ?_) (fun c_1 => ?_)
  · have hz : inR x P.nw = false := decide_eq_false (fun q => q.1 c_1)
    refine j_iconst (v := nI (0)) F dX2_hasWall_16 rfl (by decide) ?_
    exact j_iret F hRt rfl (roB_f hz) dX2_hasWall_17
  · refine j_iload_n F dX2_hasWall_4 rfl rfl ?_
    refine j_aload_n F dX2_hasWall_5 rfl rfl ?_
    refine gX2_25 hk F dX2_hasWall_6 rfl ?_
    refine j_int (y := nI (P.nw)) (hP.nw) ?_
    refine j_icmp_ge F (tgt := 16) dX2_hasWall_9 (by decide) rfl (fun c_9 => ?_) (fun c_9 => ?_)
    · have hz : inR x P.nw = false := decide_eq_false (fun q => q.2 c_9)
      refine j_iconst (v := nI (0)) F dX2_hasWall_16 rfl (by decide) ?_
      exact j_iret F hRt rfl (roB_f hz) dX2_hasWall_17
    · have hz : inR x P.nw = true := decide_eq_true ⟨c_1, c_9⟩
      refine j_iconst (v := nI (1)) F dX2_hasWall_12 rfl (by decide) ?_
      refine j_goto (pc' := 17) F dX2_hasWall_13 (by decide) ?_
      exact j_iret F hRt rfl (roB_t hz) dX2_hasWall_17

set_option maxRecDepth 10000 in
set_option maxHeartbeats 2000000 in
theorem c_X2_hasLamp {l : Launch} {n : Nat} {E : Ev} {σ : St} {k : Nat} {P : Pl} (hn : 55 ≤ n) (hk : isPl n k) (hP : PlanOK σ k P) (hBd : PB P) (x : Int32) : Ct l yX2_hasLamp cX2_hasLamp 2 (some .boolean) 0 n E [.ref (E.1 + k), .int (x)] σ (ro (.int (bI (inR x P.nl))) σ) := by
  refine Ct.of (lv0 := [some (.ref (E.1 + k)), some (.int (x))]) (by decide) (Nat.le_of_ble_eq_true rfl) rfl ?_
  intro X hXn hXE hXl hXL F hRt
  subst hXn hXE hXl
  have hL : ∀ i, i < 2 → i < X.nL := fun i h => by rw [hXL]; exact h
  have hB0 := hBd
  obtain ⟨b1, b2, b3, b4, b5, b6, b7⟩ := hB0
  refine j_iload_n F dX2_hasLamp_0 rfl rfl ?_
  refine j_if_lt F (tgt := 16) dX2_hasLamp_1 (by decide) rfl (fun c_1 => ?_) (fun c_1 => ?_)
  · have hz : inR x P.nl = false := decide_eq_false (fun q => q.1 c_1)
    refine j_iconst (v := nI (0)) F dX2_hasLamp_16 rfl (by decide) ?_
    exact j_iret F hRt rfl (roB_f hz) dX2_hasLamp_17
  · refine j_iload_n F dX2_hasLamp_4 rfl rfl ?_
    refine j_aload_n F dX2_hasLamp_5 rfl rfl ?_
    refine gX2_28 hk F dX2_hasLamp_6 rfl ?_
    refine j_int (y := nI (P.nl)) (hP.nl) ?_
    refine j_icmp_ge F (tgt := 16) dX2_hasLamp_9 (by decide) rfl (fun c_9 => ?_) (fun c_9 => ?_)
    · have hz : inR x P.nl = false := decide_eq_false (fun q => q.2 c_9)
      refine j_iconst (v := nI (0)) F dX2_hasLamp_16 rfl (by decide) ?_
      exact j_iret F hRt rfl (roB_f hz) dX2_hasLamp_17
    · have hz : inR x P.nl = true := decide_eq_true ⟨c_1, c_9⟩
      refine j_iconst (v := nI (1)) F dX2_hasLamp_12 rfl (by decide) ?_
      refine j_goto (pc' := 17) F dX2_hasLamp_13 (by decide) ?_
      exact j_iret F hRt rfl (roB_t hz) dX2_hasLamp_17

set_option maxRecDepth 10000 in
set_option maxHeartbeats 2000000 in
theorem c_X2_hasInnerWall {l : Launch} {n : Nat} {E : Ev} {σ : St} {k : Nat} {P : Pl} (hn : 55 ≤ n) (hk : isPl n k) (hP : PlanOK σ k P) (hBd : PB P) (x : Int32) : Ct l yX2_hasInnerWall cX2_hasInnerWall 2 (some .boolean) 0 n E [.ref (E.1 + k), .int (x)] σ (ro (.int (bI (in4 x P.nw))) σ) := by
  refine Ct.of (lv0 := [some (.ref (E.1 + k)), some (.int (x))]) (by decide) (Nat.le_of_ble_eq_true rfl) rfl ?_
  intro X hXn hXE hXl hXL F hRt
  subst hXn hXE hXl
  have hL : ∀ i, i < 2 → i < X.nL := fun i h => by rw [hXL]; exact h
  have hB0 := hBd
  obtain ⟨b1, b2, b3, b4, b5, b6, b7⟩ := hB0
  refine j_iload_n F dX2_hasInnerWall_0 rfl rfl ?_
  refine j_iconst (v := nI (4)) F dX2_hasInnerWall_1 rfl (by decide) ?_
  refine j_icmp_lt F (tgt := 17) dX2_hasInnerWall_2 (by decide) rfl (fun c_2 => ?_) (fun c_2 => ?_)
  · have hz : in4 x P.nw = false := decide_eq_false (fun q => q.1 c_2)
    refine j_iconst (v := nI (0)) F dX2_hasInnerWall_17 rfl (by decide) ?_
    exact j_iret F hRt rfl (roB_f hz) dX2_hasInnerWall_18
  · refine j_iload_n F dX2_hasInnerWall_5 rfl rfl ?_
    refine j_aload_n F dX2_hasInnerWall_6 rfl rfl ?_
    refine gX2_25 hk F dX2_hasInnerWall_7 rfl ?_
    refine j_int (y := nI (P.nw)) (hP.nw) ?_
    refine j_icmp_ge F (tgt := 17) dX2_hasInnerWall_10 (by decide) rfl (fun c_10 => ?_) (fun c_10 => ?_)
    · have hz : in4 x P.nw = false := decide_eq_false (fun q => q.2 c_10)
      refine j_iconst (v := nI (0)) F dX2_hasInnerWall_17 rfl (by decide) ?_
      exact j_iret F hRt rfl (roB_f hz) dX2_hasInnerWall_18
    · have hz : in4 x P.nw = true := decide_eq_true ⟨c_2, c_10⟩
      refine j_iconst (v := nI (1)) F dX2_hasInnerWall_13 rfl (by decide) ?_
      refine j_goto (pc' := 18) F dX2_hasInnerWall_14 (by decide) ?_
      exact j_iret F hRt rfl (roB_t hz) dX2_hasInnerWall_18

set_option maxRecDepth 10000 in
set_option maxHeartbeats 2000000 in
theorem c_X2_hasSpot {l : Launch} {n : Nat} {E : Ev} {σ : St} {k : Nat} {P : Pl} (hn : 55 ≤ n) (hk : isPl n k) (hP : PlanOK σ k P) (hBd : PB P) (x y : Int32) : Ct l yX2_hasSpot cX2_hasSpot 3 (some .boolean) 0 n E [.ref (E.1 + k), .int (x), .int (y)] σ (ro (.int (bI (inR x P.W && inR y P.H))) σ) := by
  refine Ct.of (lv0 := [some (.ref (E.1 + k)), some (.int (x)), some (.int (y))]) (by decide) (Nat.le_of_ble_eq_true rfl) rfl ?_
  intro X hXn hXE hXl hXL F hRt
  subst hXn hXE hXl
  have hL : ∀ i, i < 3 → i < X.nL := fun i h => by rw [hXL]; exact h
  have hB0 := hBd
  obtain ⟨b1, b2, b3, b4, b5, b6, b7⟩ := hB0
  refine j_iload_n F dX2_hasSpot_0 rfl rfl ?_
  refine j_if_lt F (tgt := 28) dX2_hasSpot_1 (by decide) rfl (fun c_1 => ?_) (fun c_1 => ?_)
  · have hz : (inR x P.W && inR y P.H) = false := by rw [show inR x P.W = false from decide_eq_false (fun q => q.1 c_1)]; rfl
    refine j_iconst (v := nI (0)) F dX2_hasSpot_28 rfl (by decide) ?_
    exact j_iret F hRt rfl (roB_f hz) dX2_hasSpot_29
  · refine j_iload_n F dX2_hasSpot_4 rfl rfl ?_
    refine j_aload_n F dX2_hasSpot_5 rfl rfl ?_
    refine gX2_18 hk F dX2_hasSpot_6 rfl ?_
    refine j_int (y := nI (P.W)) (hP.w) ?_
    refine j_icmp_ge F (tgt := 28) dX2_hasSpot_9 (by decide) rfl (fun c_9 => ?_) (fun c_9 => ?_)
    · have hz : (inR x P.W && inR y P.H) = false := by rw [show inR x P.W = false from decide_eq_false (fun q => q.2 c_9)]; rfl
      refine j_iconst (v := nI (0)) F dX2_hasSpot_28 rfl (by decide) ?_
      exact j_iret F hRt rfl (roB_f hz) dX2_hasSpot_29
    · have hx : inR x P.W = true := decide_eq_true ⟨c_1, c_9⟩
      refine j_iload_n F dX2_hasSpot_12 rfl rfl ?_
      refine j_if_lt F (tgt := 28) dX2_hasSpot_13 (by decide) rfl (fun c_13 => ?_) (fun c_13 => ?_)
      · have hz : (inR x P.W && inR y P.H) = false := by rw [show inR y P.H = false from decide_eq_false (fun q => q.1 c_13), Bool.and_false]
        refine j_iconst (v := nI (0)) F dX2_hasSpot_28 rfl (by decide) ?_
        exact j_iret F hRt rfl (roB_f hz) dX2_hasSpot_29
      · refine j_iload_n F dX2_hasSpot_16 rfl rfl ?_
        refine j_aload_n F dX2_hasSpot_17 rfl rfl ?_
        refine gX2_22 hk F dX2_hasSpot_18 rfl ?_
        refine j_int (y := nI (P.H)) (hP.h) ?_
        refine j_icmp_ge F (tgt := 28) dX2_hasSpot_21 (by decide) rfl (fun c_21 => ?_) (fun c_21 => ?_)
        · have hz : (inR x P.W && inR y P.H) = false := by rw [show inR y P.H = false from decide_eq_false (fun q => q.2 c_21), Bool.and_false]
          refine j_iconst (v := nI (0)) F dX2_hasSpot_28 rfl (by decide) ?_
          exact j_iret F hRt rfl (roB_f hz) dX2_hasSpot_29
        · have hz : (inR x P.W && inR y P.H) = true := by rw [hx, show inR y P.H = true from decide_eq_true ⟨c_13, c_21⟩]; rfl
          refine j_iconst (v := nI (1)) F dX2_hasSpot_24 rfl (by decide) ?_
          refine j_goto (pc' := 29) F dX2_hasSpot_25 (by decide) ?_
          exact j_iret F hRt rfl (roB_t hz) dX2_hasSpot_29

set_option maxRecDepth 10000 in
set_option maxHeartbeats 2000000 in
theorem c_X2_wallPart {l : Launch} {n : Nat} {E : Ev} {σ : St} {k : Nat} {P : Pl} (hn : 55 ≤ n) (hk : isPl n k) (hP : PlanOK σ k P) (hBd : PB P) (w p : Nat) (hw : w < P.nw) (hp : p < 4) : Ct l yX2_wallPart cX2_wallPart 3 (some .int) 0 n E [.ref (E.1 + k), .int (nI (w)), .int (nI (p))] σ (ro (.int (nI (P.wl w p))) σ) := by
  refine Ct.of (lv0 := [some (.ref (E.1 + k)), some (.int (nI (w))), some (.int (nI (p)))]) (by decide) (Nat.le_of_ble_eq_true rfl) rfl ?_
  intro X hXn hXE hXl hXL F hRt
  subst hXn hXE hXl
  have hL : ∀ i, i < 3 → i < X.nL := fun i h => by rw [hXL]; exact h
  have hB0 := hBd
  obtain ⟨b1, b2, b3, b4, b5, b6, b7⟩ := hB0
  refine j_aload_n F dX2_wallPart_0 rfl rfl ?_
  refine gX2_9 hk F dX2_wallPart_1 rfl ?_
  refine j_iload_n F dX2_wallPart_4 rfl rfl ?_
  refine j_iconst (v := nI (4)) F dX2_wallPart_5 rfl (by decide) ?_
  refine j_imulN (a := w) (b := 4) F dX2_wallPart_6 rfl ?_
  refine j_iload_n F dX2_wallPart_7 rfl rfl ?_
  refine j_iaddN (a := w * 4) (b := p) F dX2_wallPart_8 rfl ?_
  refine j_iaload (a := (w * 4) + p) F (by have := hk.1; omega) hk.2.2.1 rfl (by omega) (by decide) dX2_wallPart_9 rfl ?_
  refine j_int (y := nI (P.wl w p)) (hP.wl hw hp) ?_
  exact j_iret F hRt rfl (⟨rfl, rfl⟩) dX2_wallPart_10

set_option maxRecDepth 10000 in
set_option maxHeartbeats 2000000 in
theorem c_X2_lampPart {l : Launch} {n : Nat} {E : Ev} {σ : St} {k : Nat} {P : Pl} (hn : 55 ≤ n) (hk : isPl n k) (hP : PlanOK σ k P) (hBd : PB P) (w p : Nat) (hw : w < P.nl) (hp : p < 3) : Ct l yX2_lampPart cX2_lampPart 3 (some .int) 0 n E [.ref (E.1 + k), .int (nI (w)), .int (nI (p))] σ (ro (.int (nI (P.lp w p))) σ) := by
  refine Ct.of (lv0 := [some (.ref (E.1 + k)), some (.int (nI (w))), some (.int (nI (p)))]) (by decide) (Nat.le_of_ble_eq_true rfl) rfl ?_
  intro X hXn hXE hXl hXL F hRt
  subst hXn hXE hXl
  have hL : ∀ i, i < 3 → i < X.nL := fun i h => by rw [hXL]; exact h
  have hB0 := hBd
  obtain ⟨b1, b2, b3, b4, b5, b6, b7⟩ := hB0
  refine j_aload_n F dX2_lampPart_0 rfl rfl ?_
  refine gX2_15 hk F dX2_lampPart_1 rfl ?_
  refine j_iload_n F dX2_lampPart_4 rfl rfl ?_
  refine j_iconst (v := nI (3)) F dX2_lampPart_5 rfl (by decide) ?_
  refine j_imulN (a := w) (b := 3) F dX2_lampPart_6 rfl ?_
  refine j_iload_n F dX2_lampPart_7 rfl rfl ?_
  refine j_iaddN (a := w * 3) (b := p) F dX2_lampPart_8 rfl ?_
  refine j_iaload (a := (w * 3) + p) F (by have := hk.1; omega) hk.2.2.2 rfl (by omega) (by decide) dX2_lampPart_9 rfl ?_
  refine j_int (y := nI (P.lp w p)) (hP.lp hw hp) ?_
  exact j_iret F hRt rfl (⟨rfl, rfl⟩) dX2_lampPart_10

set_option maxRecDepth 10000 in
set_option maxHeartbeats 2000000 in
theorem c_X2_hasLampAt {l : Launch} {n : Nat} {E : Ev} {σ : St} {k : Nat} {P : Pl} (hn : 55 ≤ n) (hk : isPl n k) (hP : PlanOK σ k P) (hBd : PB P) (hLm : ∀ l, l < P.nl → LampOK P l) (x y : Nat) (hx : x ≤ 9) (hy : y ≤ 9) : Ct l yX2_hasLampAt cX2_hasLampAt 4 (some .boolean) 1 n E [.ref (E.1 + k), .int (nI (x)), .int (nI (y))] σ (ro (.int (bI (P.at x y))) σ) := by
  refine Ct.of (lv0 := [some (.ref (E.1 + k)), some (.int (nI (x))), some (.int (nI (y))), none]) (by decide) (Nat.le_of_ble_eq_true rfl) rfl ?_
  intro X hXn hXE hXl hXL F hRt
  subst hXn hXE hXl
  have hL : ∀ i, i < 4 → i < X.nL := fun i h => by rw [hXL]; exact h
  have hLo := hLm
  have hB0 := hBd
  obtain ⟨b1, b2, b3, b4, b5, b6, b7⟩ := hB0
  refine j_iconst (v := nI (0)) F dX2_hasLampAt_0 rfl (by decide) ?_
  refine j_istore_n (lv' := [some (.ref (X.E.1 + k)), some (.int (nI (x))), some (.int (nI (y))), some (.int (nI (0)))]) F dX2_hasLampAt_1 rfl (hL _ (by decide)) rfl rfl ?_
  have loop_2 : ∀ (i : Nat), i ≤ P.nl → (∀ l, l < i → ¬ (P.lp l 0 = x ∧ P.lp l 1 = y)) → J X 2 [some (.ref (X.E.1 + k)), some (.int (nI (x))), some (.int (nI (y))), some (.int (nI (i)))] [] σ := by
    refine dnL (fun i hi ih_2 => ?_)
    intro hno
    refine j_iload_n F dX2_hasLampAt_2 rfl rfl ?_
    refine j_aload_n F dX2_hasLampAt_3 rfl rfl ?_
    refine gX2_28 hk F dX2_hasLampAt_4 rfl ?_
    refine j_int (y := nI (P.nl)) (hP.nl) ?_
    refine j_icmp_geN (a := i) (b := P.nl) F (by omega) (by omega) (tgt := 38) dX2_hasLampAt_7 (by decide) rfl (fun c_7 => ?_) (fun c_7 => ?_)
    · have hz : P.at x y = false := decide_eq_false (fun ⟨l, h1, h2⟩ => hno l (by omega) h2)
      refine j_iconst (v := nI (0)) F dX2_hasLampAt_38 rfl (by decide) ?_
      exact j_iret F hRt rfl (roB_f hz) dX2_hasLampAt_39
    · have hlo := hLo i c_7
      unfold LampOK at hlo
      refine j_aload_n F dX2_hasLampAt_10 rfl rfl ?_
      refine j_iload_n F dX2_hasLampAt_11 rfl rfl ?_
      refine j_iconst (v := nI (0)) F dX2_hasLampAt_12 rfl (by decide) ?_
      refine kX2_41 hk F (As := [.int (nI (i)), .int (nI (0))]) (rest := []) (c_X2_lampPart hn hk hP hBd i 0 (by omega) (by decide)) (by decide) rfl rfl (Nat.le_of_ble_eq_true rfl) dX2_hasLampAt_13 rfl (ro_k ?_)
      refine j_iload_n F dX2_hasLampAt_16 rfl rfl ?_
      refine j_icmp_neN (a := P.lp i 0) (b := x) F (by omega) (by omega) (tgt := 32) dX2_hasLampAt_17 (by decide) rfl (fun c_17 => ?_) (fun c_17 => ?_)
      · have hni : ¬ (P.lp i 0 = x ∧ P.lp i 1 = y) := fun q => c_17 q.1
        refine j_iincN (a := i) (c := 1) (lv' := [some (.ref (X.E.1 + k)), some (.int (nI (x))), some (.int (nI (y))), some (.int (nI (i + 1)))]) F dX2_hasLampAt_32 rfl rfl (by decide) (hL _ (by decide)) rfl rfl ?_
        refine j_goto (pc' := 2) F dX2_hasLampAt_35 (by decide) ?_
        exact ih_2 (by omega)  (fun l hl => by rcases (show l < i ∨ l = i by omega) with q | rfl; exact hno l q; exact hni)
      · refine j_aload_n F dX2_hasLampAt_20 rfl rfl ?_
        refine j_iload_n F dX2_hasLampAt_21 rfl rfl ?_
        refine j_iconst (v := nI (1)) F dX2_hasLampAt_22 rfl (by decide) ?_
        refine kX2_41 hk F (As := [.int (nI (i)), .int (nI (1))]) (rest := []) (c_X2_lampPart hn hk hP hBd i 1 (by omega) (by decide)) (by decide) rfl rfl (Nat.le_of_ble_eq_true rfl) dX2_hasLampAt_23 rfl (ro_k ?_)
        refine j_iload_n F dX2_hasLampAt_26 rfl rfl ?_
        refine j_icmp_neN (a := P.lp i 1) (b := y) F (by omega) (by omega) (tgt := 32) dX2_hasLampAt_27 (by decide) rfl (fun c_27 => ?_) (fun c_27 => ?_)
        · have hni : ¬ (P.lp i 0 = x ∧ P.lp i 1 = y) := fun q => c_27 q.2
          refine j_iincN (a := i) (c := 1) (lv' := [some (.ref (X.E.1 + k)), some (.int (nI (x))), some (.int (nI (y))), some (.int (nI (i + 1)))]) F dX2_hasLampAt_32 rfl rfl (by decide) (hL _ (by decide)) rfl rfl ?_
          refine j_goto (pc' := 2) F dX2_hasLampAt_35 (by decide) ?_
          exact ih_2 (by omega)  (fun l hl => by rcases (show l < i ∨ l = i by omega) with q | rfl; exact hno l q; exact hni)
        · have hz : P.at x y = true := decide_eq_true ⟨i, c_7, c_17, c_27⟩
          refine j_iconst (v := nI (1)) F dX2_hasLampAt_30 rfl (by decide) ?_
          exact j_iret F hRt rfl (roB_t hz) dX2_hasLampAt_31
  exact loop_2 0 (by omega)  (fun l hl => absurd hl (Nat.not_lt_zero l))

set_option maxRecDepth 10000 in
set_option maxHeartbeats 2000000 in
theorem c_X2_lampsOn {l : Launch} {n : Nat} {E : Ev} {σ : St} {k : Nat} {P : Pl} (hn : 55 ≤ n) (hk : isPl n k) (hP : PlanOK σ k P) (hBd : PB P) (hLm : ∀ l, l < P.nl → LampOK P l) : Ct l yX2_lampsOn cX2_lampsOn 3 (some .int) 1 n E [.ref (E.1 + k)] σ (ro (.int (nI P.on)) σ) := by
  refine Ct.of (lv0 := [some (.ref (E.1 + k)), none, none]) (by decide) (Nat.le_of_ble_eq_true rfl) rfl ?_
  intro X hXn hXE hXl hXL F hRt
  subst hXn hXE hXl
  have hL : ∀ i, i < 3 → i < X.nL := fun i h => by rw [hXL]; exact h
  have hB0 := hBd
  obtain ⟨b1, b2, b3, b4, b5, b6, b7⟩ := hB0
  refine j_iconst (v := nI (0)) F dX2_lampsOn_0 rfl (by decide) ?_
  refine j_istore_n (lv' := [some (.ref (X.E.1 + k)), some (.int (nI (0))), none]) F dX2_lampsOn_1 rfl (hL _ (by decide)) rfl rfl ?_
  refine j_iconst (v := nI (0)) F dX2_lampsOn_2 rfl (by decide) ?_
  refine j_istore_n (lv' := [some (.ref (X.E.1 + k)), some (.int (nI (0))), some (.int (nI (0)))]) F dX2_lampsOn_3 rfl (hL _ (by decide)) rfl rfl ?_
  have loop_4 : ∀ (i : Nat), i ≤ P.nl → J X 4 [some (.ref (X.E.1 + k)), some (.int (nI (Bt (fun l => P.lp l 2 == 1) i))), some (.int (nI (i)))] [] σ := by
    refine dnL (fun i hi ih_4 => ?_)
    refine j_iload_n F dX2_lampsOn_4 rfl rfl ?_
    refine j_aload_n F dX2_lampsOn_5 rfl rfl ?_
    refine gX2_28 hk F dX2_lampsOn_6 rfl ?_
    refine j_int (y := nI (P.nl)) (hP.nl) ?_
    refine j_icmp_geN (a := i) (b := P.nl) F (by omega) (by omega) (tgt := 29) dX2_lampsOn_9 (by decide) rfl (fun c_9 => ?_) (fun c_9 => ?_)
    · obtain rfl : i = P.nl := by omega
      refine j_iload_n F dX2_lampsOn_29 rfl rfl ?_
      exact j_iret F hRt rfl (⟨rfl, rfl⟩) dX2_lampsOn_30
    · have hlo := hLm i c_9
      unfold LampOK at hlo
      refine j_iload_n F dX2_lampsOn_12 rfl rfl ?_
      refine j_aload_n F dX2_lampsOn_13 rfl rfl ?_
      refine j_iload_n F dX2_lampsOn_14 rfl rfl ?_
      refine j_iconst (v := nI (2)) F dX2_lampsOn_15 rfl (by decide) ?_
      refine kX2_41 hk F (As := [.int (nI (i)), .int (nI (2))]) (rest := [.int (nI (Bt (fun l => P.lp l 2 == 1) i))]) (c_X2_lampPart hn hk hP hBd i 2 (by omega) (by decide)) (by decide) rfl rfl (Nat.le_of_ble_eq_true rfl) dX2_lampsOn_16 rfl (ro_k ?_)
      refine j_iload_n F dX2_lampsOn_19 rfl rfl ?_
      refine j_ishl F dX2_lampsOn_20 rfl ?_
      refine j_ior F dX2_lampsOn_21 rfl ?_
      refine j_int (y := nI (Bt (fun l => P.lp l 2 == 1) (i + 1))) (by rw [or_n (by omega) (by omega)]; simp only [Bt, beq_iff_eq]) ?_
      refine j_istore_n (lv' := [some (.ref (X.E.1 + k)), some (.int (nI (Bt (fun l => P.lp l 2 == 1) (i + 1)))), some (.int (nI (i)))]) F dX2_lampsOn_22 rfl (hL _ (by decide)) rfl rfl ?_
      refine j_iincN (a := i) (c := 1) (lv' := [some (.ref (X.E.1 + k)), some (.int (nI (Bt (fun l => P.lp l 2 == 1) (i + 1)))), some (.int (nI (i + 1)))]) F dX2_lampsOn_23 rfl rfl (by decide) (hL _ (by decide)) rfl rfl ?_
      refine j_goto (pc' := 4) F dX2_lampsOn_26 (by decide) ?_
      exact ih_4 (by omega)  
  exact loop_4 0 (by omega)  

set_option maxRecDepth 10000 in
set_option maxHeartbeats 2000000 in
theorem c_X2_canHoldWall {l : Launch} {n : Nat} {E : Ev} {σ : St} {k : Nat} {P : Pl} (hn : 55 ≤ n) (hk : isPl n k) (hP : PlanOK σ k P) (hBd : PB P) (x y len up : Int32) : Ct l yX2_canHoldWall cX2_canHoldWall 5 (some .boolean) 0 n E [.ref (E.1 + k), .int (x), .int (y), .int (len), .int (up)] σ (ro (.int (bI (canW P x y len up))) σ) := by
  refine Ct.of (lv0 := [some (.ref (E.1 + k)), some (.int (x)), some (.int (y)), some (.int (len)), some (.int (up))]) (by decide) (Nat.le_of_ble_eq_true rfl) rfl ?_
  intro X hXn hXE hXl hXL F hRt
  subst hXn hXE hXl
  have hL : ∀ i, i < 5 → i < X.nL := fun i h => by rw [hXL]; exact h
  have hB0 := hBd
  obtain ⟨b1, b2, b3, b4, b5, b6, b7⟩ := hB0
  refine j_iload_n F dX2_canHoldWall_0 rfl rfl ?_
  refine j_if_lt F (tgt := 29) dX2_canHoldWall_1 (by decide) rfl (fun c_1 => ?_) (fun c_1 => ?_)
  · have hz : canW P x y len up = false := decide_eq_false (fun q => q.1 c_1)
    refine j_iconst (v := nI (0)) F dX2_canHoldWall_29 rfl (by decide) ?_
    exact j_iret F hRt rfl (roB_f hz) dX2_canHoldWall_30
  · refine j_iload_n F dX2_canHoldWall_4 rfl rfl ?_
    refine j_aload_n F dX2_canHoldWall_5 rfl rfl ?_
    refine gX2_18 hk F dX2_canHoldWall_6 rfl ?_
    refine j_int (y := nI (P.W)) (hP.w) ?_
    refine j_icmp_gt F (tgt := 29) dX2_canHoldWall_9 (by decide) rfl (fun c_9 => ?_) (fun c_9 => ?_)
    · have hz : canW P x y len up = false := decide_eq_false (fun q => q.2.1 c_9)
      refine j_iconst (v := nI (0)) F dX2_canHoldWall_29 rfl (by decide) ?_
      exact j_iret F hRt rfl (roB_f hz) dX2_canHoldWall_30
    · refine j_iload_n F dX2_canHoldWall_12 rfl rfl ?_
      refine j_if_lt F (tgt := 29) dX2_canHoldWall_13 (by decide) rfl (fun c_13 => ?_) (fun c_13 => ?_)
      · have hz : canW P x y len up = false := decide_eq_false (fun q => q.2.2.1 c_13)
        refine j_iconst (v := nI (0)) F dX2_canHoldWall_29 rfl (by decide) ?_
        exact j_iret F hRt rfl (roB_f hz) dX2_canHoldWall_30
      · refine j_iload_n F dX2_canHoldWall_16 rfl rfl ?_
        refine j_aload_n F dX2_canHoldWall_17 rfl rfl ?_
        refine gX2_22 hk F dX2_canHoldWall_18 rfl ?_
        refine j_int (y := nI (P.H)) (hP.h) ?_
        refine j_icmp_gt F (tgt := 29) dX2_canHoldWall_21 (by decide) rfl (fun c_21 => ?_) (fun c_21 => ?_)
        · have hz : canW P x y len up = false := decide_eq_false (fun q => q.2.2.2.1 c_21)
          refine j_iconst (v := nI (0)) F dX2_canHoldWall_29 rfl (by decide) ?_
          exact j_iret F hRt rfl (roB_f hz) dX2_canHoldWall_30
        · refine j_iload_n F dX2_canHoldWall_24 rfl rfl ?_
          refine j_iconst (v := nI (1)) F dX2_canHoldWall_25 rfl (by decide) ?_
          refine j_icmp_ge F (tgt := 31) dX2_canHoldWall_26 (by decide) rfl (fun c_26 => ?_) (fun c_26 => ?_)
          · refine j_iload F dX2_canHoldWall_31 rfl rfl ?_
            refine j_iconst (v := nI (1)) F dX2_canHoldWall_33 rfl (by decide) ?_
            refine j_icmp_ne F (tgt := 55) dX2_canHoldWall_34 (by decide) rfl (fun c_34 => ?_) (fun c_34 => ?_)
            · refine j_iload F dX2_canHoldWall_55 rfl rfl ?_
              refine j_if_ne F (tgt := 74) dX2_canHoldWall_57 (by decide) rfl (fun c_57 => ?_) (fun c_57 => ?_)
              · have hz : canW P x y len up = false := decide_eq_false (fun q => q.2.2.2.2.2.elim (fun r => c_34 r.1) (fun r => c_57 r.2.1))
                refine j_iconst (v := nI (0)) F dX2_canHoldWall_74 rfl (by decide) ?_
                exact j_iret F hRt rfl (roB_f hz) dX2_canHoldWall_75
              · refine j_iload_n F dX2_canHoldWall_60 rfl rfl ?_
                refine j_aload_n F dX2_canHoldWall_61 rfl rfl ?_
                refine gX2_18 hk F dX2_canHoldWall_62 rfl ?_
                refine j_int (y := nI (P.W)) (hP.w) ?_
                refine j_iload_n F dX2_canHoldWall_65 rfl rfl ?_
                refine j_isub F dX2_canHoldWall_66 rfl ?_
                refine j_icmp_gt F (tgt := 74) dX2_canHoldWall_67 (by decide) rfl (fun c_67 => ?_) (fun c_67 => ?_)
                · have hz : canW P x y len up = false := decide_eq_false (fun q => q.2.2.2.2.2.elim (fun r => c_34 r.1) (fun r => r.2.2 c_67))
                  refine j_iconst (v := nI (0)) F dX2_canHoldWall_74 rfl (by decide) ?_
                  exact j_iret F hRt rfl (roB_f hz) dX2_canHoldWall_75
                · have hz : canW P x y len up = true := decide_eq_true ⟨c_1, c_9, c_13, c_21, c_26, Or.inr ⟨c_34, c_57, c_67⟩⟩
                  refine j_iconst (v := nI (1)) F dX2_canHoldWall_70 rfl (by decide) ?_
                  refine j_goto (pc' := 75) F dX2_canHoldWall_71 (by decide) ?_
                  exact j_iret F hRt rfl (roB_t hz) dX2_canHoldWall_75
            · refine j_iload_n F dX2_canHoldWall_37 rfl rfl ?_
              refine j_aload_n F dX2_canHoldWall_38 rfl rfl ?_
              refine gX2_22 hk F dX2_canHoldWall_39 rfl ?_
              refine j_int (y := nI (P.H)) (hP.h) ?_
              refine j_iload_n F dX2_canHoldWall_42 rfl rfl ?_
              refine j_isub F dX2_canHoldWall_43 rfl ?_
              refine j_icmp_gt F (tgt := 51) dX2_canHoldWall_44 (by decide) rfl (fun c_44 => ?_) (fun c_44 => ?_)
              · have hz : canW P x y len up = false := decide_eq_false (fun q => q.2.2.2.2.2.elim (fun r => r.2 c_44) (fun r => r.1 c_34))
                refine j_iconst (v := nI (0)) F dX2_canHoldWall_51 rfl (by decide) ?_
                refine j_goto (pc' := 75) F dX2_canHoldWall_52 (by decide) ?_
                exact j_iret F hRt rfl (roB_f hz) dX2_canHoldWall_75
              · have hz : canW P x y len up = true := decide_eq_true ⟨c_1, c_9, c_13, c_21, c_26, Or.inl ⟨c_34, c_44⟩⟩
                refine j_iconst (v := nI (1)) F dX2_canHoldWall_47 rfl (by decide) ?_
                refine j_goto (pc' := 75) F dX2_canHoldWall_48 (by decide) ?_
                exact j_iret F hRt rfl (roB_t hz) dX2_canHoldWall_75
          · have hz : canW P x y len up = false := decide_eq_false (fun q => c_26 q.2.2.2.2.1)
            refine j_iconst (v := nI (0)) F dX2_canHoldWall_29 rfl (by decide) ?_
            exact j_iret F hRt rfl (roB_f hz) dX2_canHoldWall_30
