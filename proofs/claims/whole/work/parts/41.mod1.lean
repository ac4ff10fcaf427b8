set_option maxRecDepth 10000 in
set_option maxHeartbeats 2000000 in
theorem c_X6_in {l : Launch} {n : Nat} {E : Ev} {σ : St} (v lo hi : Int32) : Ct l yX6_in cX6_in 3 (some .boolean) 0 n E [.int (v), .int (lo), .int (hi)] σ (ro (.int (bI (decide (¬ v < lo ∧ ¬ hi < v)))) σ) := by
  refine Ct.of (lv0 := [some (.int (v)), some (.int (lo)), some (.int (hi))]) (by decide) (Nat.le_of_ble_eq_true rfl) rfl ?_
  intro X hXn hXE hXl hXL F hRt
  subst hXn hXE hXl
  have hL : ∀ i, i < 3 → i < X.nL := fun i h => by rw [hXL]; exact h
  refine j_iload_n F dX6_in_0 rfl rfl ?_
  refine j_iload_n F dX6_in_1 rfl rfl ?_
  refine j_icmp_lt F (tgt := 14) dX6_in_2 (by decide) rfl (fun c_2 => ?_) (fun c_2 => ?_)
  · refine j_iconst (v := nI (0)) F dX6_in_14 rfl (by decide) ?_
    exact j_iret F hRt rfl (roB_f (decide_eq_false (fun q => by first | exact q.1 c_2 | exact q.2 c_7))) dX6_in_15
  · refine j_iload_n F dX6_in_5 rfl rfl ?_
    refine j_iload_n F dX6_in_6 rfl rfl ?_
    refine j_icmp_gt F (tgt := 14) dX6_in_7 (by decide) rfl (fun c_7 => ?_) (fun c_7 => ?_)
    · refine j_iconst (v := nI (0)) F dX6_in_14 rfl (by decide) ?_
      exact j_iret F hRt rfl (roB_f (decide_eq_false (fun q => by first | exact q.1 c_2 | exact q.2 c_7))) dX6_in_15
    · refine j_iconst (v := nI (1)) F dX6_in_10 rfl (by decide) ?_
      refine j_goto (pc' := 15) F dX6_in_11 (by decide) ?_
      exact j_iret F hRt rfl (roB_t (decide_eq_true ⟨c_2, c_7⟩)) dX6_in_15

set_option maxRecDepth 10000 in
set_option maxHeartbeats 2000000 in
theorem c_X6_size {l : Launch} {n : Nat} {E : Ev} {σ : St} (a : Int) {B : Nat} (hb : bd a B) (hB1 : B < 2147483648) : Ct l yX6_size cX6_size 1 (some .int) 0 n E [.int (iI (a))] σ (ro (.int (nI a.natAbs)) σ) := by
  refine Ct.of (lv0 := [some (.int (iI (a)))]) (by decide) (Nat.le_of_ble_eq_true rfl) rfl ?_
  intro X hXn hXE hXl hXL F hRt
  subst hXn hXE hXl
  have hL : ∀ i, i < 1 → i < X.nL := fun i h => by rw [hXL]; exact h
  refine j_iload_n F dX6_size_0 rfl rfl ?_
  refine j_if_geZ F (a := a) rfl hb hB1 (tgt := 9) dX6_size_1 (by decide) rfl (fun c_1 => ?_) (fun c_1 => ?_)
  · refine j_iload_n F dX6_size_9 rfl rfl ?_
    exact j_iret F hRt rfl (roI (by rw [nI_iI]; congr 1; omega)) dX6_size_10
  · refine j_iload_n F dX6_size_4 rfl rfl ?_
    refine j_inegZ F (a := a) rfl dX6_size_5 rfl ?_
    refine j_goto (pc' := 10) F dX6_size_6 (by decide) ?_
    exact j_iret F hRt rfl (roI (by rw [nI_iI]; congr 1; omega)) dX6_size_10

set_option maxRecDepth 10000 in
set_option maxHeartbeats 2000000 in
theorem c_X6_isSpot {l : Launch} {n : Nat} {E : Ev} {σ : St} {P : Pl} (hn : 69 ≤ n) (hM : MP σ P) (hBd : PB P) (x y : Int32) : Ct l yX6_isSpot cX6_isSpot 3 (some .boolean) 1 n E [.ref (E.1 + 55), .int (x), .int (y)] σ (ro (.int (bI (inR x P.W && inR y P.H))) σ) := by
  refine Ct.of (lv0 := [some (.ref (E.1 + 55)), some (.int (x)), some (.int (y))]) (by decide) (Nat.le_of_ble_eq_true rfl) rfl ?_
  intro X hXn hXE hXl hXL F hRt
  subst hXn hXE hXl
  have hL : ∀ i, i < 3 → i < X.nL := fun i h => by rw [hXL]; exact h
  have hB0 := hBd
  obtain ⟨b1, b2, b3, b4, b5, b6, b7⟩ := hB0
  refine j_iload_n F dX6_isSpot_0 rfl rfl ?_
  refine j_iconst (v := nI (0)) F dX6_isSpot_1 rfl (by decide) ?_
  refine j_aload_n F dX6_isSpot_2 rfl rfl ?_
  refine gX6_60 hn F dX6_isSpot_3 rfl ?_
  refine j_int (y := nI (P.W)) (hM.w) ?_
  refine j_iconst (v := nI (1)) F dX6_isSpot_6 rfl (by decide) ?_
  refine j_isub F dX6_isSpot_7 rfl ?_
  refine kX6_63 F (As := [.int (x), .int (nI (0)), .int ((nI (P.W) - nI (1)))]) (rest := []) (c_X6_in x (nI (0)) (nI (P.W) - nI (1))) (by decide) rfl rfl (Nat.le_of_ble_eq_true rfl) dX6_isSpot_8 rfl (ro_k ?_)
  refine j_int (y := bI (inR x P.W)) (congrArg bI (in_R (by omega))) ?_
  refine j_if_eqB F (x := inR x P.W) (tgt := 32) dX6_isSpot_11 (by decide) rfl (fun c_11 => ?_) (fun c_11 => ?_)
  · refine j_iconst (v := nI (0)) F dX6_isSpot_32 rfl (by decide) ?_
    exact j_iret F hRt rfl (roB_f (by first | (rw [c_25, Bool.and_false]) | (rw [c_11, Bool.false_and]))) dX6_isSpot_33
  · refine j_iload_n F dX6_isSpot_14 rfl rfl ?_
    refine j_iconst (v := nI (0)) F dX6_isSpot_15 rfl (by decide) ?_
    refine j_aload_n F dX6_isSpot_16 rfl rfl ?_
    refine gX6_67 hn F dX6_isSpot_17 rfl ?_
    refine j_int (y := nI (P.H)) (hM.h) ?_
    refine j_iconst (v := nI (1)) F dX6_isSpot_20 rfl (by decide) ?_
    refine j_isub F dX6_isSpot_21 rfl ?_
    refine kX6_63 F (As := [.int (y), .int (nI (0)), .int ((nI (P.H) - nI (1)))]) (rest := []) (c_X6_in y (nI (0)) (nI (P.H) - nI (1))) (by decide) rfl rfl (Nat.le_of_ble_eq_true rfl) dX6_isSpot_22 rfl (ro_k ?_)
    refine j_int (y := bI (inR y P.H)) (congrArg bI (in_R (by omega))) ?_
    refine j_if_eqB F (x := inR y P.H) (tgt := 32) dX6_isSpot_25 (by decide) rfl (fun c_25 => ?_) (fun c_25 => ?_)
    · refine j_iconst (v := nI (0)) F dX6_isSpot_32 rfl (by decide) ?_
      exact j_iret F hRt rfl (roB_f (by first | (rw [c_25, Bool.and_false]) | (rw [c_11, Bool.false_and]))) dX6_isSpot_33
    · refine j_iconst (v := nI (1)) F dX6_isSpot_28 rfl (by decide) ?_
      refine j_goto (pc' := 33) F dX6_isSpot_29 (by decide) ?_
      exact j_iret F hRt rfl (roB_t (by rw [c_11, c_25]; rfl)) dX6_isSpot_33

set_option maxRecDepth 10000 in
set_option maxHeartbeats 2000000 in
theorem c_X6_isLamp {l : Launch} {n : Nat} {E : Ev} {σ : St} {P : Pl} (hn : 69 ≤ n) (hM : MP σ P) (hBd : PB P) (x : Int32) : Ct l yX6_isLamp cX6_isLamp 2 (some .boolean) 1 n E [.ref (E.1 + 55), .int (x)] σ (ro (.int (bI (inR x P.nl))) σ) := by
  refine Ct.of (lv0 := [some (.ref (E.1 + 55)), some (.int (x))]) (by decide) (Nat.le_of_ble_eq_true rfl) rfl ?_
  intro X hXn hXE hXl hXL F hRt
  subst hXn hXE hXl
  have hL : ∀ i, i < 2 → i < X.nL := fun i h => by rw [hXL]; exact h
  have hB0 := hBd
  obtain ⟨b1, b2, b3, b4, b5, b6, b7⟩ := hB0
  refine j_iload_n F dX6_isLamp_0 rfl rfl ?_
  refine j_iconst (v := nI (0)) F dX6_isLamp_1 rfl (by decide) ?_
  refine j_aload_n F dX6_isLamp_2 rfl rfl ?_
  refine gX6_7 hn F dX6_isLamp_3 rfl ?_
  refine j_iconst (v := nI (0)) F dX6_isLamp_6 rfl (by decide) ?_
  refine j_iaload (a := 0) F (by omega) rfl rfl (by omega) (by decide) dX6_isLamp_7 rfl ?_
  refine j_int (y := nI (P.nl)) (hM.nl) ?_
  refine j_iconst (v := nI (1)) F dX6_isLamp_8 rfl (by decide) ?_
  refine j_isub F dX6_isLamp_9 rfl ?_
  refine kX6_63 F (As := [.int (x), .int (nI (0)), .int ((nI (P.nl) - nI (1)))]) (rest := []) (c_X6_in x (nI (0)) (nI (P.nl) - nI (1))) (by decide) rfl rfl (Nat.le_of_ble_eq_true rfl) dX6_isLamp_10 rfl (ro_k ?_)
  refine j_int (y := bI (inR x P.nl)) (congrArg bI (in_R (by omega))) ?_
  exact j_iret F hRt (bI_nar _) (⟨rfl, rfl⟩) dX6_isLamp_13

set_option maxRecDepth 10000 in
set_option maxHeartbeats 2000000 in
theorem c_X6_isWall {l : Launch} {n : Nat} {E : Ev} {σ : St} {P : Pl} (hn : 69 ≤ n) (hM : MP σ P) (hBd : PB P) (x : Int32) : Ct l yX6_isWall cX6_isWall 2 (some .boolean) 1 n E [.ref (E.1 + 55), .int (x)] σ (ro (.int (bI (inR x P.nw))) σ) := by
  refine Ct.of (lv0 := [some (.ref (E.1 + 55)), some (.int (x))]) (by decide) (Nat.le_of_ble_eq_true rfl) rfl ?_
  intro X hXn hXE hXl hXL F hRt
  subst hXn hXE hXl
  have hL : ∀ i, i < 2 → i < X.nL := fun i h => by rw [hXL]; exact h
  have hB0 := hBd
  obtain ⟨b1, b2, b3, b4, b5, b6, b7⟩ := hB0
  refine j_iload_n F dX6_isWall_0 rfl rfl ?_
  refine j_iconst (v := nI (0)) F dX6_isWall_1 rfl (by decide) ?_
  refine j_aload_n F dX6_isWall_2 rfl rfl ?_
  refine gX6_7 hn F dX6_isWall_3 rfl ?_
  refine j_iconst (v := nI (1)) F dX6_isWall_6 rfl (by decide) ?_
  refine j_iaload (a := 1) F (by omega) rfl rfl (by omega) (by decide) dX6_isWall_7 rfl ?_
  refine j_int (y := nI (P.nw)) (hM.nw) ?_
  refine j_iconst (v := nI (1)) F dX6_isWall_8 rfl (by decide) ?_
  refine j_isub F dX6_isWall_9 rfl ?_
  refine kX6_63 F (As := [.int (x), .int (nI (0)), .int ((nI (P.nw) - nI (1)))]) (rest := []) (c_X6_in x (nI (0)) (nI (P.nw) - nI (1))) (by decide) rfl rfl (Nat.le_of_ble_eq_true rfl) dX6_isWall_10 rfl (ro_k ?_)
  refine j_int (y := bI (inR x P.nw)) (congrArg bI (in_R (by omega))) ?_
  exact j_iret F hRt (bI_nar _) (⟨rfl, rfl⟩) dX6_isWall_13

set_option maxRecDepth 10000 in
set_option maxHeartbeats 2000000 in
theorem c_X6_ofLamp {l : Launch} {n : Nat} {E : Ev} {σ : St} {P : Pl} (hn : 69 ≤ n) (hM : MP σ P) (hBd : PB P) (i p : Nat) (hi : i < P.nl) (hp : p < 3) : Ct l yX6_ofLamp cX6_ofLamp 3 (some .int) 0 n E [.ref (E.1 + 55), .int (nI (i)), .int (nI (p))] σ (ro (.int (nI (P.lp i p))) σ) := by
  refine Ct.of (lv0 := [some (.ref (E.1 + 55)), some (.int (nI (i))), some (.int (nI (p)))]) (by decide) (Nat.le_of_ble_eq_true rfl) rfl ?_
  intro X hXn hXE hXl hXL F hRt
  subst hXn hXE hXl
  have hL : ∀ i, i < 3 → i < X.nL := fun i h => by rw [hXL]; exact h
  have hB0 := hBd
  obtain ⟨b1, b2, b3, b4, b5, b6, b7⟩ := hB0
  refine j_aload_n F dX6_ofLamp_0 rfl rfl ?_
  refine gX6_7 hn F dX6_ofLamp_1 rfl ?_
  refine j_iconst (v := nI (2)) F dX6_ofLamp_4 rfl (by decide) ?_
  refine j_iconst (v := nI (3)) F dX6_ofLamp_5 rfl (by decide) ?_
  refine j_iload_n F dX6_ofLamp_6 rfl rfl ?_
  refine j_imulN (a := 3) (b := i) F dX6_ofLamp_7 rfl ?_
  refine j_iaddN (a := 2) (b := 3 * i) F dX6_ofLamp_8 rfl ?_
  refine j_iload_n F dX6_ofLamp_9 rfl rfl ?_
  refine j_iaddN (a := 2 + (3 * i)) (b := p) F dX6_ofLamp_10 rfl ?_
  refine j_iaload (a := (2 + (3 * i)) + p) F (by omega) rfl rfl (by omega) (by decide) dX6_ofLamp_11 rfl ?_
  refine j_int (y := nI (P.lp i p)) (hM.lp hi hp) ?_
  exact j_iret F hRt rfl (⟨rfl, rfl⟩) dX6_ofLamp_12

set_option maxRecDepth 10000 in
set_option maxHeartbeats 2000000 in
theorem c_X6_ofWall {l : Launch} {n : Nat} {E : Ev} {σ : St} {P : Pl} (hn : 69 ≤ n) (hM : MP σ P) (hBd : PB P) (i p : Nat) (hi : i < P.nw) (hp : p < 4) : Ct l yX6_ofWall cX6_ofWall 3 (some .int) 0 n E [.ref (E.1 + 55), .int (nI (i)), .int (nI (p))] σ (ro (.int (nI (P.wl i p))) σ) := by
  refine Ct.of (lv0 := [some (.ref (E.1 + 55)), some (.int (nI (i))), some (.int (nI (p)))]) (by decide) (Nat.le_of_ble_eq_true rfl) rfl ?_
  intro X hXn hXE hXl hXL F hRt
  subst hXn hXE hXl
  have hL : ∀ i, i < 3 → i < X.nL := fun i h => by rw [hXL]; exact h
  have hB0 := hBd
  obtain ⟨b1, b2, b3, b4, b5, b6, b7⟩ := hB0
  refine j_aload_n F dX6_ofWall_0 rfl rfl ?_
  refine gX6_7 hn F dX6_ofWall_1 rfl ?_
  refine j_bipush (v := nI (26)) F dX6_ofWall_4 rfl (by decide) ?_
  refine j_iconst (v := nI (4)) F dX6_ofWall_6 rfl (by decide) ?_
  refine j_iload_n F dX6_ofWall_7 rfl rfl ?_
  refine j_imulN (a := 4) (b := i) F dX6_ofWall_8 rfl ?_
  refine j_iaddN (a := 26) (b := 4 * i) F dX6_ofWall_9 rfl ?_
  refine j_iload_n F dX6_ofWall_10 rfl rfl ?_
  refine j_iaddN (a := 26 + (4 * i)) (b := p) F dX6_ofWall_11 rfl ?_
  refine j_iaload (a := (26 + (4 * i)) + p) F (by omega) rfl rfl (by omega) (by decide) dX6_ofWall_12 rfl ?_
  refine j_int (y := nI (P.wl i p)) (hM.wl hi hp) ?_
  exact j_iret F hRt rfl (⟨rfl, rfl⟩) dX6_ofWall_13

set_option maxRecDepth 10000 in
set_option maxHeartbeats 2000000 in
theorem c_X6_lampAt {l : Launch} {n : Nat} {E : Ev} {σ : St} {P : Pl} (hn : 69 ≤ n) (hM : MP σ P) (hBd : PB P) (hLm : ∀ l, l < P.nl → LampOK P l) (x y : Nat) (hx : x < 100) (hy : y < 100) : Ct l yX6_lampAt cX6_lampAt 4 (some .int) 1 n E [.ref (E.1 + 55), .int (nI (x)), .int (nI (y))] σ (fun v' σ' => σ' = σ ∧ ∃ r : Int32, v' = some (.int r) ∧ (r = -9 ↔ P.at x y = false)) := by
  refine Ct.of (lv0 := [some (.ref (E.1 + 55)), some (.int (nI (x))), some (.int (nI (y))), none]) (by decide) (Nat.le_of_ble_eq_true rfl) rfl ?_
  intro X hXn hXE hXl hXL F hRt
  subst hXn hXE hXl
  have hL : ∀ i, i < 4 → i < X.nL := fun i h => by rw [hXL]; exact h
  have hB0 := hBd
  obtain ⟨b1, b2, b3, b4, b5, b6, b7⟩ := hB0
  refine j_iconst (v := nI (0)) F dX6_lampAt_0 rfl (by decide) ?_
  refine j_istore_n (lv' := [some (.ref (X.E.1 + 55)), some (.int (nI (x))), some (.int (nI (y))), some (.int (nI (0)))]) F dX6_lampAt_1 rfl (hL _ (by decide)) rfl rfl ?_
  have loop_2 : ∀ (ii : Nat), ii ≤ P.nl → (∀ q, q < ii → ¬ (P.lp q 0 = x ∧ P.lp q 1 = y)) → J X 2 [some (.ref (X.E.1 + 55)), some (.int (nI (x))), some (.int (nI (y))), some (.int (nI (ii)))] [] σ := by
    refine dnL (fun ii hii ih_2 => ?_)
    intro hno
    refine j_iload_n F dX6_lampAt_2 rfl rfl ?_
    refine j_aload_n F dX6_lampAt_3 rfl rfl ?_
    refine gX6_7 hn F dX6_lampAt_4 rfl ?_
    refine j_iconst (v := nI (0)) F dX6_lampAt_7 rfl (by decide) ?_
    refine j_iaload (a := 0) F (by omega) rfl rfl (by omega) (by decide) dX6_lampAt_8 rfl ?_
    refine j_int (y := nI (P.nl)) (hM.nl) ?_
    refine j_icmp_geN (a := ii) (b := P.nl) F (by omega) (by omega) (tgt := 40) dX6_lampAt_9 (by decide) rfl (fun c_9 => ?_) (fun c_9 => ?_)
    · have hiN : ii = P.nl := by omega
      refine j_bipush (v := (-9 : Int32)) F dX6_lampAt_40 rfl (by decide) ?_
      exact j_iret F hRt rfl (⟨rfl, _, rfl, ⟨fun _ => at_f (fun q hq => hno q (by omega)), fun _ => rfl⟩⟩) dX6_lampAt_42
    · have hlo := hLm ii c_9
      unfold LampOK at hlo
      refine j_aload_n F dX6_lampAt_12 rfl rfl ?_
      refine j_iload_n F dX6_lampAt_13 rfl rfl ?_
      refine j_iconst (v := nI (0)) F dX6_lampAt_14 rfl (by decide) ?_
      refine kX6_70 hn F (As := [.int (nI (ii)), .int (nI (0))]) (rest := []) (c_X6_ofLamp hn hM hBd ii 0 (by omega) (by omega)) (by decide) rfl rfl (Nat.le_of_ble_eq_true rfl) dX6_lampAt_15 rfl (ro_k ?_)
      refine j_iload_n F dX6_lampAt_18 rfl rfl ?_
      refine j_icmp_neN (a := P.lp ii 0) (b := x) F (by omega) (by omega) (tgt := 34) dX6_lampAt_19 (by decide) rfl (fun c_19 => ?_) (fun c_19 => ?_)
      · have hni : ¬ (P.lp ii 0 = x ∧ P.lp ii 1 = y) := fun q => c_19 q.1
        refine j_iincN (a := ii) (c := 1) (lv' := [some (.ref (X.E.1 + 55)), some (.int (nI (x))), some (.int (nI (y))), some (.int (nI (ii + 1)))]) F dX6_lampAt_34 rfl rfl (by decide) (hL _ (by decide)) rfl rfl ?_
        refine j_goto (pc' := 2) F dX6_lampAt_37 (by decide) ?_
        exact ih_2 (by omega)  (fun q h => by rcases (show q < ii ∨ q = ii by omega) with t | rfl; exact hno q t; exact hni)
      · refine j_aload_n F dX6_lampAt_22 rfl rfl ?_
        refine j_iload_n F dX6_lampAt_23 rfl rfl ?_
        refine j_iconst (v := nI (1)) F dX6_lampAt_24 rfl (by decide) ?_
        refine kX6_70 hn F (As := [.int (nI (ii)), .int (nI (1))]) (rest := []) (c_X6_ofLamp hn hM hBd ii 1 (by omega) (by omega)) (by decide) rfl rfl (Nat.le_of_ble_eq_true rfl) dX6_lampAt_25 rfl (ro_k ?_)
        refine j_iload_n F dX6_lampAt_28 rfl rfl ?_
        refine j_icmp_neN (a := P.lp ii 1) (b := y) F (by omega) (by omega) (tgt := 34) dX6_lampAt_29 (by decide) rfl (fun c_29 => ?_) (fun c_29 => ?_)
        · have hni : ¬ (P.lp ii 0 = x ∧ P.lp ii 1 = y) := fun q => c_29 q.2
          refine j_iincN (a := ii) (c := 1) (lv' := [some (.ref (X.E.1 + 55)), some (.int (nI (x))), some (.int (nI (y))), some (.int (nI (ii + 1)))]) F dX6_lampAt_34 rfl rfl (by decide) (hL _ (by decide)) rfl rfl ?_
          refine j_goto (pc' := 2) F dX6_lampAt_37 (by decide) ?_
          exact ih_2 (by omega)  (fun q h => by rcases (show q < ii ∨ q = ii by omega) with t | rfl; exact hno q t; exact hni)
        · refine j_iload_n F dX6_lampAt_32 rfl rfl ?_
          exact j_iret F hRt rfl (⟨rfl, _, rfl, ⟨fun q => absurd q (nI_m9 (by omega)), fun q => by rw [at_t c_9 (by omega) (by omega)] at q; cases q⟩⟩) dX6_lampAt_33
  exact loop_2 0 (by omega)  (fun q h => absurd h (Nat.not_lt_zero q))

set_option maxRecDepth 10000 in
set_option maxHeartbeats 2000000 in
theorem c_X6_on {l : Launch} {n : Nat} {E : Ev} {σ : St} {P : Pl} (hn : 69 ≤ n) (hM : MP σ P) (hBd : PB P) (hLm : ∀ l, l < P.nl → LampOK P l) : Ct l yX6_on cX6_on 3 (some .int) 1 n E [.ref (E.1 + 55)] σ (ro (.int (nI P.on)) σ) := by
  refine Ct.of (lv0 := [some (.ref (E.1 + 55)), none, none]) (by decide) (Nat.le_of_ble_eq_true rfl) rfl ?_
  intro X hXn hXE hXl hXL F hRt
  subst hXn hXE hXl
  have hL : ∀ i, i < 3 → i < X.nL := fun i h => by rw [hXL]; exact h
  have hB0 := hBd
  obtain ⟨b1, b2, b3, b4, b5, b6, b7⟩ := hB0
  refine j_iconst (v := nI (0)) F dX6_on_0 rfl (by decide) ?_
  refine j_istore_n (lv' := [some (.ref (X.E.1 + 55)), some (.int (nI (0))), none]) F dX6_on_1 rfl (hL _ (by decide)) rfl rfl ?_
  refine j_iconst (v := nI (0)) F dX6_on_2 rfl (by decide) ?_
  refine j_istore_n (lv' := [some (.ref (X.E.1 + 55)), some (.int (nI (0))), some (.int (nI (0)))]) F dX6_on_3 rfl (hL _ (by decide)) rfl rfl ?_
  have loop_4 : ∀ (ii : Nat), ii ≤ P.nl → J X 4 [some (.ref (X.E.1 + 55)), some (.int (nI (Bt (fun l => P.lp l 2 == 1) ii))), some (.int (nI (ii)))] [] σ := by
    refine dnL (fun ii hii ih_4 => ?_)
    refine j_iload_n F dX6_on_4 rfl rfl ?_
    refine j_aload_n F dX6_on_5 rfl rfl ?_
    refine gX6_7 hn F dX6_on_6 rfl ?_
    refine j_iconst (v := nI (0)) F dX6_on_9 rfl (by decide) ?_
    refine j_iaload (a := 0) F (by omega) rfl rfl (by omega) (by decide) dX6_on_10 rfl ?_
    refine j_int (y := nI (P.nl)) (hM.nl) ?_
    refine j_icmp_geN (a := ii) (b := P.nl) F (by omega) (by omega) (tgt := 31) dX6_on_11 (by decide) rfl (fun c_11 => ?_) (fun c_11 => ?_)
    · have hiN : ii = P.nl := by omega
      refine j_iload_n F dX6_on_31 rfl rfl ?_
      exact j_iret F hRt rfl (roI (by unfold Pl.on; rw [hiN])) dX6_on_32
    · have hlo := hLm ii c_11
      unfold LampOK at hlo
      refine j_iload_n F dX6_on_14 rfl rfl ?_
      refine j_aload_n F dX6_on_15 rfl rfl ?_
      refine j_iload_n F dX6_on_16 rfl rfl ?_
      refine j_iconst (v := nI (2)) F dX6_on_17 rfl (by decide) ?_
      refine kX6_70 hn F (As := [.int (nI (ii)), .int (nI (2))]) (rest := [.int (nI (Bt (fun l => P.lp l 2 == 1) ii))]) (c_X6_ofLamp hn hM hBd ii 2 (by omega) (by omega)) (by decide) rfl rfl (Nat.le_of_ble_eq_true rfl) dX6_on_18 rfl (ro_k ?_)
      refine j_iload_n F dX6_on_21 rfl rfl ?_
      refine j_ishl F dX6_on_22 rfl ?_
      refine j_ior F dX6_on_23 rfl ?_
      refine j_int (y := nI (Bt (fun l => P.lp l 2 == 1) (ii + 1))) ((or_n hlo.2.2 (by omega)).trans (by rw [Bt]; by_cases q : P.lp ii 2 = 1; (rw [if_pos q, if_pos (by rw [q]; rfl)]); (rw [if_neg q, if_neg (fun r => q (eq_of_beq r))]))) ?_
      refine j_istore_n (lv' := [some (.ref (X.E.1 + 55)), some (.int (nI (Bt (fun l => P.lp l 2 == 1) (ii + 1)))), some (.int (nI (ii)))]) F dX6_on_24 rfl (hL _ (by decide)) rfl rfl ?_
      refine j_iincN (a := ii) (c := 1) (lv' := [some (.ref (X.E.1 + 55)), some (.int (nI (Bt (fun l => P.lp l 2 == 1) (ii + 1)))), some (.int (nI (ii + 1)))]) F dX6_on_25 rfl rfl (by decide) (hL _ (by decide)) rfl rfl ?_
      refine j_goto (pc' := 4) F dX6_on_28 (by decide) ?_
      exact ih_4 (by omega)  
  exact loop_4 0 (by omega)  

set_option maxRecDepth 10000 in
set_option maxHeartbeats 2000000 in
theorem c_X6_isBetween {l : Launch} {n : Nat} {E : Ev} {σ : St} {P : Pl} (hn : 69 ≤ n) (hM : MP σ P) (hBd : PB P) (hWl : ∀ w, w < P.nw → WallOK P w) (w fx fy tx ty : Nat) (hw : w < P.nw) (h1 : fx ≤ 9) (h2 : fy ≤ 9) (h3 : tx ≤ 9) (h4 : ty ≤ 9) : Ct l yX6_isBetween cX6_isBetween 17 (some .boolean) 1 n E [.ref (E.1 + 55), .int (nI (w)), .int (nI (fx)), .int (nI (fy)), .int (nI (tx)), .int (nI (ty))] σ (ro (.int (bI (P.stop w fx fy tx ty))) σ) := by
  refine Ct.of (lv0 := [some (.ref (E.1 + 55)), some (.int (nI (w))), some (.int (nI (fx))), some (.int (nI (fy))), some (.int (nI (tx))), some (.int (nI (ty))), none, none, none, none, none, none, none, none, none, none, none]) (by decide) (Nat.le_of_ble_eq_true rfl) rfl ?_
  intro X hXn hXE hXl hXL F hRt
  subst hXn hXE hXl
  have hL : ∀ i, i < 17 → i < X.nL := fun i h => by rw [hXL]; exact h
  have hB0 := hBd
  obtain ⟨b1, b2, b3, b4, b5, b6, b7⟩ := hB0
  obtain ⟨w1, w2, w3, w4, w5, w6⟩ := hWl w hw
  refine j_aload_n F dX6_isBetween_0 rfl rfl ?_
  refine j_iload_n F dX6_isBetween_1 rfl rfl ?_
  refine j_iconst (v := nI (3)) F dX6_isBetween_2 rfl (by decide) ?_
  refine kX6_138 hn F (As := [.int (nI (w)), .int (nI (3))]) (rest := []) (c_X6_ofWall hn hM hBd w 3 (by omega) (by omega)) (by decide) rfl rfl (Nat.le_of_ble_eq_true rfl) dX6_isBetween_3 rfl (ro_k ?_)
  refine j_istore (lv' := [some (.ref (X.E.1 + 55)), some (.int (nI (w))), some (.int (nI (fx))), some (.int (nI (fy))), some (.int (nI (tx))), some (.int (nI (ty))), some (.int (nI (P.wl w 3))), none, none, none, none, none, none, none, none, none, none]) F dX6_isBetween_6 rfl (hL _ (by decide)) rfl rfl ?_
  refine j_iload F dX6_isBetween_8 rfl rfl ?_
  refine j_iconst (v := nI (1)) F dX6_isBetween_10 rfl (by decide) ?_
  refine j_icmp_neN (a := P.wl w 3) (b := 1) F (by omega) (by omega) (tgt := 22) dX6_isBetween_11 (by decide) rfl (fun c_11 => ?_) (fun c_11 => ?_)
  · have c_11z : ¬ P.wl w 3 = 1 := c_11
    refine j_iconst (v := nI (2)) F dX6_isBetween_22 rfl (by decide) ?_
    refine j_iload_n F dX6_isBetween_23 rfl rfl ?_
    refine j_imulN (a := 2) (b := fy) F dX6_isBetween_24 rfl ?_
    refine j_iconst (v := nI (1)) F dX6_isBetween_25 rfl (by decide) ?_
    refine j_iaddN (a := 2 * fy) (b := 1) F dX6_isBetween_26 rfl ?_
    refine j_istore (lv' := [some (.ref (X.E.1 + 55)), some (.int (nI (w))), some (.int (nI (fx))), some (.int (nI (fy))), some (.int (nI (tx))), some (.int (nI (ty))), some (.int (nI (P.wl w 3))), some (.int (nI ((2 * fy) + 1))), none, none, none, none, none, none, none, none, none]) F dX6_isBetween_27 rfl (hL _ (by decide)) rfl rfl ?_
    refine j_iload F dX6_isBetween_29 rfl rfl ?_
    refine j_iconst (v := nI (1)) F dX6_isBetween_31 rfl (by decide) ?_
    refine j_icmp_neN (a := P.wl w 3) (b := 1) F (by omega) (by omega) (tgt := 44) dX6_isBetween_32 (by decide) rfl (fun c_32 => ?_) (fun c_32 => False.elim (c_11z (by omega)))
    refine j_iconst (v := nI (2)) F dX6_isBetween_44 rfl (by decide) ?_
    refine j_iload F dX6_isBetween_45 rfl rfl ?_
    refine j_imulN (a := 2) (b := ty) F dX6_isBetween_47 rfl ?_
    refine j_iconst (v := nI (1)) F dX6_isBetween_48 rfl (by decide) ?_
    refine j_iaddN (a := 2 * ty) (b := 1) F dX6_isBetween_49 rfl ?_
    refine j_istore (lv' := [some (.ref (X.E.1 + 55)), some (.int (nI (w))), some (.int (nI (fx))), some (.int (nI (fy))), some (.int (nI (tx))), some (.int (nI (ty))), some (.int (nI (P.wl w 3))), some (.int (nI ((2 * fy) + 1))), some (.int (nI ((2 * ty) + 1))), none, none, none, none, none, none, none, none]) F dX6_isBetween_50 rfl (hL _ (by decide)) rfl rfl ?_
    refine j_iload F dX6_isBetween_52 rfl rfl ?_
    refine j_iconst (v := nI (1)) F dX6_isBetween_54 rfl (by decide) ?_
    refine j_icmp_neN (a := P.wl w 3) (b := 1) F (by omega) (by omega) (tgt := 69) dX6_isBetween_55 (by decide) rfl (fun c_55 => ?_) (fun c_55 => False.elim (c_11z (by omega)))
    refine j_iconst (v := nI (2)) F dX6_isBetween_69 rfl (by decide) ?_
    refine j_aload_n F dX6_isBetween_70 rfl rfl ?_
    refine j_iload_n F dX6_isBetween_71 rfl rfl ?_
    refine j_iconst (v := nI (1)) F dX6_isBetween_72 rfl (by decide) ?_
    refine kX6_138 hn F (As := [.int (nI (w)), .int (nI (1))]) (rest := [.int (nI (2))]) (c_X6_ofWall hn hM hBd w 1 (by omega) (by omega)) (by decide) rfl rfl (Nat.le_of_ble_eq_true rfl) dX6_isBetween_73 rfl (ro_k ?_)
    refine j_imulN (a := 2) (b := P.wl w 1) F dX6_isBetween_76 rfl ?_
    refine j_istore (lv' := [some (.ref (X.E.1 + 55)), some (.int (nI (w))), some (.int (nI (fx))), some (.int (nI (fy))), some (.int (nI (tx))), some (.int (nI (ty))), some (.int (nI (P.wl w 3))), some (.int (nI ((2 * fy) + 1))), some (.int (nI ((2 * ty) + 1))), some (.int (nI (2 * (P.wl w 1)))), none, none, none, none, none, none, none]) F dX6_isBetween_77 rfl (hL _ (by decide)) rfl rfl ?_
    refine j_iload F dX6_isBetween_79 rfl rfl ?_
    refine j_iload F dX6_isBetween_81 rfl rfl ?_
    refine j_icmp_geN (a := (2 * fy) + 1) (b := 2 * (P.wl w 1)) F (by omega) (by omega) (tgt := 90) dX6_isBetween_83 (by decide) rfl (fun c_83 => ?_) (fun c_83 => ?_)
    · refine j_iconst (v := nI (0)) F dX6_isBetween_90 rfl (by decide) ?_
      refine j_iload F dX6_isBetween_91 rfl rfl ?_
      refine j_iload F dX6_isBetween_93 rfl rfl ?_
      refine j_icmp_geN (a := (2 * ty) + 1) (b := 2 * (P.wl w 1)) F (by omega) (by omega) (tgt := 102) dX6_isBetween_95 (by decide) rfl (fun c_95 => ?_) (fun c_95 => ?_)
      · refine j_iconst (v := nI (0)) F dX6_isBetween_102 rfl (by decide) ?_
        refine j_icmp_neN (a := 0) (b := 0) F (by omega) (by omega) (tgt := 108) dX6_isBetween_103 (by decide) rfl (fun c_103 => False.elim (by revert c_103; decide)) (fun c_103 => ?_)
        refine j_iconst (v := nI (0)) F dX6_isBetween_106 rfl (by decide) ?_
        have hz : P.stop w fx fy tx ty = false := by
          unfold Pl.stop stopW
          first | rw [if_pos c_11z] | rw [if_neg c_11z]
          unfold stopC
          rw [if_pos (by omega)]
        exact j_iret F hRt rfl (roB_f hz) dX6_isBetween_107
      · refine j_iconst (v := nI (1)) F dX6_isBetween_98 rfl (by decide) ?_
        refine j_goto (pc' := 103) F dX6_isBetween_99 (by decide) ?_
        refine j_icmp_neN (a := 0) (b := 1) F (by omega) (by omega) (tgt := 108) dX6_isBetween_103 (by decide) rfl (fun c_103 => ?_) (fun c_103 => False.elim (by revert c_103; decide))
        refine j_iload F dX6_isBetween_108 rfl rfl ?_
        refine j_iconst (v := nI (1)) F dX6_isBetween_110 rfl (by decide) ?_
        refine j_icmp_neN (a := P.wl w 3) (b := 1) F (by omega) (by omega) (tgt := 122) dX6_isBetween_111 (by decide) rfl (fun c_111 => ?_) (fun c_111 => False.elim (c_11z (by omega)))
        refine j_iconst (v := nI (2)) F dX6_isBetween_122 rfl (by decide) ?_
        refine j_iload_n F dX6_isBetween_123 rfl rfl ?_
        refine j_imulN (a := 2) (b := fx) F dX6_isBetween_124 rfl ?_
        refine j_iconst (v := nI (1)) F dX6_isBetween_125 rfl (by decide) ?_
        refine j_iaddN (a := 2 * fx) (b := 1) F dX6_isBetween_126 rfl ?_
        refine j_istore (lv' := [some (.ref (X.E.1 + 55)), some (.int (nI (w))), some (.int (nI (fx))), some (.int (nI (fy))), some (.int (nI (tx))), some (.int (nI (ty))), some (.int (nI (P.wl w 3))), some (.int (nI ((2 * fy) + 1))), some (.int (nI ((2 * ty) + 1))), some (.int (nI (2 * (P.wl w 1)))), some (.int (nI ((2 * fx) + 1))), none, none, none, none, none, none]) F dX6_isBetween_127 rfl (hL _ (by decide)) rfl rfl ?_
        refine j_iload F dX6_isBetween_129 rfl rfl ?_
        refine j_iconst (v := nI (1)) F dX6_isBetween_131 rfl (by decide) ?_
        refine j_icmp_neN (a := P.wl w 3) (b := 1) F (by omega) (by omega) (tgt := 144) dX6_isBetween_132 (by decide) rfl (fun c_132 => ?_) (fun c_132 => False.elim (c_11z (by omega)))
        refine j_iconst (v := nI (2)) F dX6_isBetween_144 rfl (by decide) ?_
        refine j_iload F dX6_isBetween_145 rfl rfl ?_
        refine j_imulN (a := 2) (b := tx) F dX6_isBetween_147 rfl ?_
        refine j_iconst (v := nI (1)) F dX6_isBetween_148 rfl (by decide) ?_
        refine j_iaddN (a := 2 * tx) (b := 1) F dX6_isBetween_149 rfl ?_
        refine j_istore (lv' := [some (.ref (X.E.1 + 55)), some (.int (nI (w))), some (.int (nI (fx))), some (.int (nI (fy))), some (.int (nI (tx))), some (.int (nI (ty))), some (.int (nI (P.wl w 3))), some (.int (nI ((2 * fy) + 1))), some (.int (nI ((2 * ty) + 1))), some (.int (nI (2 * (P.wl w 1)))), some (.int (nI ((2 * fx) + 1))), some (.int (nI ((2 * tx) + 1))), none, none, none, none, none]) F dX6_isBetween_150 rfl (hL _ (by decide)) rfl rfl ?_
        refine j_iload F dX6_isBetween_152 rfl rfl ?_
        refine j_iconst (v := nI (1)) F dX6_isBetween_154 rfl (by decide) ?_
        refine j_icmp_neN (a := P.wl w 3) (b := 1) F (by omega) (by omega) (tgt := 169) dX6_isBetween_155 (by decide) rfl (fun c_155 => ?_) (fun c_155 => False.elim (c_11z (by omega)))
        refine j_iconst (v := nI (2)) F dX6_isBetween_169 rfl (by decide) ?_
        refine j_aload_n F dX6_isBetween_170 rfl rfl ?_
        refine j_iload_n F dX6_isBetween_171 rfl rfl ?_
        refine j_iconst (v := nI (0)) F dX6_isBetween_172 rfl (by decide) ?_
        refine kX6_138 hn F (As := [.int (nI (w)), .int (nI (0))]) (rest := [.int (nI (2))]) (c_X6_ofWall hn hM hBd w 0 (by omega) (by omega)) (by decide) rfl rfl (Nat.le_of_ble_eq_true rfl) dX6_isBetween_173 rfl (ro_k ?_)
        refine j_imulN (a := 2) (b := P.wl w 0) F dX6_isBetween_176 rfl ?_
        refine j_istore (lv' := [some (.ref (X.E.1 + 55)), some (.int (nI (w))), some (.int (nI (fx))), some (.int (nI (fy))), some (.int (nI (tx))), some (.int (nI (ty))), some (.int (nI (P.wl w 3))), some (.int (nI ((2 * fy) + 1))), some (.int (nI ((2 * ty) + 1))), some (.int (nI (2 * (P.wl w 1)))), some (.int (nI ((2 * fx) + 1))), some (.int (nI ((2 * tx) + 1))), some (.int (nI (2 * (P.wl w 0)))), none, none, none, none]) F dX6_isBetween_177 rfl (hL _ (by decide)) rfl rfl ?_
        refine j_iload F dX6_isBetween_179 rfl rfl ?_
        refine j_iload F dX6_isBetween_181 rfl rfl ?_
        refine j_isub F dX6_isBetween_183 rfl ?_
        refine j_istore (lv' := [some (.ref (X.E.1 + 55)), some (.int (nI (w))), some (.int (nI (fx))), some (.int (nI (fy))), some (.int (nI (tx))), some (.int (nI (ty))), some (.int (nI (P.wl w 3))), some (.int (nI ((2 * fy) + 1))), some (.int (nI ((2 * ty) + 1))), some (.int (nI (2 * (P.wl w 1)))), some (.int (nI ((2 * fx) + 1))), some (.int (nI ((2 * tx) + 1))), some (.int (nI (2 * (P.wl w 0)))), some (.int ((nI ((2 * ty) + 1) - nI ((2 * fy) + 1)))), none, none, none]) F dX6_isBetween_184 rfl (hL _ (by decide)) rfl rfl ?_
        refine j_iload F dX6_isBetween_186 rfl rfl ?_
        refine j_iload F dX6_isBetween_188 rfl rfl ?_
        refine j_imul F dX6_isBetween_190 rfl ?_
        refine j_iload F dX6_isBetween_191 rfl rfl ?_
        refine j_iload F dX6_isBetween_193 rfl rfl ?_
        refine j_isub F dX6_isBetween_195 rfl ?_
        refine j_iload F dX6_isBetween_196 rfl rfl ?_
        refine j_iload F dX6_isBetween_198 rfl rfl ?_
        refine j_isub F dX6_isBetween_200 rfl ?_
        refine j_imul F dX6_isBetween_201 rfl ?_
        refine j_iadd F dX6_isBetween_202 rfl ?_
        refine j_istore (lv' := [some (.ref (X.E.1 + 55)), some (.int (nI (w))), some (.int (nI (fx))), some (.int (nI (fy))), some (.int (nI (tx))), some (.int (nI (ty))), some (.int (nI (P.wl w 3))), some (.int (nI ((2 * fy) + 1))), some (.int (nI ((2 * ty) + 1))), some (.int (nI (2 * (P.wl w 1)))), some (.int (nI ((2 * fx) + 1))), some (.int (nI ((2 * tx) + 1))), some (.int (nI (2 * (P.wl w 0)))), some (.int ((nI ((2 * ty) + 1) - nI ((2 * fy) + 1)))), some (.int (((nI ((2 * fx) + 1) * (nI ((2 * ty) + 1) - nI ((2 * fy) + 1))) + ((nI ((2 * tx) + 1) - nI ((2 * fx) + 1)) * (nI (2 * (P.wl w 1)) - nI ((2 * fy) + 1)))))), none, none]) F dX6_isBetween_203 rfl (hL _ (by decide)) rfl rfl ?_
        refine j_iload F dX6_isBetween_205 rfl rfl ?_
        refine j_iload F dX6_isBetween_207 rfl rfl ?_
        refine j_imul F dX6_isBetween_209 rfl ?_
        refine j_istore (lv' := [some (.ref (X.E.1 + 55)), some (.int (nI (w))), some (.int (nI (fx))), some (.int (nI (fy))), some (.int (nI (tx))), some (.int (nI (ty))), some (.int (nI (P.wl w 3))), some (.int (nI ((2 * fy) + 1))), some (.int (nI ((2 * ty) + 1))), some (.int (nI (2 * (P.wl w 1)))), some (.int (nI ((2 * fx) + 1))), some (.int (nI ((2 * tx) + 1))), some (.int (nI (2 * (P.wl w 0)))), some (.int ((nI ((2 * ty) + 1) - nI ((2 * fy) + 1)))), some (.int (((nI ((2 * fx) + 1) * (nI ((2 * ty) + 1) - nI ((2 * fy) + 1))) + ((nI ((2 * tx) + 1) - nI ((2 * fx) + 1)) * (nI (2 * (P.wl w 1)) - nI ((2 * fy) + 1)))))), some (.int ((nI (2 * (P.wl w 0)) * (nI ((2 * ty) + 1) - nI ((2 * fy) + 1))))), none]) F dX6_isBetween_210 rfl (hL _ (by decide)) rfl rfl ?_
        refine j_iload F dX6_isBetween_212 rfl rfl ?_
        refine j_iconst (v := nI (2)) F dX6_isBetween_214 rfl (by decide) ?_
        refine j_aload_n F dX6_isBetween_215 rfl rfl ?_
        refine j_iload_n F dX6_isBetween_216 rfl rfl ?_
        refine j_iconst (v := nI (2)) F dX6_isBetween_217 rfl (by decide) ?_
        refine kX6_138 hn F (As := [.int (nI (w)), .int (nI (2))]) (rest := [.int (nI (2)), .int (nI (2 * (P.wl w 0)))]) (c_X6_ofWall hn hM hBd w 2 (by omega) (by omega)) (by decide) rfl rfl (Nat.le_of_ble_eq_true rfl) dX6_isBetween_218 rfl (ro_k ?_)
        refine j_imulN (a := 2) (b := P.wl w 2) F dX6_isBetween_221 rfl ?_
        refine j_iaddN (a := 2 * (P.wl w 0)) (b := 2 * (P.wl w 2)) F dX6_isBetween_222 rfl ?_
        refine j_iload F dX6_isBetween_223 rfl rfl ?_
        refine j_imul F dX6_isBetween_225 rfl ?_
        refine j_istore (lv' := [some (.ref (X.E.1 + 55)), some (.int (nI (w))), some (.int (nI (fx))), some (.int (nI (fy))), some (.int (nI (tx))), some (.int (nI (ty))), some (.int (nI (P.wl w 3))), some (.int (nI ((2 * fy) + 1))), some (.int (nI ((2 * ty) + 1))), some (.int (nI (2 * (P.wl w 1)))), some (.int (nI ((2 * fx) + 1))), some (.int (nI ((2 * tx) + 1))), some (.int (nI (2 * (P.wl w 0)))), some (.int ((nI ((2 * ty) + 1) - nI ((2 * fy) + 1)))), some (.int (((nI ((2 * fx) + 1) * (nI ((2 * ty) + 1) - nI ((2 * fy) + 1))) + ((nI ((2 * tx) + 1) - nI ((2 * fx) + 1)) * (nI (2 * (P.wl w 1)) - nI ((2 * fy) + 1)))))), some (.int ((nI (2 * (P.wl w 0)) * (nI ((2 * ty) + 1) - nI ((2 * fy) + 1))))), some (.int ((nI ((2 * (P.wl w 0)) + (2 * (P.wl w 2))) * (nI ((2 * ty) + 1) - nI ((2 * fy) + 1)))))]) F dX6_isBetween_226 rfl (hL _ (by decide)) rfl rfl ?_
        refine j_iload F dX6_isBetween_228 rfl rfl ?_
        refine j_if_le F (tgt := 255) dX6_isBetween_230 (by decide) rfl (fun c_230 => ?_) (fun c_230 => ?_)
        · refine j_iload F dX6_isBetween_255 rfl rfl ?_
          refine j_iload F dX6_isBetween_257 rfl rfl ?_
          refine j_icmp_gt F (tgt := 273) dX6_isBetween_259 (by decide) rfl (fun c_259 => ?_) (fun c_259 => ?_)
          · have hz : P.stop w fx fy tx ty = false := by
              unfold Pl.stop stopW
              first | rw [if_pos c_11z] | rw [if_neg c_11z]
              unfold stopC
              rw [if_neg (by omega)]
              rw [if_pos c_230]
              exact decide_eq_false (fun q => q.2 c_259)
            refine j_iconst (v := nI (0)) F dX6_isBetween_273 rfl (by decide) ?_
            exact j_iret F hRt rfl (roB_f hz) dX6_isBetween_274
          · refine j_iload F dX6_isBetween_262 rfl rfl ?_
            refine j_iload F dX6_isBetween_264 rfl rfl ?_
            refine j_icmp_lt F (tgt := 273) dX6_isBetween_266 (by decide) rfl (fun c_266 => ?_) (fun c_266 => ?_)
            · have hz : P.stop w fx fy tx ty = false := by
                unfold Pl.stop stopW
                first | rw [if_pos c_11z] | rw [if_neg c_11z]
                unfold stopC
                rw [if_neg (by omega)]
                rw [if_pos c_230]
                exact decide_eq_false (fun q => q.1 c_266)
              refine j_iconst (v := nI (0)) F dX6_isBetween_273 rfl (by decide) ?_
              exact j_iret F hRt rfl (roB_f hz) dX6_isBetween_274
            · have hz : P.stop w fx fy tx ty = true := by
                unfold Pl.stop stopW
                first | rw [if_pos c_11z] | rw [if_neg c_11z]
                unfold stopC
                rw [if_neg (by omega)]
                rw [if_pos c_230]
                exact decide_eq_true ⟨c_266, c_259⟩
              refine j_iconst (v := nI (1)) F dX6_isBetween_269 rfl (by decide) ?_
              refine j_goto (pc' := 274) F dX6_isBetween_270 (by decide) ?_
              exact j_iret F hRt rfl (roB_t hz) dX6_isBetween_274
        · refine j_iload F dX6_isBetween_233 rfl rfl ?_
          refine j_iload F dX6_isBetween_235 rfl rfl ?_
          refine j_icmp_lt F (tgt := 251) dX6_isBetween_237 (by decide) rfl (fun c_237 => ?_) (fun c_237 => ?_)
          · have hz : P.stop w fx fy tx ty = false := by
              unfold Pl.stop stopW
              first | rw [if_pos c_11z] | rw [if_neg c_11z]
              unfold stopC
              rw [if_neg (by omega)]
              rw [if_neg c_230]
              exact decide_eq_false (fun q => q.1 c_237)
            refine j_iconst (v := nI (0)) F dX6_isBetween_251 rfl (by decide) ?_
            refine j_goto (pc' := 274) F dX6_isBetween_252 (by decide) ?_
            exact j_iret F hRt rfl (roB_f hz) dX6_isBetween_274
          · refine j_iload F dX6_isBetween_240 rfl rfl ?_
            refine j_iload F dX6_isBetween_242 rfl rfl ?_
            refine j_icmp_gt F (tgt := 251) dX6_isBetween_244 (by decide) rfl (fun c_244 => ?_) (fun c_244 => ?_)
            · have hz : P.stop w fx fy tx ty = false := by
                unfold Pl.stop stopW
                first | rw [if_pos c_11z] | rw [if_neg c_11z]
                unfold stopC
                rw [if_neg (by omega)]
                rw [if_neg c_230]
                exact decide_eq_false (fun q => q.2 c_244)
              refine j_iconst (v := nI (0)) F dX6_isBetween_251 rfl (by decide) ?_
              refine j_goto (pc' := 274) F dX6_isBetween_252 (by decide) ?_
              exact j_iret F hRt rfl (roB_f hz) dX6_isBetween_274
            · have hz : P.stop w fx fy tx ty = true := by
                unfold Pl.stop stopW
                first | rw [if_pos c_11z] | rw [if_neg c_11z]
                unfold stopC
                rw [if_neg (by omega)]
                rw [if_neg c_230]
                exact decide_eq_true ⟨c_237, c_244⟩
              refine j_iconst (v := nI (1)) F dX6_isBetween_247 rfl (by decide) ?_
              refine j_goto (pc' := 274) F dX6_isBetween_248 (by decide) ?_
              exact j_iret F hRt rfl (roB_t hz) dX6_isBetween_274
    · refine j_iconst (v := nI (1)) F dX6_isBetween_86 rfl (by decide) ?_
      refine j_goto (pc' := 91) F dX6_isBetween_87 (by decide) ?_
      refine j_iload F dX6_isBetween_91 rfl rfl ?_
      refine j_iload F dX6_isBetween_93 rfl rfl ?_
      refine j_icmp_geN (a := (2 * ty) + 1) (b := 2 * (P.wl w 1)) F (by omega) (by omega) (tgt := 102) dX6_isBetween_95 (by decide) rfl (fun c_95 => ?_) (fun c_95 => ?_)
      · refine j_iconst (v := nI (0)) F dX6_isBetween_102 rfl (by decide) ?_
        refine j_icmp_neN (a := 1) (b := 0) F (by omega) (by omega) (tgt := 108) dX6_isBetween_103 (by decide) rfl (fun c_103 => ?_) (fun c_103 => False.elim (by revert c_103; decide))
        refine j_iload F dX6_isBetween_108 rfl rfl ?_
        refine j_iconst (v := nI (1)) F dX6_isBetween_110 rfl (by decide) ?_
        refine j_icmp_neN (a := P.wl w 3) (b := 1) F (by omega) (by omega) (tgt := 122) dX6_isBetween_111 (by decide) rfl (fun c_111 => ?_) (fun c_111 => False.elim (c_11z (by omega)))
        refine j_iconst (v := nI (2)) F dX6_isBetween_122 rfl (by decide) ?_
        refine j_iload_n F dX6_isBetween_123 rfl rfl ?_
        refine j_imulN (a := 2) (b := fx) F dX6_isBetween_124 rfl ?_
        refine j_iconst (v := nI (1)) F dX6_isBetween_125 rfl (by decide) ?_
        refine j_iaddN (a := 2 * fx) (b := 1) F dX6_isBetween_126 rfl ?_
        refine j_istore (lv' := [some (.ref (X.E.1 + 55)), some (.int (nI (w))), some (.int (nI (fx))), some (.int (nI (fy))), some (.int (nI (tx))), some (.int (nI (ty))), some (.int (nI (P.wl w 3))), some (.int (nI ((2 * fy) + 1))), some (.int (nI ((2 * ty) + 1))), some (.int (nI (2 * (P.wl w 1)))), some (.int (nI ((2 * fx) + 1))), none, none, none, none, none, none]) F dX6_isBetween_127 rfl (hL _ (by decide)) rfl rfl ?_
        refine j_iload F dX6_isBetween_129 rfl rfl ?_
        refine j_iconst (v := nI (1)) F dX6_isBetween_131 rfl (by decide) ?_
        refine j_icmp_neN (a := P.wl w 3) (b := 1) F (by omega) (by omega) (tgt := 144) dX6_isBetween_132 (by decide) rfl (fun c_132 => ?_) (fun c_132 => False.elim (c_11z (by omega)))
        refine j_iconst (v := nI (2)) F dX6_isBetween_144 rfl (by decide) ?_
        refine j_iload F dX6_isBetween_145 rfl rfl ?_
        refine j_imulN (a := 2) (b := tx) F dX6_isBetween_147 rfl ?_
        refine j_iconst (v := nI (1)) F dX6_isBetween_148 rfl (by decide) ?_
        refine j_iaddN (a := 2 * tx) (b := 1) F dX6_isBetween_149 rfl ?_
        refine j_istore (lv' := [some (.ref (X.E.1 + 55)), some (.int (nI (w))), some (.int (nI (fx))), some (.int (nI (fy))), some (.int (nI (tx))), some (.int (nI (ty))), some (.int (nI (P.wl w 3))), some (.int (nI ((2 * fy) + 1))), some (.int (nI ((2 * ty) + 1))), some (.int (nI (2 * (P.wl w 1)))), some (.int (nI ((2 * fx) + 1))), some (.int (nI ((2 * tx) + 1))), none, none, none, none, none]) F dX6_isBetween_150 rfl (hL _ (by decide)) rfl rfl ?_
        refine j_iload F dX6_isBetween_152 rfl rfl ?_
        refine j_iconst (v := nI (1)) F dX6_isBetween_154 rfl (by decide) ?_
        refine j_icmp_neN (a := P.wl w 3) (b := 1) F (by omega) (by omega) (tgt := 169) dX6_isBetween_155 (by decide) rfl (fun c_155 => ?_) (fun c_155 => False.elim (c_11z (by omega)))
        refine j_iconst (v := nI (2)) F dX6_isBetween_169 rfl (by decide) ?_
        refine j_aload_n F dX6_isBetween_170 rfl rfl ?_
        refine j_iload_n F dX6_isBetween_171 rfl rfl ?_
        refine j_iconst (v := nI (0)) F dX6_isBetween_172 rfl (by decide) ?_
        refine kX6_138 hn F (As := [.int (nI (w)), .int (nI (0))]) (rest := [.int (nI (2))]) (c_X6_ofWall hn hM hBd w 0 (by omega) (by omega)) (by decide) rfl rfl (Nat.le_of_ble_eq_true rfl) dX6_isBetween_173 rfl (ro_k ?_)
        refine j_imulN (a := 2) (b := P.wl w 0) F dX6_isBetween_176 rfl ?_
        refine j_istore (lv' := [some (.ref (X.E.1 + 55)), some (.int (nI (w))), some (.int (nI (fx))), some (.int (nI (fy))), some (.int (nI (tx))), some (.int (nI (ty))), some (.int (nI (P.wl w 3))), some (.int (nI ((2 * fy) + 1))), some (.int (nI ((2 * ty) + 1))), some (.int (nI (2 * (P.wl w 1)))), some (.int (nI ((2 * fx) + 1))), some (.int (nI ((2 * tx) + 1))), some (.int (nI (2 * (P.wl w 0)))), none, none, none, none]) F dX6_isBetween_177 rfl (hL _ (by decide)) rfl rfl ?_
        refine j_iload F dX6_isBetween_179 rfl rfl ?_
        refine j_iload F dX6_isBetween_181 rfl rfl ?_
        refine j_isub F dX6_isBetween_183 rfl ?_
        refine j_istore (lv' := [some (.ref (X.E.1 + 55)), some (.int (nI (w))), some (.int (nI (fx))), some (.int (nI (fy))), some (.int (nI (tx))), some (.int (nI (ty))), some (.int (nI (P.wl w 3))), some (.int (nI ((2 * fy) + 1))), some (.int (nI ((2 * ty) + 1))), some (.int (nI (2 * (P.wl w 1)))), some (.int (nI ((2 * fx) + 1))), some (.int (nI ((2 * tx) + 1))), some (.int (nI (2 * (P.wl w 0)))), some (.int ((nI ((2 * ty) + 1) - nI ((2 * fy) + 1)))), none, none, none]) F dX6_isBetween_184 rfl (hL _ (by decide)) rfl rfl ?_
        refine j_iload F dX6_isBetween_186 rfl rfl ?_
        refine j_iload F dX6_isBetween_188 rfl rfl ?_
        refine j_imul F dX6_isBetween_190 rfl ?_
        refine j_iload F dX6_isBetween_191 rfl rfl ?_
        refine j_iload F dX6_isBetween_193 rfl rfl ?_
        refine j_isub F dX6_isBetween_195 rfl ?_
        refine j_iload F dX6_isBetween_196 rfl rfl ?_
        refine j_iload F dX6_isBetween_198 rfl rfl ?_
        refine j_isub F dX6_isBetween_200 rfl ?_
        refine j_imul F dX6_isBetween_201 rfl ?_
        refine j_iadd F dX6_isBetween_202 rfl ?_
        refine j_istore (lv' := [some (.ref (X.E.1 + 55)), some (.int (nI (w))), some (.int (nI (fx))), some (.int (nI (fy))), some (.int (nI (tx))), some (.int (nI (ty))), some (.int (nI (P.wl w 3))), some (.int (nI ((2 * fy) + 1))), some (.int (nI ((2 * ty) + 1))), some (.int (nI (2 * (P.wl w 1)))), some (.int (nI ((2 * fx) + 1))), some (.int (nI ((2 * tx) + 1))), some (.int (nI (2 * (P.wl w 0)))), some (.int ((nI ((2 * ty) + 1) - nI ((2 * fy) + 1)))), some (.int (((nI ((2 * fx) + 1) * (nI ((2 * ty) + 1) - nI ((2 * fy) + 1))) + ((nI ((2 * tx) + 1) - nI ((2 * fx) + 1)) * (nI (2 * (P.wl w 1)) - nI ((2 * fy) + 1)))))), none, none]) F dX6_isBetween_203 rfl (hL _ (by decide)) rfl rfl ?_
        refine j_iload F dX6_isBetween_205 rfl rfl ?_
        refine j_iload F dX6_isBetween_207 rfl rfl ?_
        refine j_imul F dX6_isBetween_209 rfl ?_
        refine j_istore (lv' := [some (.ref (X.E.1 + 55)), some (.int (nI (w))), some (.int (nI (fx))), some (.int (nI (fy))), some (.int (nI (tx))), some (.int (nI (ty))), some (.int (nI (P.wl w 3))), some (.int (nI ((2 * fy) + 1))), some (.int (nI ((2 * ty) + 1))), some (.int (nI (2 * (P.wl w 1)))), some (.int (nI ((2 * fx) + 1))), some (.int (nI ((2 * tx) + 1))), some (.int (nI (2 * (P.wl w 0)))), some (.int ((nI ((2 * ty) + 1) - nI ((2 * fy) + 1)))), some (.int (((nI ((2 * fx) + 1) * (nI ((2 * ty) + 1) - nI ((2 * fy) + 1))) + ((nI ((2 * tx) + 1) - nI ((2 * fx) + 1)) * (nI (2 * (P.wl w 1)) - nI ((2 * fy) + 1)))))), some (.int ((nI (2 * (P.wl w 0)) * (nI ((2 * ty) + 1) - nI ((2 * fy) + 1))))), none]) F dX6_isBetween_210 rfl (hL _ (by decide)) rfl rfl ?_
        refine j_iload F dX6_isBetween_212 rfl rfl ?_
        refine j_iconst (v := nI (2)) F dX6_isBetween_214 rfl (by decide) ?_
        refine j_aload_n F dX6_isBetween_215 rfl rfl ?_
        refine j_iload_n F dX6_isBetween_216 rfl rfl ?_
        refine j_iconst (v := nI (2)) F dX6_isBetween_217 rfl (by decide) ?_
        refine kX6_138 hn F (As := [.int (nI (w)), .int (nI (2))]) (rest := [.int (nI (2)), .int (nI (2 * (P.wl w 0)))]) (c_X6_ofWall hn hM hBd w 2 (by omega) (by omega)) (by decide) rfl rfl (Nat.le_of_ble_eq_true rfl) dX6_isBetween_218 rfl (ro_k ?_)
        refine j_imulN (a := 2) (b := P.wl w 2) F dX6_isBetween_221 rfl ?_
        refine j_iaddN (a := 2 * (P.wl w 0)) (b := 2 * (P.wl w 2)) F dX6_isBetween_222 rfl ?_
        refine j_iload F dX6_isBetween_223 rfl rfl ?_
        refine j_imul F dX6_isBetween_225 rfl ?_
        refine j_istore (lv' := [some (.ref (X.E.1 + 55)), some (.int (nI (w))), some (.int (nI (fx))), some (.int (nI (fy))), some (.int (nI (tx))), some (.int (nI (ty))), some (.int (nI (P.wl w 3))), some (.int (nI ((2 * fy) + 1))), some (.int (nI ((2 * ty) + 1))), some (.int (nI (2 * (P.wl w 1)))), some (.int (nI ((2 * fx) + 1))), some (.int (nI ((2 * tx) + 1))), some (.int (nI (2 * (P.wl w 0)))), some (.int ((nI ((2 * ty) + 1) - nI ((2 * fy) + 1)))), some (.int (((nI ((2 * fx) + 1) * (nI ((2 * ty) + 1) - nI ((2 * fy) + 1))) + ((nI ((2 * tx) + 1) - nI ((2 * fx) + 1)) * (nI (2 * (P.wl w 1)) - nI ((2 * fy) + 1)))))), some (.int ((nI (2 * (P.wl w 0)) * (nI ((2 * ty) + 1) - nI ((2 * fy) + 1))))), some (.int ((nI ((2 * (P.wl w 0)) + (2 * (P.wl w 2))) * (nI ((2 * ty) + 1) - nI ((2 * fy) + 1)))))]) F dX6_isBetween_226 rfl (hL _ (by decide)) rfl rfl ?_
        refine j_iload F dX6_isBetween_228 rfl rfl ?_
        refine j_if_le F (tgt := 255) dX6_isBetween_230 (by decide) rfl (fun c_230 => ?_) (fun c_230 => ?_)
        · refine j_iload F dX6_isBetween_255 rfl rfl ?_
          refine j_iload F dX6_isBetween_257 rfl rfl ?_
          refine j_icmp_gt F (tgt := 273) dX6_isBetween_259 (by decide) rfl (fun c_259 => ?_) (fun c_259 => ?_)
          · have hz : P.stop w fx fy tx ty = false := by
              unfold Pl.stop stopW
              first | rw [if_pos c_11z] | rw [if_neg c_11z]
              unfold stopC
              rw [if_neg (by omega)]
              rw [if_pos c_230]
              exact decide_eq_false (fun q => q.2 c_259)
            refine j_iconst (v := nI (0)) F dX6_isBetween_273 rfl (by decide) ?_
            exact j_iret F hRt rfl (roB_f hz) dX6_isBetween_274
          · refine j_iload F dX6_isBetween_262 rfl rfl ?_
            refine j_iload F dX6_isBetween_264 rfl rfl ?_
            refine j_icmp_lt F (tgt := 273) dX6_isBetween_266 (by decide) rfl (fun c_266 => ?_) (fun c_266 => ?_)
            · have hz : P.stop w fx fy tx ty = false := by
                unfold Pl.stop stopW
                first | rw [if_pos c_11z] | rw [if_neg c_11z]
                unfold stopC
                rw [if_neg (by omega)]
                rw [if_pos c_230]
                exact decide_eq_false (fun q => q.1 c_266)
              refine j_iconst (v := nI (0)) F dX6_isBetween_273 rfl (by decide) ?_
              exact j_iret F hRt rfl (roB_f hz) dX6_isBetween_274
            · have hz : P.stop w fx fy tx ty = true := by
                unfold Pl.stop stopW
                first | rw [if_pos c_11z] | rw [if_neg c_11z]
                unfold stopC
                rw [if_neg (by omega)]
                rw [if_pos c_230]
                exact decide_eq_true ⟨c_266, c_259⟩
              refine j_iconst (v := nI (1)) F dX6_isBetween_269 rfl (by decide) ?_
              refine j_goto (pc' := 274) F dX6_isBetween_270 (by decide) ?_
              exact j_iret F hRt rfl (roB_t hz) dX6_isBetween_274
        · refine j_iload F dX6_isBetween_233 rfl rfl ?_
          refine j_iload F dX6_isBetween_235 rfl rfl ?_
          refine j_icmp_lt F (tgt := 251) dX6_isBetween_237 (by decide) rfl (fun c_237 => ?_) (fun c_237 => ?_)
          · have hz : P.stop w fx fy tx ty = false := by
              unfold Pl.stop stopW
              first | rw [if_pos c_11z] | rw [if_neg c_11z]
              unfold stopC
              rw [if_neg (by omega)]
              rw [if_neg c_230]
              exact decide_eq_false (fun q => q.1 c_237)
            refine j_iconst (v := nI (0)) F dX6_isBetween_251 rfl (by decide) ?_
            refine j_goto (pc' := 274) F dX6_isBetween_252 (by decide) ?_
            exact j_iret F hRt rfl (roB_f hz) dX6_isBetween_274
          · refine j_iload F dX6_isBetween_240 rfl rfl ?_
            refine j_iload F dX6_isBetween_242 rfl rfl ?_
            refine j_icmp_gt F (tgt := 251) dX6_isBetween_244 (by decide) rfl (fun c_244 => ?_) (fun c_244 => ?_)
            · have hz : P.stop w fx fy tx ty = false := by
                unfold Pl.stop stopW
                first | rw [if_pos c_11z] | rw [if_neg c_11z]
                unfold stopC
                rw [if_neg (by omega)]
                rw [if_neg c_230]
                exact decide_eq_false (fun q => q.2 c_244)
              refine j_iconst (v := nI (0)) F dX6_isBetween_251 rfl (by decide) ?_
              refine j_goto (pc' := 274) F dX6_isBetween_252 (by decide) ?_
              exact j_iret F hRt rfl (roB_f hz) dX6_isBetween_274
            · have hz : P.stop w fx fy tx ty = true := by
                unfold Pl.stop stopW
                first | rw [if_pos c_11z] | rw [if_neg c_11z]
                unfold stopC
                rw [if_neg (by omega)]
                rw [if_neg c_230]
                exact decide_eq_true ⟨c_237, c_244⟩
              refine j_iconst (v := nI (1)) F dX6_isBetween_247 rfl (by decide) ?_
              refine j_goto (pc' := 274) F dX6_isBetween_248 (by decide) ?_
              exact j_iret F hRt rfl (roB_t hz) dX6_isBetween_274
      · refine j_iconst (v := nI (1)) F dX6_isBetween_98 rfl (by decide) ?_
        refine j_goto (pc' := 103) F dX6_isBetween_99 (by decide) ?_
        refine j_icmp_neN (a := 1) (b := 1) F (by omega) (by omega) (tgt := 108) dX6_isBetween_103 (by decide) rfl (fun c_103 => False.elim (by revert c_103; decide)) (fun c_103 => ?_)
        refine j_iconst (v := nI (0)) F dX6_isBetween_106 rfl (by decide) ?_
        have hz : P.stop w fx fy tx ty = false := by
          unfold Pl.stop stopW
          first | rw [if_pos c_11z] | rw [if_neg c_11z]
          unfold stopC
          rw [if_pos (by omega)]
        exact j_iret F hRt rfl (roB_f hz) dX6_isBetween_107
  · have c_11z : P.wl w 3 = 1 := by omega
    refine j_iconst (v := nI (2)) F dX6_isBetween_14 rfl (by decide) ?_
    refine j_iload_n F dX6_isBetween_15 rfl rfl ?_
    refine j_imulN (a := 2) (b := fx) F dX6_isBetween_16 rfl ?_
    refine j_iconst (v := nI (1)) F dX6_isBetween_17 rfl (by decide) ?_
    refine j_iaddN (a := 2 * fx) (b := 1) F dX6_isBetween_18 rfl ?_
    refine j_goto (pc' := 27) F dX6_isBetween_19 (by decide) ?_
    refine j_istore (lv' := [some (.ref (X.E.1 + 55)), some (.int (nI (w))), some (.int (nI (fx))), some (.int (nI (fy))), some (.int (nI (tx))), some (.int (nI (ty))), some (.int (nI (P.wl w 3))), some (.int (nI ((2 * fx) + 1))), none, none, none, none, none, none, none, none, none]) F dX6_isBetween_27 rfl (hL _ (by decide)) rfl rfl ?_
    refine j_iload F dX6_isBetween_29 rfl rfl ?_
    refine j_iconst (v := nI (1)) F dX6_isBetween_31 rfl (by decide) ?_
    refine j_icmp_neN (a := P.wl w 3) (b := 1) F (by omega) (by omega) (tgt := 44) dX6_isBetween_32 (by decide) rfl (fun c_32 => False.elim (c_32 c_11z)) (fun c_32 => ?_)
    refine j_iconst (v := nI (2)) F dX6_isBetween_35 rfl (by decide) ?_
    refine j_iload F dX6_isBetween_36 rfl rfl ?_
    refine j_imulN (a := 2) (b := tx) F dX6_isBetween_38 rfl ?_
    refine j_iconst (v := nI (1)) F dX6_isBetween_39 rfl (by decide) ?_
    refine j_iaddN (a := 2 * tx) (b := 1) F dX6_isBetween_40 rfl ?_
    refine j_goto (pc' := 50) F dX6_isBetween_41 (by decide) ?_
    refine j_istore (lv' := [some (.ref (X.E.1 + 55)), some (.int (nI (w))), some (.int (nI (fx))), some (.int (nI (fy))), some (.int (nI (tx))), some (.int (nI (ty))), some (.int (nI (P.wl w 3))), some (.int (nI ((2 * fx) + 1))), some (.int (nI ((2 * tx) + 1))), none, none, none, none, none, none, none, none]) F dX6_isBetween_50 rfl (hL _ (by decide)) rfl rfl ?_
    refine j_iload F dX6_isBetween_52 rfl rfl ?_
    refine j_iconst (v := nI (1)) F dX6_isBetween_54 rfl (by decide) ?_
    refine j_icmp_neN (a := P.wl w 3) (b := 1) F (by omega) (by omega) (tgt := 69) dX6_isBetween_55 (by decide) rfl (fun c_55 => False.elim (c_55 c_11z)) (fun c_55 => ?_)
    refine j_iconst (v := nI (2)) F dX6_isBetween_58 rfl (by decide) ?_
    refine j_aload_n F dX6_isBetween_59 rfl rfl ?_
    refine j_iload_n F dX6_isBetween_60 rfl rfl ?_
    refine j_iconst (v := nI (0)) F dX6_isBetween_61 rfl (by decide) ?_
    refine kX6_138 hn F (As := [.int (nI (w)), .int (nI (0))]) (rest := [.int (nI (2))]) (c_X6_ofWall hn hM hBd w 0 (by omega) (by omega)) (by decide) rfl rfl (Nat.le_of_ble_eq_true rfl) dX6_isBetween_62 rfl (ro_k ?_)
    refine j_imulN (a := 2) (b := P.wl w 0) F dX6_isBetween_65 rfl ?_
    refine j_goto (pc' := 77) F dX6_isBetween_66 (by decide) ?_
    refine j_istore (lv' := [some (.ref (X.E.1 + 55)), some (.int (nI (w))), some (.int (nI (fx))), some (.int (nI (fy))), some (.int (nI (tx))), some (.int (nI (ty))), some (.int (nI (P.wl w 3))), some (.int (nI ((2 * fx) + 1))), some (.int (nI ((2 * tx) + 1))), some (.int (nI (2 * (P.wl w 0)))), none, none, none, none, none, none, none]) F dX6_isBetween_77 rfl (hL _ (by decide)) rfl rfl ?_
    refine j_iload F dX6_isBetween_79 rfl rfl ?_
    refine j_iload F dX6_isBetween_81 rfl rfl ?_
    refine j_icmp_geN (a := (2 * fx) + 1) (b := 2 * (P.wl w 0)) F (by omega) (by omega) (tgt := 90) dX6_isBetween_83 (by decide) rfl (fun c_83 => ?_) (fun c_83 => ?_)
    · refine j_iconst (v := nI (0)) F dX6_isBetween_90 rfl (by decide) ?_
      refine j_iload F dX6_isBetween_91 rfl rfl ?_
      refine j_iload F dX6_isBetween_93 rfl rfl ?_
      refine j_icmp_geN (a := (2 * tx) + 1) (b := 2 * (P.wl w 0)) F (by omega) (by omega) (tgt := 102) dX6_isBetween_95 (by decide) rfl (fun c_95 => ?_) (fun c_95 => ?_)
      · refine j_iconst (v := nI (0)) F dX6_isBetween_102 rfl (by decide) ?_
        refine j_icmp_neN (a := 0) (b := 0) F (by omega) (by omega) (tgt := 108) dX6_isBetween_103 (by decide) rfl (fun c_103 => False.elim (by revert c_103; decide)) (fun c_103 => ?_)
        refine j_iconst (v := nI (0)) F dX6_isBetween_106 rfl (by decide) ?_
        have hz : P.stop w fx fy tx ty = false := by
          unfold Pl.stop stopW
          first | rw [if_pos c_11z] | rw [if_neg c_11z]
          unfold stopC
          rw [if_pos (by omega)]
        exact j_iret F hRt rfl (roB_f hz) dX6_isBetween_107
      · refine j_iconst (v := nI (1)) F dX6_isBetween_98 rfl (by decide) ?_
        refine j_goto (pc' := 103) F dX6_isBetween_99 (by decide) ?_
        refine j_icmp_neN (a := 0) (b := 1) F (by omega) (by omega) (tgt := 108) dX6_isBetween_103 (by decide) rfl (fun c_103 => ?_) (fun c_103 => False.elim (by revert c_103; decide))
        refine j_iload F dX6_isBetween_108 rfl rfl ?_
        refine j_iconst (v := nI (1)) F dX6_isBetween_110 rfl (by decide) ?_
        refine j_icmp_neN (a := P.wl w 3) (b := 1) F (by omega) (by omega) (tgt := 122) dX6_isBetween_111 (by decide) rfl (fun c_111 => False.elim (c_111 c_11z)) (fun c_111 => ?_)
        refine j_iconst (v := nI (2)) F dX6_isBetween_114 rfl (by decide) ?_
        refine j_iload_n F dX6_isBetween_115 rfl rfl ?_
        refine j_imulN (a := 2) (b := fy) F dX6_isBetween_116 rfl ?_
        refine j_iconst (v := nI (1)) F dX6_isBetween_117 rfl (by decide) ?_
        refine j_iaddN (a := 2 * fy) (b := 1) F dX6_isBetween_118 rfl ?_
        refine j_goto (pc' := 127) F dX6_isBetween_119 (by decide) ?_
        refine j_istore (lv' := [some (.ref (X.E.1 + 55)), some (.int (nI (w))), some (.int (nI (fx))), some (.int (nI (fy))), some (.int (nI (tx))), some (.int (nI (ty))), some (.int (nI (P.wl w 3))), some (.int (nI ((2 * fx) + 1))), some (.int (nI ((2 * tx) + 1))), some (.int (nI (2 * (P.wl w 0)))), some (.int (nI ((2 * fy) + 1))), none, none, none, none, none, none]) F dX6_isBetween_127 rfl (hL _ (by decide)) rfl rfl ?_
        refine j_iload F dX6_isBetween_129 rfl rfl ?_
        refine j_iconst (v := nI (1)) F dX6_isBetween_131 rfl (by decide) ?_
        refine j_icmp_neN (a := P.wl w 3) (b := 1) F (by omega) (by omega) (tgt := 144) dX6_isBetween_132 (by decide) rfl (fun c_132 => False.elim (c_132 c_11z)) (fun c_132 => ?_)
        refine j_iconst (v := nI (2)) F dX6_isBetween_135 rfl (by decide) ?_
        refine j_iload F dX6_isBetween_136 rfl rfl ?_
        refine j_imulN (a := 2) (b := ty) F dX6_isBetween_138 rfl ?_
        refine j_iconst (v := nI (1)) F dX6_isBetween_139 rfl (by decide) ?_
        refine j_iaddN (a := 2 * ty) (b := 1) F dX6_isBetween_140 rfl ?_
        refine j_goto (pc' := 150) F dX6_isBetween_141 (by decide) ?_
        refine j_istore (lv' := [some (.ref (X.E.1 + 55)), some (.int (nI (w))), some (.int (nI (fx))), some (.int (nI (fy))), some (.int (nI (tx))), some (.int (nI (ty))), some (.int (nI (P.wl w 3))), some (.int (nI ((2 * fx) + 1))), some (.int (nI ((2 * tx) + 1))), some (.int (nI (2 * (P.wl w 0)))), some (.int (nI ((2 * fy) + 1))), some (.int (nI ((2 * ty) + 1))), none, none, none, none, none]) F dX6_isBetween_150 rfl (hL _ (by decide)) rfl rfl ?_
        refine j_iload F dX6_isBetween_152 rfl rfl ?_
        refine j_iconst (v := nI (1)) F dX6_isBetween_154 rfl (by decide) ?_
        refine j_icmp_neN (a := P.wl w 3) (b := 1) F (by omega) (by omega) (tgt := 169) dX6_isBetween_155 (by decide) rfl (fun c_155 => False.elim (c_155 c_11z)) (fun c_155 => ?_)
        refine j_iconst (v := nI (2)) F dX6_isBetween_158 rfl (by decide) ?_
        refine j_aload_n F dX6_isBetween_159 rfl rfl ?_
        refine j_iload_n F dX6_isBetween_160 rfl rfl ?_
        refine j_iconst (v := nI (1)) F dX6_isBetween_161 rfl (by decide) ?_
        refine kX6_138 hn F (As := [.int (nI (w)), .int (nI (1))]) (rest := [.int (nI (2))]) (c_X6_ofWall hn hM hBd w 1 (by omega) (by omega)) (by decide) rfl rfl (Nat.le_of_ble_eq_true rfl) dX6_isBetween_162 rfl (ro_k ?_)
        refine j_imulN (a := 2) (b := P.wl w 1) F dX6_isBetween_165 rfl ?_
        refine j_goto (pc' := 177) F dX6_isBetween_166 (by decide) ?_
        refine j_istore (lv' := [some (.ref (X.E.1 + 55)), some (.int (nI (w))), some (.int (nI (fx))), some (.int (nI (fy))), some (.int (nI (tx))), some (.int (nI (ty))), some (.int (nI (P.wl w 3))), some (.int (nI ((2 * fx) + 1))), some (.int (nI ((2 * tx) + 1))), some (.int (nI (2 * (P.wl w 0)))), some (.int (nI ((2 * fy) + 1))), some (.int (nI ((2 * ty) + 1))), some (.int (nI (2 * (P.wl w 1)))), none, none, none, none]) F dX6_isBetween_177 rfl (hL _ (by decide)) rfl rfl ?_
        refine j_iload F dX6_isBetween_179 rfl rfl ?_
        refine j_iload F dX6_isBetween_181 rfl rfl ?_
        refine j_isub F dX6_isBetween_183 rfl ?_
        refine j_istore (lv' := [some (.ref (X.E.1 + 55)), some (.int (nI (w))), some (.int (nI (fx))), some (.int (nI (fy))), some (.int (nI (tx))), some (.int (nI (ty))), some (.int (nI (P.wl w 3))), some (.int (nI ((2 * fx) + 1))), some (.int (nI ((2 * tx) + 1))), some (.int (nI (2 * (P.wl w 0)))), some (.int (nI ((2 * fy) + 1))), some (.int (nI ((2 * ty) + 1))), some (.int (nI (2 * (P.wl w 1)))), some (.int ((nI ((2 * tx) + 1) - nI ((2 * fx) + 1)))), none, none, none]) F dX6_isBetween_184 rfl (hL _ (by decide)) rfl rfl ?_
        refine j_iload F dX6_isBetween_186 rfl rfl ?_
        refine j_iload F dX6_isBetween_188 rfl rfl ?_
        refine j_imul F dX6_isBetween_190 rfl ?_
        refine j_iload F dX6_isBetween_191 rfl rfl ?_
        refine j_iload F dX6_isBetween_193 rfl rfl ?_
        refine j_isub F dX6_isBetween_195 rfl ?_
        refine j_iload F dX6_isBetween_196 rfl rfl ?_
        refine j_iload F dX6_isBetween_198 rfl rfl ?_
        refine j_isub F dX6_isBetween_200 rfl ?_
        refine j_imul F dX6_isBetween_201 rfl ?_
        refine j_iadd F dX6_isBetween_202 rfl ?_
        refine j_istore (lv' := [some (.ref (X.E.1 + 55)), some (.int (nI (w))), some (.int (nI (fx))), some (.int (nI (fy))), some (.int (nI (tx))), some (.int (nI (ty))), some (.int (nI (P.wl w 3))), some (.int (nI ((2 * fx) + 1))), some (.int (nI ((2 * tx) + 1))), some (.int (nI (2 * (P.wl w 0)))), some (.int (nI ((2 * fy) + 1))), some (.int (nI ((2 * ty) + 1))), some (.int (nI (2 * (P.wl w 1)))), some (.int ((nI ((2 * tx) + 1) - nI ((2 * fx) + 1)))), some (.int (((nI ((2 * fy) + 1) * (nI ((2 * tx) + 1) - nI ((2 * fx) + 1))) + ((nI ((2 * ty) + 1) - nI ((2 * fy) + 1)) * (nI (2 * (P.wl w 0)) - nI ((2 * fx) + 1)))))), none, none]) F dX6_isBetween_203 rfl (hL _ (by decide)) rfl rfl ?_
        refine j_iload F dX6_isBetween_205 rfl rfl ?_
        refine j_iload F dX6_isBetween_207 rfl rfl ?_
        refine j_imul F dX6_isBetween_209 rfl ?_
        refine j_istore (lv' := [some (.ref (X.E.1 + 55)), some (.int (nI (w))), some (.int (nI (fx))), some (.int (nI (fy))), some (.int (nI (tx))), some (.int (nI (ty))), some (.int (nI (P.wl w 3))), some (.int (nI ((2 * fx) + 1))), some (.int (nI ((2 * tx) + 1))), some (.int (nI (2 * (P.wl w 0)))), some (.int (nI ((2 * fy) + 1))), some (.int (nI ((2 * ty) + 1))), some (.int (nI (2 * (P.wl w 1)))), some (.int ((nI ((2 * tx) + 1) - nI ((2 * fx) + 1)))), some (.int (((nI ((2 * fy) + 1) * (nI ((2 * tx) + 1) - nI ((2 * fx) + 1))) + ((nI ((2 * ty) + 1) - nI ((2 * fy) + 1)) * (nI (2 * (P.wl w 0)) - nI ((2 * fx) + 1)))))), some (.int ((nI (2 * (P.wl w 1)) * (nI ((2 * tx) + 1) - nI ((2 * fx) + 1))))), none]) F dX6_isBetween_210 rfl (hL _ (by decide)) rfl rfl ?_
        refine j_iload F dX6_isBetween_212 rfl rfl ?_
        refine j_iconst (v := nI (2)) F dX6_isBetween_214 rfl (by decide) ?_
        refine j_aload_n F dX6_isBetween_215 rfl rfl ?_
        refine j_iload_n F dX6_isBetween_216 rfl rfl ?_
        refine j_iconst (v := nI (2)) F dX6_isBetween_217 rfl (by decide) ?_
        refine kX6_138 hn F (As := [.int (nI (w)), .int (nI (2))]) (rest := [.int (nI (2)), .int (nI (2 * (P.wl w 1)))]) (c_X6_ofWall hn hM hBd w 2 (by omega) (by omega)) (by decide) rfl rfl (Nat.le_of_ble_eq_true rfl) dX6_isBetween_218 rfl (ro_k ?_)
        refine j_imulN (a := 2) (b := P.wl w 2) F dX6_isBetween_221 rfl ?_
        refine j_iaddN (a := 2 * (P.wl w 1)) (b := 2 * (P.wl w 2)) F dX6_isBetween_222 rfl ?_
        refine j_iload F dX6_isBetween_223 rfl rfl ?_
        refine j_imul F dX6_isBetween_225 rfl ?_
        refine j_istore (lv' := [some (.ref (X.E.1 + 55)), some (.int (nI (w))), some (.int (nI (fx))), some (.int (nI (fy))), some (.int (nI (tx))), some (.int (nI (ty))), some (.int (nI (P.wl w 3))), some (.int (nI ((2 * fx) + 1))), some (.int (nI ((2 * tx) + 1))), some (.int (nI (2 * (P.wl w 0)))), some (.int (nI ((2 * fy) + 1))), some (.int (nI ((2 * ty) + 1))), some (.int (nI (2 * (P.wl w 1)))), some (.int ((nI ((2 * tx) + 1) - nI ((2 * fx) + 1)))), some (.int (((nI ((2 * fy) + 1) * (nI ((2 * tx) + 1) - nI ((2 * fx) + 1))) + ((nI ((2 * ty) + 1) - nI ((2 * fy) + 1)) * (nI (2 * (P.wl w 0)) - nI ((2 * fx) + 1)))))), some (.int ((nI (2 * (P.wl w 1)) * (nI ((2 * tx) + 1) - nI ((2 * fx) + 1))))), some (.int ((nI ((2 * (P.wl w 1)) + (2 * (P.wl w 2))) * (nI ((2 * tx) + 1) - nI ((2 * fx) + 1)))))]) F dX6_isBetween_226 rfl (hL _ (by decide)) rfl rfl ?_
        refine j_iload F dX6_isBetween_228 rfl rfl ?_
        refine j_if_le F (tgt := 255) dX6_isBetween_230 (by decide) rfl (fun c_230 => ?_) (fun c_230 => ?_)
        · refine j_iload F dX6_isBetween_255 rfl rfl ?_
          refine j_iload F dX6_isBetween_257 rfl rfl ?_
          refine j_icmp_gt F (tgt := 273) dX6_isBetween_259 (by decide) rfl (fun c_259 => ?_) (fun c_259 => ?_)
          · have hz : P.stop w fx fy tx ty = false := by
              unfold Pl.stop stopW
              first | rw [if_pos c_11z] | rw [if_neg c_11z]
              unfold stopC
              rw [if_neg (by omega)]
              rw [if_pos c_230]
              exact decide_eq_false (fun q => q.2 c_259)
            refine j_iconst (v := nI (0)) F dX6_isBetween_273 rfl (by decide) ?_
            exact j_iret F hRt rfl (roB_f hz) dX6_isBetween_274
          · refine j_iload F dX6_isBetween_262 rfl rfl ?_
            refine j_iload F dX6_isBetween_264 rfl rfl ?_
            refine j_icmp_lt F (tgt := 273) dX6_isBetween_266 (by decide) rfl (fun c_266 => ?_) (fun c_266 => ?_)
            · have hz : P.stop w fx fy tx ty = false := by
                unfold Pl.stop stopW
                first | rw [if_pos c_11z] | rw [if_neg c_11z]
                unfold stopC
                rw [if_neg (by omega)]
                rw [if_pos c_230]
                exact decide_eq_false (fun q => q.1 c_266)
              refine j_iconst (v := nI (0)) F dX6_isBetween_273 rfl (by decide) ?_
              exact j_iret F hRt rfl (roB_f hz) dX6_isBetween_274
            · have hz : P.stop w fx fy tx ty = true := by
                unfold Pl.stop stopW
                first | rw [if_pos c_11z] | rw [if_neg c_11z]
                unfold stopC
                rw [if_neg (by omega)]
                rw [if_pos c_230]
                exact decide_eq_true ⟨c_266, c_259⟩
              refine j_iconst (v := nI (1)) F dX6_isBetween_269 rfl (by decide) ?_
              refine j_goto (pc' := 274) F dX6_isBetween_270 (by decide) ?_
              exact j_iret F hRt rfl (roB_t hz) dX6_isBetween_274
        · refine j_iload F dX6_isBetween_233 rfl rfl ?_
          refine j_iload F dX6_isBetween_235 rfl rfl ?_
          refine j_icmp_lt F (tgt := 251) dX6_isBetween_237 (by decide) rfl (fun c_237 => ?_) (fun c_237 => ?_)
          · have hz : P.stop w fx fy tx ty = false := by
              unfold Pl.stop stopW
              first | rw [if_pos c_11z] | rw [if_neg c_11z]
              unfold stopC
              rw [if_neg (by omega)]
              rw [if_neg c_230]
              exact decide_eq_false (fun q => q.1 c_237)
            refine j_iconst (v := nI (0)) F dX6_isBetween_251 rfl (by decide) ?_
            refine j_goto (pc' := 274) F dX6_isBetween_252 (by decide) ?_
            exact j_iret F hRt rfl (roB_f hz) dX6_isBetween_274
          · refine j_iload F dX6_isBetween_240 rfl rfl ?_
            refine j_iload F dX6_isBetween_242 rfl rfl ?_
            refine j_icmp_gt F (tgt := 251) dX6_isBetween_244 (by decide) rfl (fun c_244 => ?_) (fun c_244 => ?_)
            · have hz : P.stop w fx fy tx ty = false := by
                unfold Pl.stop stopW
                first | rw [if_pos c_11z] | rw [if_neg c_11z]
                unfold stopC
                rw [if_neg (by omega)]
                rw [if_neg c_230]
                exact decide_eq_false (fun q => q.2 c_244)
              refine j_iconst (v := nI (0)) F dX6_isBetween_251 rfl (by decide) ?_
              refine j_goto (pc' := 274) F dX6_isBetween_252 (by decide) ?_
              exact j_iret F hRt rfl (roB_f hz) dX6_isBetween_274
            · have hz : P.stop w fx fy tx ty = true := by
                unfold Pl.stop stopW
                first | rw [if_pos c_11z] | rw [if_neg c_11z]
                unfold stopC
                rw [if_neg (by omega)]
                rw [if_neg c_230]
                exact decide_eq_true ⟨c_237, c_244⟩
              refine j_iconst (v := nI (1)) F dX6_isBetween_247 rfl (by decide) ?_
              refine j_goto (pc' := 274) F dX6_isBetween_248 (by decide) ?_
              exact j_iret F hRt rfl (roB_t hz) dX6_isBetween_274
    · refine j_iconst (v := nI (1)) F dX6_isBetween_86 rfl (by decide) ?_
      refine j_goto (pc' := 91) F dX6_isBetween_87 (by decide) ?_
      refine j_iload F dX6_isBetween_91 rfl rfl ?_
      refine j_iload F dX6_isBetween_93 rfl rfl ?_
      refine j_icmp_geN (a := (2 * tx) + 1) (b := 2 * (P.wl w 0)) F (by omega) (by omega) (tgt := 102) dX6_isBetween_95 (by decide) rfl (fun c_95 => ?_) (fun c_95 => ?_)
      · refine j_iconst (v := nI (0)) F dX6_isBetween_102 rfl (by decide) ?_
        refine j_icmp_neN (a := 1) (b := 0) F (by omega) (by omega) (tgt := 108) dX6_isBetween_103 (by decide) rfl (fun c_103 => ?_) (fun c_103 => False.elim (by revert c_103; decide))
        refine j_iload F dX6_isBetween_108 rfl rfl ?_
        refine j_iconst (v := nI (1)) F dX6_isBetween_110 rfl (by decide) ?_
        refine j_icmp_neN (a := P.wl w 3) (b := 1) F (by omega) (by omega) (tgt := 122) dX6_isBetween_111 (by decide) rfl (fun c_111 => False.elim (c_111 c_11z)) (fun c_111 => ?_)
        refine j_iconst (v := nI (2)) F dX6_isBetween_114 rfl (by decide) ?_
        refine j_iload_n F dX6_isBetween_115 rfl rfl ?_
        refine j_imulN (a := 2) (b := fy) F dX6_isBetween_116 rfl ?_
        refine j_iconst (v := nI (1)) F dX6_isBetween_117 rfl (by decide) ?_
        refine j_iaddN (a := 2 * fy) (b := 1) F dX6_isBetween_118 rfl ?_
        refine j_goto (pc' := 127) F dX6_isBetween_119 (by decide) ?_
        refine j_istore (lv' := [some (.ref (X.E.1 + 55)), some (.int (nI (w))), some (.int (nI (fx))), some (.int (nI (fy))), some (.int (nI (tx))), some (.int (nI (ty))), some (.int (nI (P.wl w 3))), some (.int (nI ((2 * fx) + 1))), some (.int (nI ((2 * tx) + 1))), some (.int (nI (2 * (P.wl w 0)))), some (.int (nI ((2 * fy) + 1))), none, none, none, none, none, none]) F dX6_isBetween_127 rfl (hL _ (by decide)) rfl rfl ?_
        refine j_iload F dX6_isBetween_129 rfl rfl ?_
        refine j_iconst (v := nI (1)) F dX6_isBetween_131 rfl (by decide) ?_
        refine j_icmp_neN (a := P.wl w 3) (b := 1) F (by omega) (by omega) (tgt := 144) dX6_isBetween_132 (by decide) rfl (fun c_132 => False.elim (c_132 c_11z)) (fun c_132 => ?_)
        refine j_iconst (v := nI (2)) F dX6_isBetween_135 rfl (by decide) ?_
        refine j_iload F dX6_isBetween_136 rfl rfl ?_
        refine j_imulN (a := 2) (b := ty) F dX6_isBetween_138 rfl ?_
        refine j_iconst (v := nI (1)) F dX6_isBetween_139 rfl (by decide) ?_
        refine j_iaddN (a := 2 * ty) (b := 1) F dX6_isBetween_140 rfl ?_
        refine j_goto (pc' := 150) F dX6_isBetween_141 (by decide) ?_
        refine j_istore (lv' := [some (.ref (X.E.1 + 55)), some (.int (nI (w))), some (.int (nI (fx))), some (.int (nI (fy))), some (.int (nI (tx))), some (.int (nI (ty))), some (.int (nI (P.wl w 3))), some (.int (nI ((2 * fx) + 1))), some (.int (nI ((2 * tx) + 1))), some (.int (nI (2 * (P.wl w 0)))), some (.int (nI ((2 * fy) + 1))), some (.int (nI ((2 * ty) + 1))), none, none, none, none, none]) F dX6_isBetween_150 rfl (hL _ (by decide)) rfl rfl ?_
        refine j_iload F dX6_isBetween_152 rfl rfl ?_
        refine j_iconst (v := nI (1)) F dX6_isBetween_154 rfl (by decide) ?_
        refine j_icmp_neN (a := P.wl w 3) (b := 1) F (by omega) (by omega) (tgt := 169) dX6_isBetween_155 (by decide) rfl (fun c_155 => False.elim (c_155 c_11z)) (fun c_155 => ?_)
        refine j_iconst (v := nI (2)) F dX6_isBetween_158 rfl (by decide) ?_
        refine j_aload_n F dX6_isBetween_159 rfl rfl ?_
        refine j_iload_n F dX6_isBetween_160 rfl rfl ?_
        refine j_iconst (v := nI (1)) F dX6_isBetween_161 rfl (by decide) ?_
        refine kX6_138 hn F (As := [.int (nI (w)), .int (nI (1))]) (rest := [.int (nI (2))]) (c_X6_ofWall hn hM hBd w 1 (by omega) (by omega)) (by decide) rfl rfl (Nat.le_of_ble_eq_true rfl) dX6_isBetween_162 rfl (ro_k ?_)
        refine j_imulN (a := 2) (b := P.wl w 1) F dX6_isBetween_165 rfl ?_
        refine j_goto (pc' := 177) F dX6_isBetween_166 (by decide) ?_
        refine j_istore (lv' := [some (.ref (X.E.1 + 55)), some (.int (nI (w))), some (.int (nI (fx))), some (.int (nI (fy))), some (.int (nI (tx))), some (.int (nI (ty))), some (.int (nI (P.wl w 3))), some (.int (nI ((2 * fx) + 1))), some (.int (nI ((2 * tx) + 1))), some (.int (nI (2 * (P.wl w 0)))), some (.int (nI ((2 * fy) + 1))), some (.int (nI ((2 * ty) + 1))), some (.int (nI (2 * (P.wl w 1)))), none, none, none, none]) F dX6_isBetween_177 rfl (hL _ (by decide)) rfl rfl ?_
        refine j_iload F dX6_isBetween_179 rfl rfl ?_
        refine j_iload F dX6_isBetween_181 rfl rfl ?_
        refine j_isub F dX6_isBetween_183 rfl ?_
        refine j_istore (lv' := [some (.ref (X.E.1 + 55)), some (.int (nI (w))), some (.int (nI (fx))), some (.int (nI (fy))), some (.int (nI (tx))), some (.int (nI (ty))), some (.int (nI (P.wl w 3))), some (.int (nI ((2 * fx) + 1))), some (.int (nI ((2 * tx) + 1))), some (.int (nI (2 * (P.wl w 0)))), some (.int (nI ((2 * fy) + 1))), some (.int (nI ((2 * ty) + 1))), some (.int (nI (2 * (P.wl w 1)))), some (.int ((nI ((2 * tx) + 1) - nI ((2 * fx) + 1)))), none, none, none]) F dX6_isBetween_184 rfl (hL _ (by decide)) rfl rfl ?_
        refine j_iload F dX6_isBetween_186 rfl rfl ?_
        refine j_iload F dX6_isBetween_188 rfl rfl ?_
        refine j_imul F dX6_isBetween_190 rfl ?_
        refine j_iload F dX6_isBetween_191 rfl rfl ?_
        refine j_iload F dX6_isBetween_193 rfl rfl ?_
        refine j_isub F dX6_isBetween_195 rfl ?_
        refine j_iload F dX6_isBetween_196 rfl rfl ?_
        refine j_iload F dX6_isBetween_198 rfl rfl ?_
        refine j_isub F dX6_isBetween_200 rfl ?_
        refine j_imul F dX6_isBetween_201 rfl ?_
        refine j_iadd F dX6_isBetween_202 rfl ?_
        refine j_istore (lv' := [some (.ref (X.E.1 + 55)), some (.int (nI (w))), some (.int (nI (fx))), some (.int (nI (fy))), some (.int (nI (tx))), some (.int (nI (ty))), some (.int (nI (P.wl w 3))), some (.int (nI ((2 * fx) + 1))), some (.int (nI ((2 * tx) + 1))), some (.int (nI (2 * (P.wl w 0)))), some (.int (nI ((2 * fy) + 1))), some (.int (nI ((2 * ty) + 1))), some (.int (nI (2 * (P.wl w 1)))), some (.int ((nI ((2 * tx) + 1) - nI ((2 * fx) + 1)))), some (.int (((nI ((2 * fy) + 1) * (nI ((2 * tx) + 1) - nI ((2 * fx) + 1))) + ((nI ((2 * ty) + 1) - nI ((2 * fy) + 1)) * (nI (2 * (P.wl w 0)) - nI ((2 * fx) + 1)))))), none, none]) F dX6_isBetween_203 rfl (hL _ (by decide)) rfl rfl ?_
        refine j_iload F dX6_isBetween_205 rfl rfl ?_
        refine j_iload F dX6_isBetween_207 rfl rfl ?_
        refine j_imul F dX6_isBetween_209 rfl ?_
        refine j_istore (lv' := [some (.ref (X.E.1 + 55)), some (.int (nI (w))), some (.int (nI (fx))), some (.int (nI (fy))), some (.int (nI (tx))), some (.int (nI (ty))), some (.int (nI (P.wl w 3))), some (.int (nI ((2 * fx) + 1))), some (.int (nI ((2 * tx) + 1))), some (.int (nI (2 * (P.wl w 0)))), some (.int (nI ((2 * fy) + 1))), some (.int (nI ((2 * ty) + 1))), some (.int (nI (2 * (P.wl w 1)))), some (.int ((nI ((2 * tx) + 1) - nI ((2 * fx) + 1)))), some (.int (((nI ((2 * fy) + 1) * (nI ((2 * tx) + 1) - nI ((2 * fx) + 1))) + ((nI ((2 * ty) + 1) - nI ((2 * fy) + 1)) * (nI (2 * (P.wl w 0)) - nI ((2 * fx) + 1)))))), some (.int ((nI (2 * (P.wl w 1)) * (nI ((2 * tx) + 1) - nI ((2 * fx) + 1))))), none]) F dX6_isBetween_210 rfl (hL _ (by decide)) rfl rfl ?_
        refine j_iload F dX6_isBetween_212 rfl rfl ?_
        refine j_iconst (v := nI (2)) F dX6_isBetween_214 rfl (by decide) ?_
        refine j_aload_n F dX6_isBetween_215 rfl rfl ?_
        refine j_iload_n F dX6_isBetween_216 rfl rfl ?_
        refine j_iconst (v := nI (2)) F dX6_isBetween_217 rfl (by decide) ?_
        refine kX6_138 hn F (As := [.int (nI (w)), .int (nI (2))]) (rest := [.int (nI (2)), .int (nI (2 * (P.wl w 1)))]) (c_X6_ofWall hn hM hBd w 2 (by omega) (by omega)) (by decide) rfl rfl (Nat.le_of_ble_eq_true rfl) dX6_isBetween_218 rfl (ro_k ?_)
        refine j_imulN (a := 2) (b := P.wl w 2) F dX6_isBetween_221 rfl ?_
        refine j_iaddN (a := 2 * (P.wl w 1)) (b := 2 * (P.wl w 2)) F dX6_isBetween_222 rfl ?_
        refine j_iload F dX6_isBetween_223 rfl rfl ?_
        refine j_imul F dX6_isBetween_225 rfl ?_
        refine j_istore (lv' := [some (.ref (X.E.1 + 55)), some (.int (nI (w))), some (.int (nI (fx))), some (.int (nI (fy))), some (.int (nI (tx))), some (.int (nI (ty))), some (.int (nI (P.wl w 3))), some (.int (nI ((2 * fx) + 1))), some (.int (nI ((2 * tx) + 1))), some (.int (nI (2 * (P.wl w 0)))), some (.int (nI ((2 * fy) + 1))), some (.int (nI ((2 * ty) + 1))), some (.int (nI (2 * (P.wl w 1)))), some (.int ((nI ((2 * tx) + 1) - nI ((2 * fx) + 1)))), some (.int (((nI ((2 * fy) + 1) * (nI ((2 * tx) + 1) - nI ((2 * fx) + 1))) + ((nI ((2 * ty) + 1) - nI ((2 * fy) + 1)) * (nI (2 * (P.wl w 0)) - nI ((2 * fx) + 1)))))), some (.int ((nI (2 * (P.wl w 1)) * (nI ((2 * tx) + 1) - nI ((2 * fx) + 1))))), some (.int ((nI ((2 * (P.wl w 1)) + (2 * (P.wl w 2))) * (nI ((2 * tx) + 1) - nI ((2 * fx) + 1)))))]) F dX6_isBetween_226 rfl (hL _ (by decide)) rfl rfl ?_
        refine j_iload F dX6_isBetween_228 rfl rfl ?_
        refine j_if_le F (tgt := 255) dX6_isBetween_230 (by decide) rfl (fun c_230 => ?_) (fun c_230 => ?_)
        · refine j_iload F dX6_isBetween_255 rfl rfl ?_
          refine j_iload F dX6_isBetween_257 rfl rfl ?_
          refine j_icmp_gt F (tgt := 273) dX6_isBetween_259 (by decide) rfl (fun c_259 => ?_) (fun c_259 => ?_)
          · have hz : P.stop w fx fy tx ty = false := by
              unfold Pl.stop stopW
              first | rw [if_pos c_11z] | rw [if_neg c_11z]
              unfold stopC
              rw [if_neg (by omega)]
              rw [if_pos c_230]
              exact decide_eq_false (fun q => q.2 c_259)
            refine j_iconst (v := nI (0)) F dX6_isBetween_273 rfl (by decide) ?_
            exact j_iret F hRt rfl (roB_f hz) dX6_isBetween_274
          · refine j_iload F dX6_isBetween_262 rfl rfl ?_
            refine j_iload F dX6_isBetween_264 rfl rfl ?_
            refine j_icmp_lt F (tgt := 273) dX6_isBetween_266 (by decide) rfl (fun c_266 => ?_) (fun c_266 => ?_)
            · have hz : P.stop w fx fy tx ty = false := by
                unfold Pl.stop stopW
                first | rw [if_pos c_11z] | rw [if_neg c_11z]
                unfold stopC
                rw [if_neg (by omega)]
                rw [if_pos c_230]
                exact decide_eq_false (fun q => q.1 c_266)
              refine j_iconst (v := nI (0)) F dX6_isBetween_273 rfl (by decide) ?_
              exact j_iret F hRt rfl (roB_f hz) dX6_isBetween_274
            · have hz : P.stop w fx fy tx ty = true := by
                unfold Pl.stop stopW
                first | rw [if_pos c_11z] | rw [if_neg c_11z]
                unfold stopC
                rw [if_neg (by omega)]
                rw [if_pos c_230]
                exact decide_eq_true ⟨c_266, c_259⟩
              refine j_iconst (v := nI (1)) F dX6_isBetween_269 rfl (by decide) ?_
              refine j_goto (pc' := 274) F dX6_isBetween_270 (by decide) ?_
              exact j_iret F hRt rfl (roB_t hz) dX6_isBetween_274
        · refine j_iload F dX6_isBetween_233 rfl rfl ?_
          refine j_iload F dX6_isBetween_235 rfl rfl ?_
          refine j_icmp_lt F (tgt := 251) dX6_isBetween_237 (by decide) rfl (fun c_237 => ?_) (fun c_237 => ?_)
          · have hz : P.stop w fx fy tx ty = false := by
              unfold Pl.stop stopW
              first | rw [if_pos c_11z] | rw [if_neg c_11z]
              unfold stopC
              rw [if_neg (by omega)]
              rw [if_neg c_230]
              exact decide_eq_false (fun q => q.1 c_237)
            refine j_iconst (v := nI (0)) F dX6_isBetween_251 rfl (by decide) ?_
            refine j_goto (pc' := 274) F dX6_isBetween_252 (by decide) ?_
            exact j_iret F hRt rfl (roB_f hz) dX6_isBetween_274
          · refine j_iload F dX6_isBetween_240 rfl rfl ?_
            refine j_iload F dX6_isBetween_242 rfl rfl ?_
            refine j_icmp_gt F (tgt := 251) dX6_isBetween_244 (by decide) rfl (fun c_244 => ?_) (fun c_244 => ?_)
            · have hz : P.stop w fx fy tx ty = false := by
                unfold Pl.stop stopW
                first | rw [if_pos c_11z] | rw [if_neg c_11z]
                unfold stopC
                rw [if_neg (by omega)]
                rw [if_neg c_230]
                exact decide_eq_false (fun q => q.2 c_244)
              refine j_iconst (v := nI (0)) F dX6_isBetween_251 rfl (by decide) ?_
              refine j_goto (pc' := 274) F dX6_isBetween_252 (by decide) ?_
              exact j_iret F hRt rfl (roB_f hz) dX6_isBetween_274
            · have hz : P.stop w fx fy tx ty = true := by
                unfold Pl.stop stopW
                first | rw [if_pos c_11z] | rw [if_neg c_11z]
                unfold stopC
                rw [if_neg (by omega)]
                rw [if_neg c_230]
                exact decide_eq_true ⟨c_237, c_244⟩
              refine j_iconst (v := nI (1)) F dX6_isBetween_247 rfl (by decide) ?_
              refine j_goto (pc' := 274) F dX6_isBetween_248 (by decide) ?_
              exact j_iret F hRt rfl (roB_t hz) dX6_isBetween_274
      · refine j_iconst (v := nI (1)) F dX6_isBetween_98 rfl (by decide) ?_
        refine j_goto (pc' := 103) F dX6_isBetween_99 (by decide) ?_
        refine j_icmp_neN (a := 1) (b := 1) F (by omega) (by omega) (tgt := 108) dX6_isBetween_103 (by decide) rfl (fun c_103 => False.elim (by revert c_103; decide)) (fun c_103 => ?_)
        refine j_iconst (v := nI (0)) F dX6_isBetween_106 rfl (by decide) ?_
        have hz : P.stop w fx fy tx ty = false := by
          unfold Pl.stop stopW
          first | rw [if_pos c_11z] | rw [if_neg c_11z]
          unfold stopC
          rw [if_pos (by omega)]
        exact j_iret F hRt rfl (roB_f hz) dX6_isBetween_107

set_option maxRecDepth 10000 in
set_option maxHeartbeats 2000000 in
theorem c_X6_isLit {l : Launch} {n : Nat} {E : Ev} {σ : St} {P : Pl} (hn : 69 ≤ n) (hM : MP σ P) (hBd : PB P) (hWl : ∀ w, w < P.nw → WallOK P w) (fx fy tx ty : Nat) (wo : Int32) (h1 : fx ≤ 9) (h2 : fy ≤ 9) (h3 : tx ≤ 9) (h4 : ty ≤ 9) : Ct l yX6_isLit cX6_isLit 8 (some .boolean) 2 n E [.ref (E.1 + 55), .int (nI (fx)), .int (nI (fy)), .int (nI (tx)), .int (nI (ty)), .int (wo)] σ (ro (.int (bI (P.free fx fy tx ty wo))) σ) := by
  refine Ct.of (lv0 := [some (.ref (E.1 + 55)), some (.int (nI (fx))), some (.int (nI (fy))), some (.int (nI (tx))), some (.int (nI (ty))), some (.int (wo)), none, none]) (by decide) (Nat.le_of_ble_eq_true rfl) rfl ?_
  intro X hXn hXE hXl hXL F hRt
  subst hXn hXE hXl
  have hL : ∀ i, i < 8 → i < X.nL := fun i h => by rw [hXL]; exact h
  have hB0 := hBd
  obtain ⟨b1, b2, b3, b4, b5, b6, b7⟩ := hB0
  refine j_iconst (v := nI (1)) F dX6_isLit_0 rfl (by decide) ?_
  refine j_istore (lv' := [some (.ref (X.E.1 + 55)), some (.int (nI (fx))), some (.int (nI (fy))), some (.int (nI (tx))), some (.int (nI (ty))), some (.int (wo)), some (.int (nI (1))), none]) F dX6_isLit_1 rfl (hL _ (by decide)) rfl rfl ?_
  refine j_iconst (v := nI (4)) F dX6_isLit_3 rfl (by decide) ?_
  refine j_istore (lv' := [some (.ref (X.E.1 + 55)), some (.int (nI (fx))), some (.int (nI (fy))), some (.int (nI (tx))), some (.int (nI (ty))), some (.int (wo)), some (.int (nI (1))), some (.int (nI (4)))]) F dX6_isLit_4 rfl (hL _ (by decide)) rfl rfl ?_
  refine j_lvq (lv' := [some (.ref (X.E.1 + 55)), some (.int (nI (fx))), some (.int (nI (fy))), some (.int (nI (tx))), some (.int (nI (ty))), some (.int (wo)), some (.int (bI (true))), some (.int (nI (4)))]) rfl ?_
  have loop_6 : ∀ (ii : Nat), ii ≤ P.nw → ∀ (bb : Bool), (4 ≤ ii) → (bb = decide (∀ w, w < ii → 4 ≤ w → ¬ nI w = wo → P.stop w fx fy tx ty = false)) → J X 6 [some (.ref (X.E.1 + 55)), some (.int (nI (fx))), some (.int (nI (fy))), some (.int (nI (tx))), some (.int (nI (ty))), some (.int (wo)), some (.int (bI (bb))), some (.int (nI (ii)))] [] σ := by
    refine dnL (fun ii hii ih_6 => ?_)
    intro bb hi4 hno
    refine j_iload F dX6_isLit_6 rfl rfl ?_
    refine j_aload_n F dX6_isLit_8 rfl rfl ?_
    refine gX6_7 hn F dX6_isLit_9 rfl ?_
    refine j_iconst (v := nI (1)) F dX6_isLit_12 rfl (by decide) ?_
    refine j_iaload (a := 1) F (by omega) rfl rfl (by omega) (by decide) dX6_isLit_13 rfl ?_
    refine j_int (y := nI (P.nw)) (hM.nw) ?_
    refine j_icmp_geN (a := ii) (b := P.nw) F (by omega) (by omega) (tgt := 56) dX6_isLit_14 (by decide) rfl (fun c_14 => ?_) (fun c_14 => ?_)
    · have hiN : ii = P.nw := by omega
      have hz : P.free fx fy tx ty wo = bb := by rw [hno, hiN]; rfl
      refine j_iload F dX6_isLit_56 rfl rfl ?_
      exact j_iret F hRt (bI_nar _) (roI (by rw [hz])) dX6_isLit_58
    · refine j_iload F dX6_isLit_17 rfl rfl ?_
      refine j_if_eqB F (x := bb) (tgt := 56) dX6_isLit_19 (by decide) rfl (fun c_19 => ?_) (fun c_19 => ?_)
      · have hz : P.free fx fy tx ty wo = bb := by rw [c_19]; rw [c_19] at hno; exact decide_eq_false (fun q => of_decide_eq_false hno.symm (fun w r => q w (by omega)))
        refine j_iload F dX6_isLit_56 rfl rfl ?_
        exact j_iret F hRt (bI_nar _) (roI (by rw [hz])) dX6_isLit_58
      · have hall := of_decide_eq_true (hno.symm.trans c_19)
        refine j_iload F dX6_isLit_22 rfl rfl ?_
        refine j_iload F dX6_isLit_24 rfl rfl ?_
        refine j_icmp_eq F (tgt := 43) dX6_isLit_26 (by decide) rfl (fun c_26 => ?_) (fun c_26 => ?_)
        · have hni : ¬ nI ii = wo → P.stop ii fx fy tx ty = false := fun z => absurd c_26 z
          have hnx : true = decide (∀ w, w < ii + 1 → 4 ≤ w → ¬ nI w = wo → P.stop w fx fy tx ty = false) := (decide_eq_true (fun w q r z => by rcases (show w < ii ∨ w = ii by omega) with t | rfl; exact hall w t r z; exact hni z)).symm
          refine j_iconst (v := nI (1)) F dX6_isLit_43 rfl (by decide) ?_
          refine j_goto (pc' := 48) F dX6_isLit_44 (by decide) ?_
          refine j_istore (lv' := [some (.ref (X.E.1 + 55)), some (.int (nI (fx))), some (.int (nI (fy))), some (.int (nI (tx))), some (.int (nI (ty))), some (.int (wo)), some (.int (nI (1))), some (.int (nI (ii)))]) F dX6_isLit_48 rfl (hL _ (by decide)) rfl rfl ?_
          refine j_iincN (a := ii) (c := 1) (lv' := [some (.ref (X.E.1 + 55)), some (.int (nI (fx))), some (.int (nI (fy))), some (.int (nI (tx))), some (.int (nI (ty))), some (.int (wo)), some (.int (nI (1))), some (.int (nI (ii + 1)))]) F dX6_isLit_50 rfl rfl (by decide) (hL _ (by decide)) rfl rfl ?_
          refine j_goto (pc' := 6) F dX6_isLit_53 (by decide) ?_
          refine j_lvq (lv' := [some (.ref (X.E.1 + 55)), some (.int (nI (fx))), some (.int (nI (fy))), some (.int (nI (tx))), some (.int (nI (ty))), some (.int (wo)), some (.int (bI (true))), some (.int (nI (ii + 1)))]) rfl ?_
          exact ih_6 (by omega) true (by omega) hnx
        · refine j_aload_n F dX6_isLit_29 rfl rfl ?_
          refine j_iload F dX6_isLit_30 rfl rfl ?_
          refine j_iload_n F dX6_isLit_32 rfl rfl ?_
          refine j_iload_n F dX6_isLit_33 rfl rfl ?_
          refine j_iload_n F dX6_isLit_34 rfl rfl ?_
          refine j_iload F dX6_isLit_35 rfl rfl ?_
          refine kX6_144 hn F (As := [.int (nI (ii)), .int (nI (fx)), .int (nI (fy)), .int (nI (tx)), .int (nI (ty))]) (rest := []) (c_X6_isBetween hn hM hBd hWl ii fx fy tx ty (by omega) (by omega) (by omega) (by omega) (by omega)) (by decide) rfl rfl (Nat.le_of_ble_eq_true rfl) dX6_isLit_37 rfl (ro_k ?_)
          refine j_if_neB F (x := P.stop ii fx fy tx ty) (tgt := 47) dX6_isLit_40 (by decide) rfl (fun c_40 => ?_) (fun c_40 => ?_)
          · have hnx : false = decide (∀ w, w < ii + 1 → 4 ≤ w → ¬ nI w = wo → P.stop w fx fy tx ty = false) := (decide_eq_false (fun q => by have z := q ii (Nat.lt_succ_self _) hi4 c_26; rw [c_40] at z; cases z)).symm
            refine j_iconst (v := nI (0)) F dX6_isLit_47 rfl (by decide) ?_
            refine j_istore (lv' := [some (.ref (X.E.1 + 55)), some (.int (nI (fx))), some (.int (nI (fy))), some (.int (nI (tx))), some (.int (nI (ty))), some (.int (wo)), some (.int (nI (0))), some (.int (nI (ii)))]) F dX6_isLit_48 rfl (hL _ (by decide)) rfl rfl ?_
            refine j_iincN (a := ii) (c := 1) (lv' := [some (.ref (X.E.1 + 55)), some (.int (nI (fx))), some (.int (nI (fy))), some (.int (nI (tx))), some (.int (nI (ty))), some (.int (wo)), some (.int (nI (0))), some (.int (nI (ii + 1)))]) F dX6_isLit_50 rfl rfl (by decide) (hL _ (by decide)) rfl rfl ?_
            refine j_goto (pc' := 6) F dX6_isLit_53 (by decide) ?_
            refine j_lvq (lv' := [some (.ref (X.E.1 + 55)), some (.int (nI (fx))), some (.int (nI (fy))), some (.int (nI (tx))), some (.int (nI (ty))), some (.int (wo)), some (.int (bI (false))), some (.int (nI (ii + 1)))]) rfl ?_
            exact ih_6 (by omega) false (by omega) hnx
          · have hni : ¬ nI ii = wo → P.stop ii fx fy tx ty = false := fun _ => c_40
            have hnx : true = decide (∀ w, w < ii + 1 → 4 ≤ w → ¬ nI w = wo → P.stop w fx fy tx ty = false) := (decide_eq_true (fun w q r z => by rcases (show w < ii ∨ w = ii by omega) with t | rfl; exact hall w t r z; exact hni z)).symm
            refine j_iconst (v := nI (1)) F dX6_isLit_43 rfl (by decide) ?_
            refine j_goto (pc' := 48) F dX6_isLit_44 (by decide) ?_
            refine j_istore (lv' := [some (.ref (X.E.1 + 55)), some (.int (nI (fx))), some (.int (nI (fy))), some (.int (nI (tx))), some (.int (nI (ty))), some (.int (wo)), some (.int (nI (1))), some (.int (nI (ii)))]) F dX6_isLit_48 rfl (hL _ (by decide)) rfl rfl ?_
            refine j_iincN (a := ii) (c := 1) (lv' := [some (.ref (X.E.1 + 55)), some (.int (nI (fx))), some (.int (nI (fy))), some (.int (nI (tx))), some (.int (nI (ty))), some (.int (wo)), some (.int (nI (1))), some (.int (nI (ii + 1)))]) F dX6_isLit_50 rfl rfl (by decide) (hL _ (by decide)) rfl rfl ?_
            refine j_goto (pc' := 6) F dX6_isLit_53 (by decide) ?_
            refine j_lvq (lv' := [some (.ref (X.E.1 + 55)), some (.int (nI (fx))), some (.int (nI (fy))), some (.int (nI (tx))), some (.int (nI (ty))), some (.int (wo)), some (.int (bI (true))), some (.int (nI (ii + 1)))]) rfl ?_
            exact ih_6 (by omega) true (by omega) hnx
  exact loop_6 4 (by omega) true (Nat.le_refl 4) ((decide_eq_true (fun w q r => absurd q (by omega))).symm)

set_option maxRecDepth 10000 in
set_option maxHeartbeats 2000000 in
theorem c_X6_isLitBy {l : Launch} {n : Nat} {E : Ev} {σ : St} {P : Pl} (hn : 69 ≤ n) (hM : MP σ P) (hBd : PB P) (hWl : ∀ w, w < P.nw → WallOK P w) (hLm : ∀ l, l < P.nl → LampOK P l) (l0 x y : Nat) (wo : Int32) (hl : l0 < P.nl) (h3 : x ≤ 9) (h4 : y ≤ 9) : Ct l yX6_isLitBy cX6_isLitBy 5 (some .boolean) 3 n E [.ref (E.1 + 55), .int (nI (l0)), .int (nI (x)), .int (nI (y)), .int (wo)] σ (ro (.int (bI (P.free (P.lp l0 0) (P.lp l0 1) x y wo))) σ) := by
  refine Ct.of (lv0 := [some (.ref (E.1 + 55)), some (.int (nI (l0))), some (.int (nI (x))), some (.int (nI (y))), some (.int (wo))]) (by decide) (Nat.le_of_ble_eq_true rfl) rfl ?_
  intro X hXn hXE hXl hXL F hRt
  subst hXn hXE hXl
  have hL : ∀ i, i < 5 → i < X.nL := fun i h => by rw [hXL]; exact h
  have hB0 := hBd
  obtain ⟨b1, b2, b3, b4, b5, b6, b7⟩ := hB0
  have hlo := hLm l0 hl
  unfold LampOK at hlo
  refine j_aload_n F dX6_isLitBy_0 rfl rfl ?_
  refine j_aload_n F dX6_isLitBy_1 rfl rfl ?_
  refine j_iload_n F dX6_isLitBy_2 rfl rfl ?_
  refine j_iconst (v := nI (0)) F dX6_isLitBy_3 rfl (by decide) ?_
  refine kX6_70 hn F (As := [.int (nI (l0)), .int (nI (0))]) (rest := [.ref (X.E.1 + 55)]) (c_X6_ofLamp hn hM hBd l0 0 (by omega) (by omega)) (by decide) rfl rfl (Nat.le_of_ble_eq_true rfl) dX6_isLitBy_4 rfl (ro_k ?_)
  refine j_aload_n F dX6_isLitBy_7 rfl rfl ?_
  refine j_iload_n F dX6_isLitBy_8 rfl rfl ?_
  refine j_iconst (v := nI (1)) F dX6_isLitBy_9 rfl (by decide) ?_
  refine kX6_70 hn F (As := [.int (nI (l0)), .int (nI (1))]) (rest := [.int (nI (P.lp l0 0)), .ref (X.E.1 + 55)]) (c_X6_ofLamp hn hM hBd l0 1 (by omega) (by omega)) (by decide) rfl rfl (Nat.le_of_ble_eq_true rfl) dX6_isLitBy_10 rfl (ro_k ?_)
  refine j_iload_n F dX6_isLitBy_13 rfl rfl ?_
  refine j_iload_n F dX6_isLitBy_14 rfl rfl ?_
  refine j_iload F dX6_isLitBy_15 rfl rfl ?_
  refine kX6_148 hn F (As := [.int (nI (P.lp l0 0)), .int (nI (P.lp l0 1)), .int (nI (x)), .int (nI (y)), .int (wo)]) (rest := []) (c_X6_isLit hn hM hBd hWl (P.lp l0 0) (P.lp l0 1) x y wo (by omega) (by omega) (by omega) (by omega)) (by decide) rfl rfl (Nat.le_of_ble_eq_true rfl) dX6_isLitBy_17 rfl (ro_k ?_)
  exact j_iret F hRt (bI_nar _) (⟨rfl, rfl⟩) dX6_isLitBy_20

set_option maxRecDepth 10000 in
set_option maxHeartbeats 2000000 in
theorem c_X6_lampsOf {l : Launch} {n : Nat} {E : Ev} {σ : St} {P : Pl} (hn : 69 ≤ n) (hM : MP σ P) (hBd : PB P) (hWl : ∀ w, w < P.nw → WallOK P w) (hLm : ∀ l, l < P.nl → LampOK P l) (x y : Nat) (wo : Int32) (h3 : x ≤ 9) (h4 : y ≤ 9) : Ct l yX6_lampsOf cX6_lampsOf 6 (some .int) 4 n E [.ref (E.1 + 55), .int (nI (x)), .int (nI (y)), .int (wo)] σ (ro (.int (nI (P.LM x y wo))) σ) := by
  refine Ct.of (lv0 := [some (.ref (E.1 + 55)), some (.int (nI (x))), some (.int (nI (y))), some (.int (wo)), none, none]) (by decide) (Nat.le_of_ble_eq_true rfl) rfl ?_
  intro X hXn hXE hXl hXL F hRt
  subst hXn hXE hXl
  have hL : ∀ i, i < 6 → i < X.nL := fun i h => by rw [hXL]; exact h
  have hB0 := hBd
  obtain ⟨b1, b2, b3, b4, b5, b6, b7⟩ := hB0
  refine j_iconst (v := nI (0)) F dX6_lampsOf_0 rfl (by decide) ?_
  refine j_istore (lv' := [some (.ref (X.E.1 + 55)), some (.int (nI (x))), some (.int (nI (y))), some (.int (wo)), some (.int (nI (0))), none]) F dX6_lampsOf_1 rfl (hL _ (by decide)) rfl rfl ?_
  refine j_iconst (v := nI (0)) F dX6_lampsOf_3 rfl (by decide) ?_
  refine j_istore (lv' := [some (.ref (X.E.1 + 55)), some (.int (nI (x))), some (.int (nI (y))), some (.int (wo)), some (.int (nI (0))), some (.int (nI (0)))]) F dX6_lampsOf_4 rfl (hL _ (by decide)) rfl rfl ?_
  have loop_6 : ∀ (ii : Nat), ii ≤ P.nl → J X 6 [some (.ref (X.E.1 + 55)), some (.int (nI (x))), some (.int (nI (y))), some (.int (wo)), some (.int (nI (Bt (fun l => P.free (P.lp l 0) (P.lp l 1) x y wo) ii))), some (.int (nI (ii)))] [] σ := by
    refine dnL (fun ii hii ih_6 => ?_)
    refine j_iload F dX6_lampsOf_6 rfl rfl ?_
    refine j_aload_n F dX6_lampsOf_8 rfl rfl ?_
    refine gX6_7 hn F dX6_lampsOf_9 rfl ?_
    refine j_iconst (v := nI (0)) F dX6_lampsOf_12 rfl (by decide) ?_
    refine j_iaload (a := 0) F (by omega) rfl rfl (by omega) (by decide) dX6_lampsOf_13 rfl ?_
    refine j_int (y := nI (P.nl)) (hM.nl) ?_
    refine j_icmp_geN (a := ii) (b := P.nl) F (by omega) (by omega) (tgt := 48) dX6_lampsOf_14 (by decide) rfl (fun c_14 => ?_) (fun c_14 => ?_)
    · have hiN : ii = P.nl := by omega
      refine j_iload F dX6_lampsOf_48 rfl rfl ?_
      exact j_iret F hRt rfl (roI (by unfold Pl.LM; rw [hiN])) dX6_lampsOf_50
    · refine j_iload F dX6_lampsOf_17 rfl rfl ?_
      refine j_aload_n F dX6_lampsOf_19 rfl rfl ?_
      refine j_iload F dX6_lampsOf_20 rfl rfl ?_
      refine j_iload_n F dX6_lampsOf_22 rfl rfl ?_
      refine j_iload_n F dX6_lampsOf_23 rfl rfl ?_
      refine j_iload_n F dX6_lampsOf_24 rfl rfl ?_
      refine kX6_151 hn F (As := [.int (nI (ii)), .int (nI (x)), .int (nI (y)), .int (wo)]) (rest := [.int (nI (Bt (fun l => P.free (P.lp l 0) (P.lp l 1) x y wo) ii))]) (c_X6_isLitBy hn hM hBd hWl hLm ii x y wo (by omega) (by omega) (by omega)) (by decide) rfl rfl (Nat.le_of_ble_eq_true rfl) dX6_lampsOf_25 rfl (ro_k ?_)
      refine j_if_eqB F (x := P.free (P.lp ii 0) (P.lp ii 1) x y wo) (tgt := 38) dX6_lampsOf_28 (by decide) rfl (fun c_28 => ?_) (fun c_28 => ?_)
      · have hnx : Bt (fun l => P.free (P.lp l 0) (P.lp l 1) x y wo) (ii + 1) = Bt (fun l => P.free (P.lp l 0) (P.lp l 1) x y wo) ii ||| 0 := by rw [Bt, if_neg (fun q => by rw [show P.free (P.lp ii 0) (P.lp ii 1) x y wo = true from q] at c_28; cases c_28)]
        refine j_iconst (v := nI (0)) F dX6_lampsOf_38 rfl (by decide) ?_
        refine j_ior F dX6_lampsOf_39 rfl ?_
        refine j_int (y := nI (Bt (fun l => P.free (P.lp l 0) (P.lp l 1) x y wo) (ii + 1))) ((fa_or _ _).trans (by rw [hnx])) ?_
        refine j_istore (lv' := [some (.ref (X.E.1 + 55)), some (.int (nI (x))), some (.int (nI (y))), some (.int (wo)), some (.int (nI (Bt (fun l => P.free (P.lp l 0) (P.lp l 1) x y wo) (ii + 1)))), some (.int (nI (ii)))]) F dX6_lampsOf_40 rfl (hL _ (by decide)) rfl rfl ?_
        refine j_iincN (a := ii) (c := 1) (lv' := [some (.ref (X.E.1 + 55)), some (.int (nI (x))), some (.int (nI (y))), some (.int (wo)), some (.int (nI (Bt (fun l => P.free (P.lp l 0) (P.lp l 1) x y wo) (ii + 1)))), some (.int (nI (ii + 1)))]) F dX6_lampsOf_42 rfl rfl (by decide) (hL _ (by decide)) rfl rfl ?_
        refine j_goto (pc' := 6) F dX6_lampsOf_45 (by decide) ?_
        exact ih_6 (by omega)  
      · have hnx : Bt (fun l => P.free (P.lp l 0) (P.lp l 1) x y wo) (ii + 1) = Bt (fun l => P.free (P.lp l 0) (P.lp l 1) x y wo) ii ||| 2 ^ ii := by rw [Bt, if_pos c_28]
        refine j_iconst (v := nI (1)) F dX6_lampsOf_31 rfl (by decide) ?_
        refine j_iload F dX6_lampsOf_32 rfl rfl ?_
        refine j_ishl F dX6_lampsOf_34 rfl ?_
        refine j_int (y := nI (2 ^ ii)) (sh_n (Nat.le_refl 1) (by omega)) ?_
        refine j_goto (pc' := 39) F dX6_lampsOf_35 (by decide) ?_
        refine j_ior F dX6_lampsOf_39 rfl ?_
        refine j_int (y := nI (Bt (fun l => P.free (P.lp l 0) (P.lp l 1) x y wo) (ii + 1))) ((fa_or _ _).trans (by rw [hnx])) ?_
        refine j_istore (lv' := [some (.ref (X.E.1 + 55)), some (.int (nI (x))), some (.int (nI (y))), some (.int (wo)), some (.int (nI (Bt (fun l => P.free (P.lp l 0) (P.lp l 1) x y wo) (ii + 1)))), some (.int (nI (ii)))]) F dX6_lampsOf_40 rfl (hL _ (by decide)) rfl rfl ?_
        refine j_iincN (a := ii) (c := 1) (lv' := [some (.ref (X.E.1 + 55)), some (.int (nI (x))), some (.int (nI (y))), some (.int (wo)), some (.int (nI (Bt (fun l => P.free (P.lp l 0) (P.lp l 1) x y wo) (ii + 1)))), some (.int (nI (ii + 1)))]) F dX6_lampsOf_42 rfl rfl (by decide) (hL _ (by decide)) rfl rfl ?_
        refine j_goto (pc' := 6) F dX6_lampsOf_45 (by decide) ?_
        exact ih_6 (by omega)  
  exact loop_6 0 (by omega)  

set_option maxRecDepth 10000 in
set_option maxHeartbeats 2000000 in
theorem c_X6_allBy {l : Launch} {n : Nat} {E : Ev} {σ : St} {P : Pl} (hn : 69 ≤ n) (hM : MP σ P) (hBd : PB P) (hWl : ∀ w, w < P.nw → WallOK P w) (hLm : ∀ l, l < P.nl → LampOK P l) (wo : Int32) : Ct l yX6_allBy cX6_allBy 4 (some .int) 5 n E [.ref (E.1 + 55), .int (wo)] σ (ro (.int (nI (P.cL P.on wo))) σ) := by
  refine Ct.of (lv0 := [some (.ref (E.1 + 55)), some (.int (wo)), none, none]) (by decide) (Nat.le_of_ble_eq_true rfl) rfl ?_
  intro X hXn hXE hXl hXL F hRt
  subst hXn hXE hXl
  have hL : ∀ i, i < 4 → i < X.nL := fun i h => by rw [hXL]; exact h
  have hB0 := hBd
  obtain ⟨b1, b2, b3, b4, b5, b6, b7⟩ := hB0
  have har := ar_le b2 b4
  refine j_iconst (v := nI (0)) F dX6_allBy_0 rfl (by decide) ?_
  refine j_istore_n (lv' := [some (.ref (X.E.1 + 55)), some (.int (wo)), some (.int (nI (0))), none]) F dX6_allBy_1 rfl (hL _ (by decide)) rfl rfl ?_
  refine j_iconst (v := nI (0)) F dX6_allBy_2 rfl (by decide) ?_
  refine j_istore_n (lv' := [some (.ref (X.E.1 + 55)), some (.int (wo)), some (.int (nI (0))), some (.int (nI (0)))]) F dX6_allBy_3 rfl (hL _ (by decide)) rfl rfl ?_
  have loop_4 : ∀ (ii : Nat), ii ≤ (P.W * P.H) → J X 4 [some (.ref (X.E.1 + 55)), some (.int (wo)), some (.int (nI (fa_cnt (fun s => decide (¬ P.LS P.on wo s = 0)) ii))), some (.int (nI (ii)))] [] σ := by
    refine dnL (fun ii hii ih_4 => ?_)
    have hci := fa_cnt_le (fun s => decide (¬ P.LS P.on wo s = 0)) ii
    refine j_iload_n F dX6_allBy_4 rfl rfl ?_
    refine j_aload_n F dX6_allBy_5 rfl rfl ?_
    refine gX6_60 hn F dX6_allBy_6 rfl ?_
    refine j_int (y := nI (P.W)) (hM.w) ?_
    refine j_aload_n F dX6_allBy_9 rfl rfl ?_
    refine gX6_67 hn F dX6_allBy_10 rfl ?_
    refine j_int (y := nI (P.H)) (hM.h) ?_
    refine j_imulN (a := P.W) (b := P.H) F dX6_allBy_13 rfl ?_
    refine j_icmp_geN (a := ii) (b := P.W * P.H) F (by omega) (by omega) (tgt := 56) dX6_allBy_14 (by decide) rfl (fun c_14 => ?_) (fun c_14 => ?_)
    · have hiN : ii = P.W * P.H := by omega
      refine j_iload_n F dX6_allBy_56 rfl rfl ?_
      exact j_iret F hRt rfl (roI (by unfold Pl.cL; rw [hiN])) dX6_allBy_57
    · have hd1 : ii % P.W < P.W := Nat.mod_lt _ (by omega)
      have hd2 : ii / P.W < P.H := Nat.div_lt_of_lt_mul c_14
      have hLs : P.LS P.on wo ii < 256 := Bt_le b7
      refine j_iload_n F dX6_allBy_17 rfl rfl ?_
      refine j_aload_n F dX6_allBy_18 rfl rfl ?_
      refine j_iload_n F dX6_allBy_19 rfl rfl ?_
      refine j_aload_n F dX6_allBy_20 rfl rfl ?_
      refine gX6_60 hn F dX6_allBy_21 rfl ?_
      refine j_int (y := nI (P.W)) (hM.w) ?_
      refine j_iremN (a := ii) (b := P.W) F (by omega) (by omega) (by omega) dX6_allBy_24 rfl ?_
      refine j_iload_n F dX6_allBy_25 rfl rfl ?_
      refine j_aload_n F dX6_allBy_26 rfl rfl ?_
      refine gX6_60 hn F dX6_allBy_27 rfl ?_
      refine j_int (y := nI (P.W)) (hM.w) ?_
      refine j_idivN (a := ii) (b := P.W) F (by omega) (by omega) (by omega) dX6_allBy_30 rfl ?_
      refine j_iload_n F dX6_allBy_31 rfl rfl ?_
      refine kX6_155 hn F (As := [.int (nI (ii % P.W)), .int (nI (ii / P.W)), .int (wo)]) (rest := [.int (nI (fa_cnt (fun s => decide (¬ P.LS P.on wo s = 0)) ii))]) (c_X6_lampsOf hn hM hBd hWl hLm (ii % P.W) (ii / P.W) wo (by omega) (by omega)) (by decide) rfl rfl (Nat.le_of_ble_eq_true rfl) dX6_allBy_32 rfl (ro_k ?_)
      refine j_aload_n F dX6_allBy_35 rfl rfl ?_
      refine kX6_159 hn F (As := []) (rest := [.int (nI (P.LM (ii % P.W) (ii / P.W) wo)), .int (nI (fa_cnt (fun s => decide (¬ P.LS P.on wo s = 0)) ii))]) (c_X6_on hn hM hBd hLm) (by decide) rfl rfl (Nat.le_of_ble_eq_true rfl) dX6_allBy_36 rfl (ro_k ?_)
      refine j_iand F dX6_allBy_39 rfl ?_
      refine j_int (y := nI (P.LS P.on wo ii)) (LM_on) ?_
      refine j_if_eqN (a := P.LS P.on wo ii) F (by omega) (tgt := 47) dX6_allBy_40 (by decide) rfl (fun c_40 => ?_) (fun c_40 => ?_)
      · have hnx := fa_cnt_no (p := (fun s => decide (¬ P.LS P.on wo s = 0))) (n := ii) (decide_eq_false (fun q => q c_40))
        refine j_iconst (v := nI (0)) F dX6_allBy_47 rfl (by decide) ?_
        refine j_iaddN (a := fa_cnt (fun s => decide (¬ P.LS P.on wo s = 0)) ii) (b := 0) F dX6_allBy_48 rfl ?_
        refine j_istore_n (lv' := [some (.ref (X.E.1 + 55)), some (.int (wo)), some (.int (nI ((fa_cnt (fun s => decide (¬ P.LS P.on wo s = 0)) ii) + 0))), some (.int (nI (ii)))]) F dX6_allBy_49 rfl (hL _ (by decide)) rfl rfl ?_
        refine j_iincN (a := ii) (c := 1) (lv' := [some (.ref (X.E.1 + 55)), some (.int (wo)), some (.int (nI ((fa_cnt (fun s => decide (¬ P.LS P.on wo s = 0)) ii) + 0))), some (.int (nI (ii + 1)))]) F dX6_allBy_50 rfl rfl (by decide) (hL _ (by decide)) rfl rfl ?_
        refine j_goto (pc' := 4) F dX6_allBy_53 (by decide) ?_
        refine j_lvq (lv' := [some (.ref (X.E.1 + 55)), some (.int (wo)), some (.int (nI (fa_cnt (fun s => decide (¬ P.LS P.on wo s = 0)) (ii + 1)))), some (.int (nI (ii + 1)))]) (by rw [hnx] <;> rfl) ?_
        exact ih_4 (by omega)
      · have hnx := fa_cnt_yes (p := (fun s => decide (¬ P.LS P.on wo s = 0))) (n := ii) (decide_eq_true c_40)
        refine j_iconst (v := nI (1)) F dX6_allBy_43 rfl (by decide) ?_
        refine j_goto (pc' := 48) F dX6_allBy_44 (by decide) ?_
        refine j_iaddN (a := fa_cnt (fun s => decide (¬ P.LS P.on wo s = 0)) ii) (b := 1) F dX6_allBy_48 rfl ?_
        refine j_istore_n (lv' := [some (.ref (X.E.1 + 55)), some (.int (wo)), some (.int (nI ((fa_cnt (fun s => decide (¬ P.LS P.on wo s = 0)) ii) + 1))), some (.int (nI (ii)))]) F dX6_allBy_49 rfl (hL _ (by decide)) rfl rfl ?_
        refine j_iincN (a := ii) (c := 1) (lv' := [some (.ref (X.E.1 + 55)), some (.int (wo)), some (.int (nI ((fa_cnt (fun s => decide (¬ P.LS P.on wo s = 0)) ii) + 1))), some (.int (nI (ii + 1)))]) F dX6_allBy_50 rfl rfl (by decide) (hL _ (by decide)) rfl rfl ?_
        refine j_goto (pc' := 4) F dX6_allBy_53 (by decide) ?_
        refine j_lvq (lv' := [some (.ref (X.E.1 + 55)), some (.int (wo)), some (.int (nI (fa_cnt (fun s => decide (¬ P.LS P.on wo s = 0)) (ii + 1)))), some (.int (nI (ii + 1)))]) (by rw [hnx] <;> rfl) ?_
        exact ih_4 (by omega)
  exact loop_4 0 (by omega)  

set_option maxRecDepth 10000 in
set_option maxHeartbeats 2000000 in
theorem c_X6_wall {l : Launch} {n : Nat} {E : Ev} {σ : St} {A : Ab} (hn : 69 ≤ n) (hA : AI A) (hR : MR σ A) (w x : Int32) : Ct l yX6_wall cX6_wall 3 (some .int) 2 n E [.ref (E.1 + 55), .int (w), .int (x)] σ (oM σ (o_wall A w x)) := by
  refine Ct.of (lv0 := [some (.ref (E.1 + 55)), some (.int (w)), some (.int (x))]) (by decide) (Nat.le_of_ble_eq_true rfl) rfl ?_
  intro X hXn hXE hXl hXL F hRt
  subst hXn hXE hXl
  have hL : ∀ i, i < 3 → i < X.nL := fun i h => by rw [hXL]; exact h
  have hTh := hR.1
  have hM := hR.2.1
  have hG := hA.1
  have hBd := hG.1
  have hWl := hG.2.1
  have hLm := hG.2.2.1
  have hB0 := hBd
  obtain ⟨b1, b2, b3, b4, b5, b6, b7⟩ := hB0
  refine j_aload_n F dX6_wall_0 rfl rfl ?_
  refine j_iconst (v := nI (0)) F dX6_wall_1 rfl (by decide) ?_
  refine pX6_56 hn F dX6_wall_2 rfl ?_
  refine j_store (σ' := σ) (up_id hTh) ?_
  refine j_aload_n F dX6_wall_5 rfl rfl ?_
  refine j_iload_n F dX6_wall_6 rfl rfl ?_
  refine kX6_135 hn F (As := [.int (w)]) (rest := []) (c_X6_isWall hn hM hBd w) (by decide) rfl rfl (Nat.le_of_ble_eq_true rfl) dX6_wall_7 rfl (ro_k ?_)
  refine j_if_eqB F (x := inR w A.P.nw) (tgt := 31) dX6_wall_10 (by decide) rfl (fun c_10 => ?_) (fun c_10 => ?_)
  · have hz : ¬ (inR w A.P.nw = true ∧ ¬ x < 0 ∧ x < nI 4) := fun q => by rw [c_10] at q; exact absurd q.1 (by decide)
    refine j_iconst (v := (-1 : Int32)) F dX6_wall_31 rfl (by decide) ?_
    exact j_iret F hRt rfl (oM_q (if_neg hz) hR FrM.rf) dX6_wall_32
  · refine j_iload_n F dX6_wall_13 rfl rfl ?_
    refine j_iconst (v := nI (0)) F dX6_wall_14 rfl (by decide) ?_
    refine j_iconst (v := nI (3)) F dX6_wall_15 rfl (by decide) ?_
    refine kX6_63 F (As := [.int (x), .int (nI (0)), .int (nI (3))]) (rest := []) (c_X6_in x (nI (0)) (nI (3))) (by decide) rfl rfl (Nat.le_of_ble_eq_true rfl) dX6_wall_16 rfl (ro_k ?_)
    refine j_int (y := bI (decide (¬ x < 0 ∧ x < nI 4))) (congrArg bI (in_lt (k := 3) (by decide))) ?_
    refine j_if_eqB F (x := decide (¬ x < 0 ∧ x < nI 4)) (tgt := 31) dX6_wall_19 (by decide) rfl (fun c_19 => ?_) (fun c_19 => ?_)
    · have hz : ¬ (inR w A.P.nw = true ∧ ¬ x < 0 ∧ x < nI 4) := fun q => of_decide_eq_false c_19 q.2
      refine j_iconst (v := (-1 : Int32)) F dX6_wall_31 rfl (by decide) ?_
      exact j_iret F hRt rfl (oM_q (if_neg hz) hR FrM.rf) dX6_wall_32
    · have hxx := of_decide_eq_true c_19
      have hz : inR w A.P.nw = true ∧ ¬ x < 0 ∧ x < nI 4 := ⟨c_10, hxx⟩
      obtain ⟨j, hj, rfl⟩ := inR_t c_10 (by omega)
      obtain ⟨i, hi, rfl⟩ := rg_lt hxx.1 hxx.2 (by decide)
      refine j_aload_n F dX6_wall_22 rfl rfl ?_
      refine j_iload_n F dX6_wall_23 rfl rfl ?_
      refine j_iload_n F dX6_wall_24 rfl rfl ?_
      refine kX6_138 hn F (As := [.int (nI (j)), .int (nI (i))]) (rest := []) (c_X6_ofWall hn hM hBd j i (by omega) (by omega)) (by decide) rfl rfl (Nat.le_of_ble_eq_true rfl) dX6_wall_25 rfl (ro_k ?_)
      refine j_goto (pc' := 32) F dX6_wall_28 (by decide) ?_
      exact j_iret F hRt rfl (oM_q (by rw [if_pos hz, tn_n (by omega), tn_n (by omega)]) hR FrM.rf) dX6_wall_32

set_option maxRecDepth 10000 in
set_option maxHeartbeats 2000000 in
theorem c_X6_lamp {l : Launch} {n : Nat} {E : Ev} {σ : St} {A : Ab} (hn : 69 ≤ n) (hA : AI A) (hR : MR σ A) (w x : Int32) : Ct l yX6_lamp cX6_lamp 3 (some .int) 2 n E [.ref (E.1 + 55), .int (w), .int (x)] σ (oM σ (o_lamp A w x)) := by
  refine Ct.of (lv0 := [some (.ref (E.1 + 55)), some (.int (w)), some (.int (x))]) (by decide) (Nat.le_of_ble_eq_true rfl) rfl ?_
  intro X hXn hXE hXl hXL F hRt
  subst hXn hXE hXl
  have hL : ∀ i, i < 3 → i < X.nL := fun i h => by rw [hXL]; exact h
  have hTh := hR.1
  have hM := hR.2.1
  have hG := hA.1
  have hBd := hG.1
  have hWl := hG.2.1
  have hLm := hG.2.2.1
  have hB0 := hBd
  obtain ⟨b1, b2, b3, b4, b5, b6, b7⟩ := hB0
  refine j_aload_n F dX6_lamp_0 rfl rfl ?_
  refine j_iconst (v := nI (0)) F dX6_lamp_1 rfl (by decide) ?_
  refine pX6_56 hn F dX6_lamp_2 rfl ?_
  refine j_store (σ' := σ) (up_id hTh) ?_
  refine j_aload_n F dX6_lamp_5 rfl rfl ?_
  refine j_iload_n F dX6_lamp_6 rfl rfl ?_
  refine kX6_141 hn F (As := [.int (w)]) (rest := []) (c_X6_isLamp hn hM hBd w) (by decide) rfl rfl (Nat.le_of_ble_eq_true rfl) dX6_lamp_7 rfl (ro_k ?_)
  refine j_if_eqB F (x := inR w A.P.nl) (tgt := 31) dX6_lamp_10 (by decide) rfl (fun c_10 => ?_) (fun c_10 => ?_)
  · have hz : ¬ (inR w A.P.nl = true ∧ ¬ x < 0 ∧ x < nI 3) := fun q => by rw [c_10] at q; exact absurd q.1 (by decide)
    refine j_iconst (v := (-1 : Int32)) F dX6_lamp_31 rfl (by decide) ?_
    exact j_iret F hRt rfl (oM_q (if_neg hz) hR FrM.rf) dX6_lamp_32
  · refine j_iload_n F dX6_lamp_13 rfl rfl ?_
    refine j_iconst (v := nI (0)) F dX6_lamp_14 rfl (by decide) ?_
    refine j_iconst (v := nI (2)) F dX6_lamp_15 rfl (by decide) ?_
    refine kX6_63 F (As := [.int (x), .int (nI (0)), .int (nI (2))]) (rest := []) (c_X6_in x (nI (0)) (nI (2))) (by decide) rfl rfl (Nat.le_of_ble_eq_true rfl) dX6_lamp_16 rfl (ro_k ?_)
    refine j_int (y := bI (decide (¬ x < 0 ∧ x < nI 3))) (congrArg bI (in_lt (k := 2) (by decide))) ?_
    refine j_if_eqB F (x := decide (¬ x < 0 ∧ x < nI 3)) (tgt := 31) dX6_lamp_19 (by decide) rfl (fun c_19 => ?_) (fun c_19 => ?_)
    · have hz : ¬ (inR w A.P.nl = true ∧ ¬ x < 0 ∧ x < nI 3) := fun q => of_decide_eq_false c_19 q.2
      refine j_iconst (v := (-1 : Int32)) F dX6_lamp_31 rfl (by decide) ?_
      exact j_iret F hRt rfl (oM_q (if_neg hz) hR FrM.rf) dX6_lamp_32
    · have hxx := of_decide_eq_true c_19
      have hz : inR w A.P.nl = true ∧ ¬ x < 0 ∧ x < nI 3 := ⟨c_10, hxx⟩
      obtain ⟨j, hj, rfl⟩ := inR_t c_10 (by omega)
      obtain ⟨i, hi, rfl⟩ := rg_lt hxx.1 hxx.2 (by decide)
      refine j_aload_n F dX6_lamp_22 rfl rfl ?_
      refine j_iload_n F dX6_lamp_23 rfl rfl ?_
      refine j_iload_n F dX6_lamp_24 rfl rfl ?_
      refine kX6_70 hn F (As := [.int (nI (j)), .int (nI (i))]) (rest := []) (c_X6_ofLamp hn hM hBd j i (by omega) (by omega)) (by decide) rfl rfl (Nat.le_of_ble_eq_true rfl) dX6_lamp_25 rfl (ro_k ?_)
      refine j_goto (pc' := 32) F dX6_lamp_28 (by decide) ?_
      exact j_iret F hRt rfl (oM_q (by rw [if_pos hz, tn_n (by omega), tn_n (by omega)]) hR FrM.rf) dX6_lamp_32

set_option maxRecDepth 10000 in
set_option maxHeartbeats 2000000 in
theorem c_X6_count {l : Launch} {n : Nat} {E : Ev} {σ : St} {A : Ab} (hn : 69 ≤ n) (hA : AI A) (hR : MR σ A) (x : Int32) : Ct l yX6_count cX6_count 2 (some .int) 0 n E [.ref (E.1 + 55), .int (x)] σ (oM σ (o_count A x)) := by
  refine Ct.of (lv0 := [some (.ref (E.1 + 55)), some (.int (x))]) (by decide) (Nat.le_of_ble_eq_true rfl) rfl ?_
  intro X hXn hXE hXl hXL F hRt
  subst hXn hXE hXl
  have hL : ∀ i, i < 2 → i < X.nL := fun i h => by rw [hXL]; exact h
  have hTh := hR.1
  have hM := hR.2.1
  have hG := hA.1
  have hBd := hG.1
  have hWl := hG.2.1
  have hLm := hG.2.2.1
  have hB0 := hBd
  obtain ⟨b1, b2, b3, b4, b5, b6, b7⟩ := hB0
  refine j_aload_n F dX6_count_0 rfl rfl ?_
  refine j_iconst (v := nI (0)) F dX6_count_1 rfl (by decide) ?_
  refine pX6_56 hn F dX6_count_2 rfl ?_
  refine j_store (σ' := σ) (up_id hTh) ?_
  refine j_iload_n F dX6_count_5 rfl rfl ?_
  by_cases s0 : x = 0
  · refine j_tableIn F (tgt := 48) (off := 42) dX6_count_6 (by rw [s0]; decide) (by rw [s0]; decide) (by rw [s0]; decide) (by decide) ?_
    refine j_aload_n F dX6_count_48 rfl rfl ?_
    refine gX6_60 hn F dX6_count_49 rfl ?_
    refine j_int (y := nI (A.P.W)) (hM.w) ?_
    exact j_iret F hRt rfl (oM_q (by rw [if_pos s0]) hR FrM.rf) dX6_count_52
  · skip
    by_cases s1 : x = nI 1
    · refine j_tableIn F (tgt := 53) (off := 47) dX6_count_6 (by rw [s1]; decide) (by rw [s1]; decide) (by rw [s1]; decide) (by decide) ?_
      refine j_aload_n F dX6_count_53 rfl rfl ?_
      refine gX6_67 hn F dX6_count_54 rfl ?_
      refine j_int (y := nI (A.P.H)) (hM.h) ?_
      exact j_iret F hRt rfl (oM_q (by rw [if_neg s0, if_pos s1]) hR FrM.rf) dX6_count_57
    · skip
      by_cases s2 : x = nI 2
      · refine j_tableIn F (tgt := 58) (off := 52) dX6_count_6 (by rw [s2]; decide) (by rw [s2]; decide) (by rw [s2]; decide) (by decide) ?_
        refine j_aload_n F dX6_count_58 rfl rfl ?_
        refine gX6_7 hn F dX6_count_59 rfl ?_
        refine j_iconst (v := nI (1)) F dX6_count_62 rfl (by decide) ?_
        refine j_iaload (a := 1) F (by omega) rfl rfl (by omega) (by decide) dX6_count_63 rfl ?_
        refine j_int (y := nI (A.P.nw)) (hM.nw) ?_
        exact j_iret F hRt rfl (oM_q (by rw [if_neg s0, if_neg s1, if_pos s2]) hR FrM.rf) dX6_count_64
      · skip
        by_cases s3 : x = nI 3
        · refine j_tableIn F (tgt := 65) (off := 59) dX6_count_6 (by rw [s3]; decide) (by rw [s3]; decide) (by rw [s3]; decide) (by decide) ?_
          refine j_aload_n F dX6_count_65 rfl rfl ?_
          refine gX6_7 hn F dX6_count_66 rfl ?_
          refine j_iconst (v := nI (0)) F dX6_count_69 rfl (by decide) ?_
          refine j_iaload (a := 0) F (by omega) rfl rfl (by omega) (by decide) dX6_count_70 rfl ?_
          refine j_int (y := nI (A.P.nl)) (hM.nl) ?_
          exact j_iret F hRt rfl (oM_q (by rw [if_neg s0, if_neg s1, if_neg s2, if_pos s3]) hR FrM.rf) dX6_count_71
        · skip
          by_cases s4 : x = nI 4
          · refine j_tableIn F (tgt := 72) (off := 66) dX6_count_6 (by rw [s4]; decide) (by rw [s4]; decide) (by rw [s4]; decide) (by decide) ?_
            refine j_aload_n F dX6_count_72 rfl rfl ?_
            refine gX6_129 hn F dX6_count_73 rfl ?_
            refine j_int (y := nI (A.sn.length)) (hR.2.2.2.2.2.1) ?_
            exact j_iret F hRt rfl (oM_q (by rw [if_neg s0, if_neg s1, if_neg s2, if_neg s3, if_pos s4]) hR FrM.rf) dX6_count_76
          · skip
            by_cases s5 : x = nI 5
            · refine j_tableIn F (tgt := 77) (off := 71) dX6_count_6 (by rw [s5]; decide) (by rw [s5]; decide) (by rw [s5]; decide) (by decide) ?_
              refine j_aload_n F dX6_count_77 rfl rfl ?_
              refine gX6_74 hn F dX6_count_78 rfl ?_
              refine j_int (y := nI (A.m)) (hR.2.2.1.1) ?_
              exact j_iret F hRt rfl (oM_q (by rw [if_neg s0, if_neg s1, if_neg s2, if_neg s3, if_neg s4, if_pos s5]) hR FrM.rf) dX6_count_81
            · skip
              by_cases s6 : x = nI 6
              · refine j_tableIn F (tgt := 82) (off := 76) dX6_count_6 (by rw [s6]; decide) (by rw [s6]; decide) (by rw [s6]; decide) (by decide) ?_
                refine j_aload_n F dX6_count_82 rfl rfl ?_
                refine gX6_126 hn F dX6_count_83 rfl ?_
                refine j_int (y := nI (A.hs.length)) (hR.2.2.2.1.1) ?_
                exact j_iret F hRt rfl (oM_q (by rw [if_neg s0, if_neg s1, if_neg s2, if_neg s3, if_neg s4, if_neg s5, if_pos s6]) hR FrM.rf) dX6_count_86
              · skip
                refine j_tableOut F (tgt := 87) dX6_count_6 (tb_out s0 s1 s2 s3 s4 s5 s6) (by decide) ?_
                refine j_iconst (v := (-1 : Int32)) F dX6_count_87 rfl (by decide) ?_
                exact j_iret F hRt rfl (oM_q (by rw [if_neg s0, if_neg s1, if_neg s2, if_neg s3, if_neg s4, if_neg s5, if_neg s6]) hR FrM.rf) dX6_count_88

set_option maxRecDepth 10000 in
set_option maxHeartbeats 2000000 in
theorem c_X6_forget {l : Launch} {n : Nat} {E : Ev} {σ : St} {A : Ab} (hn : 69 ≤ n) (hA : AI A) (hR : MR σ A) : Ct l yX6_forget cX6_forget 2 (some .int) 0 n E [.ref (E.1 + 55)] σ (oM σ (o_forget A)) := by
  refine Ct.of (lv0 := [some (.ref (E.1 + 55)), none]) (by decide) (Nat.le_of_ble_eq_true rfl) rfl ?_
  intro X hXn hXE hXl hXL F hRt
  subst hXn hXE hXl
  have hL : ∀ i, i < 2 → i < X.nL := fun i h => by rw [hXL]; exact h
  have hTh := hR.1
  have hM := hR.2.1
  have hG := hA.1
  have hBd := hG.1
  have hWl := hG.2.1
  have hLm := hG.2.2.1
  have hB0 := hBd
  obtain ⟨b1, b2, b3, b4, b5, b6, b7⟩ := hB0
  refine j_aload_n F dX6_forget_0 rfl rfl ?_
  refine j_iconst (v := nI (0)) F dX6_forget_1 rfl (by decide) ?_
  refine pX6_56 hn F dX6_forget_2 rfl ?_
  refine j_store (σ' := σ) (up_id hTh) ?_
  refine j_aload_n F dX6_forget_5 rfl rfl ?_
  refine gX6_129 hn F dX6_forget_6 rfl ?_
  refine j_int (y := nI (A.sn.length)) (hR.2.2.2.2.2.1) ?_
  refine j_istore_n (lv' := [some (.ref (X.E.1 + 55)), some (.int (nI (A.sn.length)))]) F dX6_forget_9 rfl (hL _ (by decide)) rfl rfl ?_
  refine j_aload_n F dX6_forget_10 rfl rfl ?_
  refine j_iconst (v := nI (0)) F dX6_forget_11 rfl (by decide) ?_
  refine pX6_129 hn F dX6_forget_12 rfl ?_
  refine j_iload_n F dX6_forget_15 rfl rfl ?_
  exact j_iret F hRt rfl (oM_e rfl (MR_S (sn' := []) hR (fun i hi => by rw [show up σ 55 8 (nI 0) 55 = upd (σ 55) 8 (nI 0) from upR_s _ _ _]; exact upd_n _ _ hi) (fun a ha _ _ _ => upR_n _ _ ha) ⟨by simp [up, upR, upd], fun i h => absurd h (Nat.not_lt_zero i)⟩) (FrM.put FrM.rf (by decide))) dX6_forget_16

set_option maxRecDepth 10000 in
set_option maxHeartbeats 2000000 in
theorem c_X6_clear {l : Launch} {n : Nat} {E : Ev} {σ : St} {A : Ab} (hn : 69 ≤ n) (hA : AI A) (hR : MR σ A) : Ct l yX6_clear cX6_clear 2 (some .int) 0 n E [.ref (E.1 + 55)] σ (oM σ (o_clear A)) := by
  refine Ct.of (lv0 := [some (.ref (E.1 + 55)), none]) (by decide) (Nat.le_of_ble_eq_true rfl) rfl ?_
  intro X hXn hXE hXl hXL F hRt
  subst hXn hXE hXl
  have hL : ∀ i, i < 2 → i < X.nL := fun i h => by rw [hXL]; exact h
  have hTh := hR.1
  have hM := hR.2.1
  have hG := hA.1
  have hBd := hG.1
  have hWl := hG.2.1
  have hLm := hG.2.2.1
  have hB0 := hBd
  obtain ⟨b1, b2, b3, b4, b5, b6, b7⟩ := hB0
  refine j_aload_n F dX6_clear_0 rfl rfl ?_
  refine j_iconst (v := nI (0)) F dX6_clear_1 rfl (by decide) ?_
  refine pX6_56 hn F dX6_clear_2 rfl ?_
  refine j_store (σ' := σ) (up_id hTh) ?_
  refine j_aload_n F dX6_clear_5 rfl rfl ?_
  refine gX6_74 hn F dX6_clear_6 rfl ?_
  refine j_int (y := nI (A.m)) (hR.2.2.1.1) ?_
  refine j_istore_n (lv' := [some (.ref (X.E.1 + 55)), some (.int (nI (A.m)))]) F dX6_clear_9 rfl (hL _ (by decide)) rfl rfl ?_
  refine j_aload_n F dX6_clear_10 rfl rfl ?_
  refine j_iconst (v := nI (0)) F dX6_clear_11 rfl (by decide) ?_
  refine pX6_74 hn F dX6_clear_12 rfl ?_
  refine j_iload_n F dX6_clear_15 rfl rfl ?_
  exact j_iret F hRt rfl (oM_e rfl (MR_T (t' := A.t) (m' := 0) hR (fun i hi => by rw [show up σ 55 12 (nI 0) 55 = upd (σ 55) 12 (nI 0) from upR_s _ _ _]; exact upd_n _ _ hi) (fun a ha _ => upR_n _ _ ha) ⟨by simp [up, upR, upd], Nat.zero_le _, fun i h => absurd h (Nat.not_lt_zero i)⟩) (FrM.put FrM.rf (by decide))) dX6_clear_16

set_option maxRecDepth 10000 in
set_option maxHeartbeats 2000000 in
theorem c_X6_type {l : Launch} {n : Nat} {E : Ev} {σ : St} {A : Ab} (hn : 69 ≤ n) (hA : AI A) (hR : MR σ A) (x : Int32) : Ct l yX6_type cX6_type 2 (some .int) 1 n E [.ref (E.1 + 55), .int (x)] σ (oM σ (o_type A x)) := by
  refine Ct.of (lv0 := [some (.ref (E.1 + 55)), some (.int (x))]) (by decide) (Nat.le_of_ble_eq_true rfl) rfl ?_
  intro X hXn hXE hXl hXL F hRt
  subst hXn hXE hXl
  have hL : ∀ i, i < 2 → i < X.nL := fun i h => by rw [hXL]; exact h
  have hTh := hR.1
  have hM := hR.2.1
  have hG := hA.1
  have hBd := hG.1
  have hWl := hG.2.1
  have hLm := hG.2.2.1
  have hB0 := hBd
  obtain ⟨b1, b2, b3, b4, b5, b6, b7⟩ := hB0
  refine j_aload_n F dX6_type_0 rfl rfl ?_
  refine j_iconst (v := nI (0)) F dX6_type_1 rfl (by decide) ?_
  refine pX6_56 hn F dX6_type_2 rfl ?_
  refine j_store (σ' := σ) (up_id hTh) ?_
  refine j_iload_n F dX6_type_5 rfl rfl ?_
  refine j_iconst (v := nI (0)) F dX6_type_6 rfl (by decide) ?_
  refine j_sipush (v := nI (255)) F dX6_type_7 rfl (by decide) ?_
  refine kX6_63 F (As := [.int (x), .int (nI (0)), .int (nI (255))]) (rest := []) (c_X6_in x (nI (0)) (nI (255))) (by decide) rfl rfl (Nat.le_of_ble_eq_true rfl) dX6_type_10 rfl (ro_k ?_)
  refine j_int (y := bI (decide (¬ x < 0 ∧ x ≤ nI 255))) (congrArg bI (in_k (by decide))) ?_
  refine j_if_neB F (x := decide (¬ x < 0 ∧ x ≤ nI 255)) (tgt := 18) dX6_type_13 (by decide) rfl (fun c_13 => ?_) (fun c_13 => ?_)
  · have hxx := of_decide_eq_true c_13
    obtain ⟨j, hj, rfl⟩ := rg_le hxx.1 hxx.2 (by decide)
    have hz : ¬ (nI j < 0 ∨ ¬ nI j ≤ nI 255) := fun q => q.elim hxx.1 (fun r => r hxx.2)
    have hm := hR.2.2.1.2.1
    refine j_aload_n F dX6_type_18 rfl rfl ?_
    refine gX6_74 hn F dX6_type_19 rfl ?_
    refine j_int (y := nI (A.m)) (hR.2.2.1.1) ?_
    refine j_bipush (v := nI (120)) F dX6_type_22 rfl (by decide) ?_
    refine j_icmp_neN (a := A.m) (b := 120) F (by omega) (by omega) (tgt := 30) dX6_type_24 (by decide) rfl (fun c_24 => ?_) (fun c_24 => ?_)
    · refine j_aload_n F dX6_type_30 rfl rfl ?_
      refine gX6_32 hn F dX6_type_31 rfl ?_
      refine j_aload_n F dX6_type_34 rfl rfl ?_
      refine gX6_74 hn F dX6_type_35 rfl ?_
      refine j_int (y := nI (A.m)) (hR.2.2.1.1) ?_
      refine j_iload_n F dX6_type_38 rfl rfl ?_
      refine j_iastore (a := A.m) F (by omega) rfl rfl (by omega) (by decide) dX6_type_39 rfl ?_
      refine j_aload_n F dX6_type_40 rfl rfl ?_
      refine j_dup F dX6_type_41 rfl rfl ?_
      refine gX6_74 hn F dX6_type_42 rfl ?_
      refine j_int (y := nI (A.m)) (by rw [show up σ 63 A.m (nI j) 55 = σ 55 from upR_n _ _ (by decide)]; exact hR.2.2.1.1) ?_
      refine j_iconst (v := nI (1)) F dX6_type_45 rfl (by decide) ?_
      refine j_iaddN (a := A.m) (b := 1) F dX6_type_46 rfl ?_
      refine pX6_74 hn F dX6_type_47 rfl ?_
      refine j_aload_n F dX6_type_50 rfl rfl ?_
      refine gX6_74 hn F dX6_type_51 rfl ?_
      refine j_int (y := nI (A.m + 1)) (by simp only [up, upR_s, upd_s]) ?_
      exact j_iret F hRt rfl (oM_e (show o_type A (nI j) = (nI (A.m + 1), _) by unfold o_type; rw [if_neg hz, if_neg (by omega), tn_n (by omega)]) (MR_T hR (ty_55 _ _ _ _) (ty_n _ _ _ _) (ty_tx hR.2.2.1 (by omega) (by omega))) (FrM.put (FrM.put FrM.rf (by decide)) (by decide))) dX6_type_54
    · refine j_bipush (v := (-3 : Int32)) F dX6_type_27 rfl (by decide) ?_
      exact j_iret F hRt rfl (oM_e (show o_type A (nI j) = (-3, A) by unfold o_type; rw [if_neg hz, if_pos (by omega)]) hR FrM.rf) dX6_type_29
  · have hz : x < 0 ∨ ¬ x ≤ nI 255 := by have q := of_decide_eq_false c_13; by_cases r : x < 0; exact Or.inl r; exact Or.inr (fun s => q ⟨r, s⟩)
    refine j_iconst (v := (-1 : Int32)) F dX6_type_16 rfl (by decide) ?_
    exact j_iret F hRt rfl (oM_e (if_pos hz) hR FrM.rf) dX6_type_17

set_option maxRecDepth 10000 in
set_option maxHeartbeats 2000000 in
theorem c_X6_lit {l : Launch} {n : Nat} {E : Ev} {σ : St} {A : Ab} (hn : 69 ≤ n) (hA : AI A) (hR : MR σ A) (l0 x y : Int32) : Ct l yX6_lit cX6_lit 4 (some .int) 4 n E [.ref (E.1 + 55), .int (l0), .int (x), .int (y)] σ (oM σ (o_lit A l0 x y)) := by
  refine Ct.of (lv0 := [some (.ref (E.1 + 55)), some (.int (l0)), some (.int (x)), some (.int (y))]) (by decide) (Nat.le_of_ble_eq_true rfl) rfl ?_
  intro X hXn hXE hXl hXL F hRt
  subst hXn hXE hXl
  have hL : ∀ i, i < 4 → i < X.nL := fun i h => by rw [hXL]; exact h
  have hTh := hR.1
  have hM := hR.2.1
  have hG := hA.1
  have hBd := hG.1
  have hWl := hG.2.1
  have hLm := hG.2.2.1
  have hB0 := hBd
  obtain ⟨b1, b2, b3, b4, b5, b6, b7⟩ := hB0
  refine j_aload_n F dX6_lit_0 rfl rfl ?_
  refine j_iconst (v := nI (0)) F dX6_lit_1 rfl (by decide) ?_
  refine pX6_56 hn F dX6_lit_2 rfl ?_
  refine j_store (σ' := σ) (up_id hTh) ?_
  refine j_aload_n F dX6_lit_5 rfl rfl ?_
  refine j_iload_n F dX6_lit_6 rfl rfl ?_
  refine kX6_141 hn F (As := [.int (l0)]) (rest := []) (c_X6_isLamp hn hM hBd l0) (by decide) rfl rfl (Nat.le_of_ble_eq_true rfl) dX6_lit_7 rfl (ro_k ?_)
  refine j_if_eqB F (x := inR l0 A.P.nl) (tgt := 22) dX6_lit_10 (by decide) rfl (fun c_10 => ?_) (fun c_10 => ?_)
  · have hz : ¬ (inR l0 A.P.nl = true ∧ (inR x A.P.W && inR y A.P.H) = true) := fun q => by rw [c_10] at q; exact absurd q.1 (by decide)
    refine j_iconst (v := (-1 : Int32)) F dX6_lit_22 rfl (by decide) ?_
    exact j_iret F hRt rfl (oM_q (if_neg hz) hR FrM.rf) dX6_lit_23
  · refine j_aload_n F dX6_lit_13 rfl rfl ?_
    refine j_iload_n F dX6_lit_14 rfl rfl ?_
    refine j_iload_n F dX6_lit_15 rfl rfl ?_
    refine kX6_163 hn F (As := [.int (x), .int (y)]) (rest := []) (c_X6_isSpot hn hM hBd x y) (by decide) rfl rfl (Nat.le_of_ble_eq_true rfl) dX6_lit_16 rfl (ro_k ?_)
    refine j_if_neB F (x := inR x A.P.W && inR y A.P.H) (tgt := 24) dX6_lit_19 (by decide) rfl (fun c_19 => ?_) (fun c_19 => ?_)
    · have hz : inR l0 A.P.nl = true ∧ (inR x A.P.W && inR y A.P.H) = true := ⟨c_10, c_19⟩
      obtain ⟨hsx, hsy⟩ := and_t c_19
      obtain ⟨k, hk, rfl⟩ := inR_t c_10 (by omega)
      obtain ⟨j, hj, rfl⟩ := inR_t hsx (by omega)
      obtain ⟨i, hi, rfl⟩ := inR_t hsy (by omega)
      refine j_aload_n F dX6_lit_24 rfl rfl ?_
      refine j_iload_n F dX6_lit_25 rfl rfl ?_
      refine j_iload_n F dX6_lit_26 rfl rfl ?_
      refine j_iload_n F dX6_lit_27 rfl rfl ?_
      refine j_bipush (v := (-9 : Int32)) F dX6_lit_28 rfl (by decide) ?_
      refine kX6_151 hn F (As := [.int (nI (k)), .int (nI (j)), .int (nI (i)), .int ((-9 : Int32))]) (rest := []) (c_X6_isLitBy hn hM hBd hWl hLm k j i ((-9 : Int32)) (by omega) (by omega) (by omega)) (by decide) rfl rfl (Nat.le_of_ble_eq_true rfl) dX6_lit_30 rfl (ro_k ?_)
      refine j_if_eqB F (x := A.P.free (A.P.lp k 0) (A.P.lp k 1) j i ((-9 : Int32))) (tgt := 40) dX6_lit_33 (by decide) rfl (fun c_33 => ?_) (fun c_33 => ?_)
      · refine j_iconst (v := nI (0)) F dX6_lit_40 rfl (by decide) ?_
        exact j_iret F hRt rfl (oM_q (by rw [if_pos hz, tn_n (by omega), tn_n (by omega), tn_n (by omega), c_33]; rfl) hR FrM.rf) dX6_lit_41
      · refine j_iconst (v := nI (1)) F dX6_lit_36 rfl (by decide) ?_
        refine j_goto (pc' := 41) F dX6_lit_37 (by decide) ?_
        exact j_iret F hRt rfl (oM_q (by rw [if_pos hz, tn_n (by omega), tn_n (by omega), tn_n (by omega), c_33]; rfl) hR FrM.rf) dX6_lit_41
    · have hz : ¬ (inR l0 A.P.nl = true ∧ (inR x A.P.W && inR y A.P.H) = true) := fun q => by rw [c_19] at q; exact absurd q.2 (by decide)
      refine j_iconst (v := (-1 : Int32)) F dX6_lit_22 rfl (by decide) ?_
      exact j_iret F hRt rfl (oM_q (if_neg hz) hR FrM.rf) dX6_lit_23

set_option maxRecDepth 10000 in
set_option maxHeartbeats 2000000 in
theorem c_X6_by {l : Launch} {n : Nat} {E : Ev} {σ : St} {A : Ab} (hn : 69 ≤ n) (hA : AI A) (hR : MR σ A) (x y : Int32) : Ct l yX6_by cX6_by 3 (some .int) 5 n E [.ref (E.1 + 55), .int (x), .int (y)] σ (oM σ (o_by A x y)) := by
  refine Ct.of (lv0 := [some (.ref (E.1 + 55)), some (.int (x)), some (.int (y))]) (by decide) (Nat.le_of_ble_eq_true rfl) rfl ?_
  intro X hXn hXE hXl hXL F hRt
  subst hXn hXE hXl
  have hL : ∀ i, i < 3 → i < X.nL := fun i h => by rw [hXL]; exact h
  have hTh := hR.1
  have hM := hR.2.1
  have hG := hA.1
  have hBd := hG.1
  have hWl := hG.2.1
  have hLm := hG.2.2.1
  have hB0 := hBd
  obtain ⟨b1, b2, b3, b4, b5, b6, b7⟩ := hB0
  refine j_aload_n F dX6_by_0 rfl rfl ?_
  refine j_iconst (v := nI (0)) F dX6_by_1 rfl (by decide) ?_
  refine pX6_56 hn F dX6_by_2 rfl ?_
  refine j_store (σ' := σ) (up_id hTh) ?_
  refine j_aload_n F dX6_by_5 rfl rfl ?_
  refine j_iload_n F dX6_by_6 rfl rfl ?_
  refine j_iload_n F dX6_by_7 rfl rfl ?_
  refine kX6_163 hn F (As := [.int (x), .int (y)]) (rest := []) (c_X6_isSpot hn hM hBd x y) (by decide) rfl rfl (Nat.le_of_ble_eq_true rfl) dX6_by_8 rfl (ro_k ?_)
  refine j_if_eqB F (x := inR x A.P.W && inR y A.P.H) (tgt := 30) dX6_by_11 (by decide) rfl (fun c_11 => ?_) (fun c_11 => ?_)
  · have hz : ¬ (inR x A.P.W && inR y A.P.H) = true := by rw [c_11]; decide
    refine j_iconst (v := (-1 : Int32)) F dX6_by_30 rfl (by decide) ?_
    exact j_iret F hRt rfl (oM_q (if_neg hz) hR FrM.rf) dX6_by_31
  · have hz := c_11
    obtain ⟨hsx, hsy⟩ := and_t c_11
    obtain ⟨j, hj, rfl⟩ := inR_t hsx (by omega)
    obtain ⟨i, hi, rfl⟩ := inR_t hsy (by omega)
    refine j_aload_n F dX6_by_14 rfl rfl ?_
    refine j_iload_n F dX6_by_15 rfl rfl ?_
    refine j_iload_n F dX6_by_16 rfl rfl ?_
    refine j_bipush (v := (-9 : Int32)) F dX6_by_17 rfl (by decide) ?_
    refine kX6_155 hn F (As := [.int (nI (j)), .int (nI (i)), .int ((-9 : Int32))]) (rest := []) (c_X6_lampsOf hn hM hBd hWl hLm j i ((-9 : Int32)) (by omega) (by omega)) (by decide) rfl rfl (Nat.le_of_ble_eq_true rfl) dX6_by_19 rfl (ro_k ?_)
    refine j_aload_n F dX6_by_22 rfl rfl ?_
    refine kX6_159 hn F (As := []) (rest := [.int (nI (A.P.LM j i ((-9 : Int32))))]) (c_X6_on hn hM hBd hLm) (by decide) rfl rfl (Nat.le_of_ble_eq_true rfl) dX6_by_23 rfl (ro_k ?_)
    refine j_iand F dX6_by_26 rfl ?_
    refine j_int (y := nI (A.P.LA j i A.P.on (-9))) (LM_on) ?_
    refine j_goto (pc' := 31) F dX6_by_27 (by decide) ?_
    exact j_iret F hRt rfl (oM_q (by rw [if_pos hz, tn_n (by omega), tn_n (by omega)]) hR FrM.rf) dX6_by_31

set_option maxRecDepth 10000 in
set_option maxHeartbeats 2000000 in
theorem c_X6_lights {l : Launch} {n : Nat} {E : Ev} {σ : St} {A : Ab} (hn : 69 ≤ n) (hA : AI A) (hR : MR σ A) (x : Int32) : Ct l yX6_lights cX6_lights 4 (some .int) 4 n E [.ref (E.1 + 55), .int (x)] σ (oM σ (o_lights A x)) := by
  refine Ct.of (lv0 := [some (.ref (E.1 + 55)), some (.int (x)), none, none]) (by decide) (Nat.le_of_ble_eq_true rfl) rfl ?_
  intro X hXn hXE hXl hXL F hRt
  subst hXn hXE hXl
  have hL : ∀ i, i < 4 → i < X.nL := fun i h => by rw [hXL]; exact h
  have hTh := hR.1
  have hM := hR.2.1
  have hG := hA.1
  have hBd := hG.1
  have hWl := hG.2.1
  have hLm := hG.2.2.1
  have hB0 := hBd
  obtain ⟨b1, b2, b3, b4, b5, b6, b7⟩ := hB0
  have har := ar_le b2 b4
  refine j_aload_n F dX6_lights_0 rfl rfl ?_
  refine j_iconst (v := nI (0)) F dX6_lights_1 rfl (by decide) ?_
  refine pX6_56 hn F dX6_lights_2 rfl ?_
  refine j_store (σ' := σ) (up_id hTh) ?_
  refine j_aload_n F dX6_lights_5 rfl rfl ?_
  refine j_iload_n F dX6_lights_6 rfl rfl ?_
  refine kX6_141 hn F (As := [.int (x)]) (rest := []) (c_X6_isLamp hn hM hBd x) (by decide) rfl rfl (Nat.le_of_ble_eq_true rfl) dX6_lights_7 rfl (ro_k ?_)
  refine j_if_neB F (x := inR x A.P.nl) (tgt := 15) dX6_lights_10 (by decide) rfl (fun c_10 => ?_) (fun c_10 => ?_)
  · have hz := c_10
    obtain ⟨j, hj, rfl⟩ := inR_t c_10 (by omega)
    refine j_iconst (v := nI (0)) F dX6_lights_15 rfl (by decide) ?_
    refine j_istore_n (lv' := [some (.ref (X.E.1 + 55)), some (.int (nI (j))), some (.int (nI (0))), none]) F dX6_lights_16 rfl (hL _ (by decide)) rfl rfl ?_
    refine j_iconst (v := nI (0)) F dX6_lights_17 rfl (by decide) ?_
    refine j_istore_n (lv' := [some (.ref (X.E.1 + 55)), some (.int (nI (j))), some (.int (nI (0))), some (.int (nI (0)))]) F dX6_lights_18 rfl (hL _ (by decide)) rfl rfl ?_
    have loop_19 : ∀ (ii : Nat), ii ≤ (A.P.W * A.P.H) → J X 19 [some (.ref (X.E.1 + 55)), some (.int (nI (j))), some (.int (nI (fa_cnt (fun s => A.P.free (A.P.lp j 0) (A.P.lp j 1) (s % A.P.W) (s / A.P.W) (-9)) ii))), some (.int (nI (ii)))] [] σ := by
      refine dnL (fun ii hii ih_19 => ?_)
      have hci := fa_cnt_le (fun s => A.P.free (A.P.lp j 0) (A.P.lp j 1) (s % A.P.W) (s / A.P.W) (-9)) ii
      refine j_iload_n F dX6_lights_19 rfl rfl ?_
      refine j_aload_n F dX6_lights_20 rfl rfl ?_
      refine gX6_60 hn F dX6_lights_21 rfl ?_
      refine j_int (y := nI (A.P.W)) (hM.w) ?_
      refine j_aload_n F dX6_lights_24 rfl rfl ?_
      refine gX6_67 hn F dX6_lights_25 rfl ?_
      refine j_int (y := nI (A.P.H)) (hM.h) ?_
      refine j_imulN (a := A.P.W) (b := A.P.H) F dX6_lights_28 rfl ?_
      refine j_icmp_geN (a := ii) (b := A.P.W * A.P.H) F (by omega) (by omega) (tgt := 68) dX6_lights_29 (by decide) rfl (fun c_29 => ?_) (fun c_29 => ?_)
      · have hiN : ii = A.P.W * A.P.H := by omega
        refine j_iload_n F dX6_lights_68 rfl rfl ?_
        exact j_iret F hRt rfl (oM_q (by rw [if_pos hz, tn_n (by omega), hiN]; exact congrArg nI (fa_cnt_c _ (fun s _ => LA_pow hj))) hR FrM.rf) dX6_lights_69
      · have hd1 : ii % A.P.W < A.P.W := Nat.mod_lt _ (by omega)
        have hd2 : ii / A.P.W < A.P.H := Nat.div_lt_of_lt_mul c_29
        refine j_iload_n F dX6_lights_32 rfl rfl ?_
        refine j_aload_n F dX6_lights_33 rfl rfl ?_
        refine j_iload_n F dX6_lights_34 rfl rfl ?_
        refine j_iload_n F dX6_lights_35 rfl rfl ?_
        refine j_aload_n F dX6_lights_36 rfl rfl ?_
        refine gX6_60 hn F dX6_lights_37 rfl ?_
        refine j_int (y := nI (A.P.W)) (hM.w) ?_
        refine j_iremN (a := ii) (b := A.P.W) F (by omega) (by omega) (by omega) dX6_lights_40 rfl ?_
        refine j_iload_n F dX6_lights_41 rfl rfl ?_
        refine j_aload_n F dX6_lights_42 rfl rfl ?_
        refine gX6_60 hn F dX6_lights_43 rfl ?_
        refine j_int (y := nI (A.P.W)) (hM.w) ?_
        refine j_idivN (a := ii) (b := A.P.W) F (by omega) (by omega) (by omega) dX6_lights_46 rfl ?_
        refine j_bipush (v := (-9 : Int32)) F dX6_lights_47 rfl (by decide) ?_
        refine kX6_151 hn F (As := [.int (nI (j)), .int (nI (ii % A.P.W)), .int (nI (ii / A.P.W)), .int ((-9 : Int32))]) (rest := [.int (nI (fa_cnt (fun s => A.P.free (A.P.lp j 0) (A.P.lp j 1) (s % A.P.W) (s / A.P.W) (-9)) ii))]) (c_X6_isLitBy hn hM hBd hWl hLm j (ii % A.P.W) (ii / A.P.W) ((-9 : Int32)) (by omega) (by omega) (by omega)) (by decide) rfl rfl (Nat.le_of_ble_eq_true rfl) dX6_lights_49 rfl (ro_k ?_)
        refine j_if_eqB F (x := A.P.free (A.P.lp j 0) (A.P.lp j 1) (ii % A.P.W) (ii / A.P.W) ((-9 : Int32))) (tgt := 59) dX6_lights_52 (by decide) rfl (fun c_52 => ?_) (fun c_52 => ?_)
        · have hnx := fa_cnt_no (p := (fun s => A.P.free (A.P.lp j 0) (A.P.lp j 1) (s % A.P.W) (s / A.P.W) (-9))) (n := ii) c_52
          refine j_iconst (v := nI (0)) F dX6_lights_59 rfl (by decide) ?_
          refine j_iaddN (a := fa_cnt (fun s => A.P.free (A.P.lp j 0) (A.P.lp j 1) (s % A.P.W) (s / A.P.W) (-9)) ii) (b := 0) F dX6_lights_60 rfl ?_
          refine j_istore_n (lv' := [some (.ref (X.E.1 + 55)), some (.int (nI (j))), some (.int (nI ((fa_cnt (fun s => A.P.free (A.P.lp j 0) (A.P.lp j 1) (s % A.P.W) (s / A.P.W) (-9)) ii) + 0))), some (.int (nI (ii)))]) F dX6_lights_61 rfl (hL _ (by decide)) rfl rfl ?_
          refine j_iincN (a := ii) (c := 1) (lv' := [some (.ref (X.E.1 + 55)), some (.int (nI (j))), some (.int (nI ((fa_cnt (fun s => A.P.free (A.P.lp j 0) (A.P.lp j 1) (s % A.P.W) (s / A.P.W) (-9)) ii) + 0))), some (.int (nI (ii + 1)))]) F dX6_lights_62 rfl rfl (by decide) (hL _ (by decide)) rfl rfl ?_
          refine j_goto (pc' := 19) F dX6_lights_65 (by decide) ?_
          refine j_lvq (lv' := [some (.ref (X.E.1 + 55)), some (.int (nI (j))), some (.int (nI (fa_cnt (fun s => A.P.free (A.P.lp j 0) (A.P.lp j 1) (s % A.P.W) (s / A.P.W) (-9)) (ii + 1)))), some (.int (nI (ii + 1)))]) (by rw [hnx] <;> rfl) ?_
          exact ih_19 (by omega)
        · have hnx := fa_cnt_yes (p := (fun s => A.P.free (A.P.lp j 0) (A.P.lp j 1) (s % A.P.W) (s / A.P.W) (-9))) (n := ii) c_52
          refine j_iconst (v := nI (1)) F dX6_lights_55 rfl (by decide) ?_
          refine j_goto (pc' := 60) F dX6_lights_56 (by decide) ?_
          refine j_iaddN (a := fa_cnt (fun s => A.P.free (A.P.lp j 0) (A.P.lp j 1) (s % A.P.W) (s / A.P.W) (-9)) ii) (b := 1) F dX6_lights_60 rfl ?_
          refine j_istore_n (lv' := [some (.ref (X.E.1 + 55)), some (.int (nI (j))), some (.int (nI ((fa_cnt (fun s => A.P.free (A.P.lp j 0) (A.P.lp j 1) (s % A.P.W) (s / A.P.W) (-9)) ii) + 1))), some (.int (nI (ii)))]) F dX6_lights_61 rfl (hL _ (by decide)) rfl rfl ?_
          refine j_iincN (a := ii) (c := 1) (lv' := [some (.ref (X.E.1 + 55)), some (.int (nI (j))), some (.int (nI ((fa_cnt (fun s => A.P.free (A.P.lp j 0) (A.P.lp j 1) (s % A.P.W) (s / A.P.W) (-9)) ii) + 1))), some (.int (nI (ii + 1)))]) F dX6_lights_62 rfl rfl (by decide) (hL _ (by decide)) rfl rfl ?_
          refine j_goto (pc' := 19) F dX6_lights_65 (by decide) ?_
          refine j_lvq (lv' := [some (.ref (X.E.1 + 55)), some (.int (nI (j))), some (.int (nI (fa_cnt (fun s => A.P.free (A.P.lp j 0) (A.P.lp j 1) (s % A.P.W) (s / A.P.W) (-9)) (ii + 1)))), some (.int (nI (ii + 1)))]) (by rw [hnx] <;> rfl) ?_
          exact ih_19 (by omega)
    exact loop_19 0 (by omega)  
  · have hz : ¬ inR x A.P.nl = true := by rw [c_10]; decide
    refine j_iconst (v := (-1 : Int32)) F dX6_lights_13 rfl (by decide) ?_
    exact j_iret F hRt rfl (oM_q (if_neg hz) hR FrM.rf) dX6_lights_14

set_option maxRecDepth 10000 in
set_option maxHeartbeats 2000000 in
theorem c_X6_all {l : Launch} {n : Nat} {E : Ev} {σ : St} {A : Ab} (hn : 69 ≤ n) (hA : AI A) (hR : MR σ A) : Ct l yX6_all cX6_all 1 (some .int) 6 n E [.ref (E.1 + 55)] σ (oM σ (o_all A)) := by
  refine Ct.of (lv0 := [some (.ref (E.1 + 55))]) (by decide) (Nat.le_of_ble_eq_true rfl) rfl ?_
  intro X hXn hXE hXl hXL F hRt
  subst hXn hXE hXl
  have hL : ∀ i, i < 1 → i < X.nL := fun i h => by rw [hXL]; exact h
  have hTh := hR.1
  have hM := hR.2.1
  have hG := hA.1
  have hBd := hG.1
  have hWl := hG.2.1
  have hLm := hG.2.2.1
  have hB0 := hBd
  obtain ⟨b1, b2, b3, b4, b5, b6, b7⟩ := hB0
  refine j_aload_n F dX6_all_0 rfl rfl ?_
  refine j_iconst (v := nI (0)) F dX6_all_1 rfl (by decide) ?_
  refine pX6_56 hn F dX6_all_2 rfl ?_
  refine j_store (σ' := σ) (up_id hTh) ?_
  refine j_aload_n F dX6_all_5 rfl rfl ?_
  refine j_bipush (v := (-9 : Int32)) F dX6_all_6 rfl (by decide) ?_
  refine kX6_166 hn F (As := [.int ((-9 : Int32))]) (rest := []) (c_X6_allBy hn hM hBd hWl hLm ((-9 : Int32))) (by decide) rfl rfl (Nat.le_of_ble_eq_true rfl) dX6_all_8 rfl (ro_k ?_)
  exact j_iret F hRt rfl (oM_e rfl hR FrM.rf) dX6_all_11
