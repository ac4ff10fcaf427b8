/-! ===== sectors: turns, and the wall that is met ===== -/
theorem getD_mem {E : List Dr} {i : Nat} (h : i < E.length) : E.getD i (0, 0) ∈ E := by
  rw [List.getD_eq_getElem?_getD, List.getElem?_eq_getElem h]
  exact List.getElem_mem h
theorem mem_getD {E : List Dr} {e : Dr} (h : e ∈ E) : ∃ i, i < E.length ∧ E.getD i (0, 0) = e := by
  obtain ⟨i, hi, he⟩ := List.mem_iff_getElem.mp h
  refine ⟨i, hi, ?_⟩
  rw [List.getD_eq_getElem?_getD, List.getElem?_eq_getElem hi]
  exact he
theorem Srt_get : ∀ {E : List Dr} {i k : Nat}, Srt E → i < k → k < E.length → ahd (E.getD i (0, 0)) (E.getD k (0, 0)) = true
  | [], _, _, _, _, h => absurd h (Nat.not_lt_zero _)
  | e :: r, 0, 0, _, h, _ => absurd h (Nat.lt_irrefl 0)
  | e :: r, 0, k + 1, hs, _, h => hs.2.1 _ (getD_mem (E := r) (i := k) (by simpa using h))
  | e :: r, i + 1, 0, _, h, _ => absurd h (Nat.not_lt_zero _)
  | e :: r, i + 1, k + 1, hs, h, h2 => Srt_get (E := r) (i := i) (k := k) hs.2.2 (by omega) (by simpa using h2)
theorem td_pos {a : Int} {g : Nat} (ha : 0 < a) (hn : ¬ a.tdiv (g : Int) = 0) : 0 < a.tdiv (g : Int) := by
  have : 0 ≤ a.tdiv (g : Int) := Int.tdiv_nonneg (by omega) (by omega)
  omega
theorem td_neg {a : Int} {g : Nat} (ha : a < 0) (hn : ¬ a.tdiv (g : Int) = 0) : a.tdiv (g : Int) < 0 := by
  have h1 : 0 ≤ (-a).tdiv (g : Int) := Int.tdiv_nonneg (by omega) (by omega)
  rw [Int.neg_tdiv] at h1
  omega
theorem dir_s (lx ly x y : Nat) : (lx < x → 0 < (dirP lx ly x y).1) ∧ (x ≤ lx → (dirP lx ly x y).1 < 0) ∧ (ly < y → 0 < (dirP lx ly x y).2) ∧ (y ≤ ly → (dirP lx ly x y).2 < 0) := by
  obtain ⟨h1, h2, -⟩ := dirP_Rd lx ly x y
  exact ⟨fun h => td_pos (by omega) h1, fun h => td_neg (by omega) h1, fun h => td_pos (by omega) h2, fun h => td_neg (by omega) h2⟩
theorem corner {P : Pl} (hG : PG P) (l : Nat) {x y : Nat} (hx : x = 0 ∨ x = P.W) (hy : y = 0 ∨ y = P.H) : dirP (P.lp l 0) (P.lp l 1) x y ∈ P.EC l := by
  obtain ⟨⟨a00, a01, a02, a03⟩, -, ⟨a20, a21, a22, a23⟩, -⟩ := hG.2.2.2
  have b5 := hG.1.2.2.2.2.1
  rw [EC_mem]
  refine ⟨x, y, by omega, by omega, Or.inl ?_, rfl⟩
  rcases hy with rfl | rfl
  · refine ⟨0, by omega, Or.inr ⟨by omega, a01.symm, ?_⟩⟩
    rw [a00, a02]
    omega
  · refine ⟨2, by omega, Or.inr ⟨by omega, a21.symm, ?_⟩⟩
    rw [a20, a22]
    omega
theorem sub_p {a b : Int} (h1 : 0 < a) (h2 : b < 0) : 0 < a - b := by omega
theorem EC_trn {P : Pl} (hG : PG P) {l k : Nat} (hl : l < P.nl) (hk : k < (P.EC l).length) : 0 < trn (P.EC l) k := by
  obtain ⟨o1, o2, -⟩ := hG.2.2.1 l hl
  have hS := (EC_ok P l).1
  have hR : ∀ i, i < (P.EC l).length → Rd ((P.EC l).getD i (0, 0)) := fun i hi => Srt_mem hS (getD_mem hi)
  have hb := hG.1
  obtain ⟨b1, b2, b3, b4, -⟩ := hb
  unfold trn nxt
  by_cases hn : k + 1 < (P.EC l).length
  · rw [if_pos hn]
    have ha := Srt_get hS (Nat.lt_succ_self k) hn
    obtain ⟨e1, e2, -⟩ := hR k hk
    obtain ⟨d1, d2, -⟩ := hR (k + 1) hn
    by_cases q : (0 < ((P.EC l).getD k (0, 0)).2 ↔ 0 < ((P.EC l).getD (k + 1) (0, 0)).2)
    · exact (ahd_s q).mp ha
    · have eu := (ahd_d q).mp ha
      have dl : ((P.EC l).getD (k + 1) (0, 0)).2 < 0 := by
        have : ¬ 0 < ((P.EC l).getD (k + 1) (0, 0)).2 := fun z => q ⟨fun _ => z, fun _ => eu⟩
        omega
      have en : ((P.EC l).getD k (0, 0)).1 < 0 := by
        rcases Int.lt_trichotomy ((P.EC l).getD k (0, 0)).1 0 with z | z | z
        · exact z
        · exact absurd z e1
        · exfalso
          obtain ⟨i, hi, hc⟩ := mem_getD (corner hG l (x := 0) (y := P.H) (Or.inl rfl) (Or.inr rfl))
          have s := dir_s (P.lp l 0) (P.lp l 1) 0 P.H
          rw [← hc] at s
          have c1 := s.2.1 (Nat.zero_le _)
          have c2 := s.2.2.1 o2
          have hx : ahd ((P.EC l).getD k (0, 0)) ((P.EC l).getD i (0, 0)) = true := by
            rw [ahd_s ⟨fun _ => c2, fun _ => eu⟩]
            exact sub_p (Int.mul_pos z c2) (Int.mul_neg_of_pos_of_neg eu c1)
          rcases Nat.lt_trichotomy i k with r | r | r
          · rw [ahd_as (Srt_get hS r hk)] at hx
            cases hx
          · rw [r, ahd_irr] at hx
            cases hx
          · by_cases r2 : i = k + 1
            · rw [r2] at c2
              omega
            · have y := Srt_get hS (show k + 1 < i by omega) hi
              rw [ahd_d (fun w => by have := w.mpr c2; omega)] at y
              omega
      have dn : ((P.EC l).getD (k + 1) (0, 0)).1 < 0 := by
        rcases Int.lt_trichotomy ((P.EC l).getD (k + 1) (0, 0)).1 0 with z | z | z
        · exact z
        · exact absurd z d1
        · exfalso
          obtain ⟨i, hi, hc⟩ := mem_getD (corner hG l (x := 0) (y := 0) (Or.inl rfl) (Or.inl rfl))
          have s := dir_s (P.lp l 0) (P.lp l 1) 0 0
          rw [← hc] at s
          have c1 := s.2.1 (Nat.zero_le _)
          have c2 := s.2.2.2 (Nat.zero_le _)
          have hx : ahd ((P.EC l).getD i (0, 0)) ((P.EC l).getD (k + 1) (0, 0)) = true := by
            rw [ahd_s ⟨fun w => by omega, fun w => by omega⟩]
            exact sub_p (Int.mul_pos_of_neg_of_neg c1 dl) (Int.mul_neg_of_neg_of_pos c2 z)
          rcases Nat.lt_trichotomy i (k + 1) with r | r | r
          · by_cases r2 : i = k
            · rw [r2] at c2
              omega
            · have y := Srt_get hS (show i < k by omega) hk
              rw [ahd_d (fun w => by have := w.mpr eu; omega)] at y
              omega
          · rw [r, ahd_irr] at hx
            cases hx
          · rw [ahd_as (Srt_get hS r hi)] at hx
            cases hx
      exact sub_p (Int.mul_pos_of_neg_of_neg en dl) (Int.mul_neg_of_pos_of_neg eu dn)
  · rw [if_neg hn]
    have hk1 : k + 1 = (P.EC l).length := by omega
    have h0 : 0 < (P.EC l).length := by omega
    obtain ⟨e1, e2, -⟩ := hR k hk
    obtain ⟨d1, d2, -⟩ := hR 0 h0
    have dp : 0 < ((P.EC l).getD 0 (0, 0)).2 ∧ 0 < ((P.EC l).getD 0 (0, 0)).1 := by
      obtain ⟨i, hi, hc⟩ := mem_getD (corner hG l (x := P.W) (y := P.H) (Or.inr rfl) (Or.inr rfl))
      have s := dir_s (P.lp l 0) (P.lp l 1) P.W P.H
      rw [← hc] at s
      have c1 := s.1 o1
      have c2 := s.2.2.1 o2
      by_cases i0 : i = 0
      · rw [i0] at c1 c2
        exact ⟨c2, c1⟩
      · have y := Srt_get hS (show 0 < i by omega) hi
        have du : 0 < ((P.EC l).getD 0 (0, 0)).2 := by
          by_cases w : 0 < ((P.EC l).getD 0 (0, 0)).2
          · exact w
          · rw [ahd_d (fun v => w (v.mpr c2))] at y
            exact y
        refine ⟨du, ?_⟩
        rcases Int.lt_trichotomy ((P.EC l).getD 0 (0, 0)).1 0 with z | z | z
        · exfalso
          have hx : ahd ((P.EC l).getD i (0, 0)) ((P.EC l).getD 0 (0, 0)) = true := by
            rw [ahd_s ⟨fun _ => du, fun _ => c2⟩]
            exact sub_p (Int.mul_pos c1 du) (Int.mul_neg_of_pos_of_neg c2 z)
          rw [ahd_as y] at hx
          cases hx
        · exact absurd z d1
        · exact z
    have ep : ((P.EC l).getD k (0, 0)).2 < 0 ∧ 0 < ((P.EC l).getD k (0, 0)).1 := by
      obtain ⟨i, hi, hc⟩ := mem_getD (corner hG l (x := P.W) (y := 0) (Or.inr rfl) (Or.inl rfl))
      have s := dir_s (P.lp l 0) (P.lp l 1) P.W 0
      rw [← hc] at s
      have c1 := s.1 o1
      have c2 := s.2.2.2 (Nat.zero_le _)
      by_cases ik : i = k
      · rw [ik] at c1 c2
        exact ⟨c2, c1⟩
      · have y := Srt_get hS (show i < k by omega) hk
        have el : ((P.EC l).getD k (0, 0)).2 < 0 := by
          by_cases w : 0 < ((P.EC l).getD k (0, 0)).2
          · rw [ahd_d (fun v => by have := v.mpr w; omega)] at y
            omega
          · omega
        refine ⟨el, ?_⟩
        rcases Int.lt_trichotomy ((P.EC l).getD k (0, 0)).1 0 with z | z | z
        · exfalso
          have hx : ahd ((P.EC l).getD k (0, 0)) ((P.EC l).getD i (0, 0)) = true := by
            rw [ahd_s ⟨fun w => by omega, fun w => by omega⟩]
            exact sub_p (Int.mul_pos_of_neg_of_neg z c2) (Int.mul_neg_of_neg_of_pos el c1)
          rw [ahd_as y] at hx
          cases hx
        · exact absurd z e1
        · exact z
    exact sub_p (Int.mul_pos ep.2 dp.1) (Int.mul_neg_of_neg_of_pos ep.1 dp.2)
theorem hit_i {P : Pl} {lx ly w len : Nat} {dx dy ac al li lo g s : Int} (hac : P.acr dx dy w = ac) (hal : P.alo dx dy w = al) (hli : P.lin lx ly w = li) (hlo : P.low lx ly w = lo) (hlen : P.wl w 2 = len) (h0 : ¬ ac = 0) (hg : (if ac < 0 then -li else li) = g) (hg0 : 0 ≤ g) (hs : (ac.natAbs : Int) = s) (h1 : lo * s ≤ al * g) (h2 : al * g ≤ (lo + ((2 * len : Nat) : Int)) * s) : P.hit lx ly dx dy w = true := by
  have e1 : P.gap lx ly dx dy w = g := by unfold Pl.gap; rw [hac, hli]; exact hg
  have e2 : P.stp dx dy w = s := by unfold Pl.stp; rw [hac]; exact hs
  unfold Pl.hit Pl.onB
  rw [e1, e2, hac, hal, hlo, hlen, decide_eq_true h0, decide_eq_true hg0, decide_eq_true ⟨h1, h2⟩]
  rfl
theorem mul_n {a b : Int} (ha : 0 ≤ a) (hb : 0 ≤ b) : -a * b ≤ 0 := by
  rw [Int.neg_mul]
  have := Int.mul_nonneg ha hb
  omega
theorem hit_side {P : Pl} (hG : PG P) {lx ly : Nat} (h1 : lx < P.W) (h2 : ly < P.H) {dx dy : Int} (hd : ¬ (dx = 0 ∧ dy = 0)) : ∃ w, w < 4 ∧ P.hit lx ly dx dy w = true := by
  obtain ⟨⟨a00, a01, a02, a03⟩, ⟨a10, a11, a12, a13⟩, ⟨a20, a21, a22, a23⟩, a30, a31, a32, a33⟩ := hG.2.2.2
  obtain ⟨R, hR⟩ : ∃ R : Int, R = ((2 * P.W : Nat) : Int) - ((2 * lx + 1 : Nat) : Int) := ⟨_, rfl⟩
  obtain ⟨L, hL⟩ : ∃ L : Int, L = ((2 * lx + 1 : Nat) : Int) := ⟨_, rfl⟩
  obtain ⟨T, hT⟩ : ∃ T : Int, T = ((2 * P.H : Nat) : Int) - ((2 * ly + 1 : Nat) : Int) := ⟨_, rfl⟩
  obtain ⟨B, hB⟩ : ∃ B : Int, B = ((2 * ly + 1 : Nat) : Int) := ⟨_, rfl⟩
  have r0 : 0 ≤ R := by omega
  have l0 : 0 ≤ L := by omega
  have t0 : 0 ≤ T := by omega
  have b0 : 0 ≤ B := by omega
  have side1 : 0 < dx → -B * dx ≤ dy * R → dy * R ≤ T * dx → P.hit lx ly dx dy 1 = true := fun p q r => by
    refine hit_i (ac := dx) (al := dy) (li := R) (lo := -B) (len := P.H) (g := R) (s := dx) (if_pos a13) (if_pos a13) ((if_pos a13).trans (by rw [a10]; exact hR.symm)) ((if_pos a13).trans (by rw [a11]; omega)) a12 (by omega) (if_neg (by omega)) r0 (by omega) q ?_
    rw [show -B + ((2 * P.H : Nat) : Int) = T by omega]
    exact r
  have side3 : dx < 0 → -B * (-dx) ≤ dy * L → dy * L ≤ T * (-dx) → P.hit lx ly dx dy 3 = true := fun p q r => by
    refine hit_i (ac := dx) (al := dy) (li := -L) (lo := -B) (len := P.H) (g := L) (s := -dx) (if_pos a33) (if_pos a33) ((if_pos a33).trans (by rw [a30]; omega)) ((if_pos a33).trans (by rw [a31]; omega)) a32 (by omega) ((if_pos p).trans (Int.neg_neg L)) l0 (by omega) q ?_
    rw [show -B + ((2 * P.H : Nat) : Int) = T by omega]
    exact r
  have n2 : ¬ P.wl 2 3 = 1 := by omega
  have n0 : ¬ P.wl 0 3 = 1 := by omega
  have side2 : 0 < dy → -L * dy ≤ dx * T → dx * T ≤ R * dy → P.hit lx ly dx dy 2 = true := fun p q r => by
    refine hit_i (ac := dy) (al := dx) (li := T) (lo := -L) (len := P.W) (g := T) (s := dy) (if_neg n2) (if_neg n2) ((if_neg n2).trans (by rw [a21]; exact hT.symm)) ((if_neg n2).trans (by rw [a20]; omega)) a22 (by omega) (if_neg (by omega)) t0 (by omega) q ?_
    rw [show -L + ((2 * P.W : Nat) : Int) = R by omega]
    exact r
  have side0 : dy < 0 → -L * (-dy) ≤ dx * B → dx * B ≤ R * (-dy) → P.hit lx ly dx dy 0 = true := fun p q r => by
    refine hit_i (ac := dy) (al := dx) (li := -B) (lo := -L) (len := P.W) (g := B) (s := -dy) (if_neg n0) (if_neg n0) ((if_neg n0).trans (by rw [a01]; omega)) ((if_neg n0).trans (by rw [a00]; omega)) a02 (by omega) ((if_pos p).trans (Int.neg_neg B)) b0 (by omega) q ?_
    rw [show -L + ((2 * P.W : Nat) : Int) = R by omega]
    exact r
  rcases Int.lt_trichotomy dx 0 with px | px | px
  · have pa : 0 ≤ -dx := by omega
    by_cases py : 0 ≤ dy
    · have z1 := mul_n b0 pa
      have z2 := Int.mul_nonneg py l0
      by_cases c : dy * L ≤ T * (-dx)
      · exact ⟨3, by decide, side3 px (by omega) c⟩
      · have z3 := Int.mul_nonneg t0 pa
        have y0 : 0 < dy := by
          rcases Int.lt_trichotomy dy 0 with v | v | v
          · omega
          · rw [v, Int.zero_mul] at c
            omega
          · exact v
        have z4 := Int.mul_nonneg r0 py
        have e1 : T * (-dx) = -(dx * T) := by rw [Int.mul_neg, Int.mul_comm]
        have e2 : -L * dy = -(dy * L) := by rw [Int.neg_mul, Int.mul_comm]
        exact ⟨2, by decide, side2 y0 (by omega) (by omega)⟩
    · have pb : 0 ≤ -dy := by omega
      have z3 := Int.mul_nonneg t0 pa
      have z5 : dy * L ≤ 0 := by
        have := Int.mul_nonneg pb l0
        rw [Int.neg_mul] at this
        omega
      by_cases c : -B * (-dx) ≤ dy * L
      · exact ⟨3, by decide, side3 px c (by omega)⟩
      · have z4 := Int.mul_nonneg r0 pb
        have e1 : -B * (-dx) = dx * B := by rw [Int.neg_mul_neg, Int.mul_comm]
        have e2 : -L * (-dy) = dy * L := by rw [Int.neg_mul_neg, Int.mul_comm]
        have z6 : dx * B ≤ 0 := by
          have := Int.mul_nonneg pa b0
          rw [Int.neg_mul] at this
          omega
        exact ⟨0, by decide, side0 (by omega) (by omega) (by omega)⟩
  · rcases Int.lt_trichotomy dy 0 with py | py | py
    · have pb : 0 ≤ -dy := by omega
      have z4 := Int.mul_nonneg r0 pb
      have z5 := mul_n l0 pb
      have e1 : dx * B = 0 := by rw [px, Int.zero_mul]
      exact ⟨0, by decide, side0 py (by omega) (by omega)⟩
    · exact absurd ⟨px, py⟩ hd
    · have pb : 0 ≤ dy := by omega
      have z4 := Int.mul_nonneg r0 pb
      have z5 := mul_n l0 pb
      have e1 : dx * T = 0 := by rw [px, Int.zero_mul]
      exact ⟨2, by decide, side2 py (by omega) (by omega)⟩
  · have pa : 0 ≤ dx := by omega
    by_cases py : 0 ≤ dy
    · have z1 := mul_n b0 pa
      have z2 := Int.mul_nonneg py r0
      by_cases c : dy * R ≤ T * dx
      · exact ⟨1, by decide, side1 px (by omega) c⟩
      · have z3 := Int.mul_nonneg t0 pa
        have y0 : 0 < dy := by
          rcases Int.lt_trichotomy dy 0 with v | v | v
          · omega
          · rw [v, Int.zero_mul] at c
            omega
          · exact v
        have z4 := mul_n l0 py
        have e1 : T * dx = dx * T := Int.mul_comm _ _
        have e2 : R * dy = dy * R := Int.mul_comm _ _
        exact ⟨2, by decide, side2 y0 (by omega) (by omega)⟩
    · have pb : 0 ≤ -dy := by omega
      have z3 := Int.mul_nonneg t0 pa
      have z5 : dy * R ≤ 0 := by
        have := Int.mul_nonneg pb r0
        rw [Int.neg_mul] at this
        omega
      by_cases c : -B * dx ≤ dy * R
      · exact ⟨1, by decide, side1 px c (by omega)⟩
      · have z4 := mul_n l0 pb
        have e1 : -B * dx = -(dx * B) := by rw [Int.neg_mul, Int.mul_comm]
        have e2 : R * (-dy) = -(dy * R) := by rw [Int.mul_neg, Int.mul_comm]
        have z6 := Int.mul_nonneg pa b0
        exact ⟨0, by decide, side0 (by omega) (by omega) (by omega)⟩
theorem fw_ex {P : Pl} {lx ly : Nat} {dx dy : Int} : ∀ i, (∃ w, w < i ∧ P.hit lx ly dx dy w = true) → ∃ q, P.fw lx ly dx dy i = some q
  | 0, ⟨w, h, _⟩ => absurd h (Nat.not_lt_zero w)
  | i + 1, ⟨w, h, hh⟩ => by
    rw [Pl.fw]
    rcases hf : P.fw lx ly dx dy i with _ | q
    · have hw : w = i := by
        by_cases r : w < i
        · obtain ⟨q, hq⟩ := fw_ex i ⟨w, r, hh⟩
          rw [hq] at hf
          cases hf
        · omega
      subst hw
      exact ⟨_, if_pos hh⟩
    · dsimp only
      split
      · exact ⟨_, rfl⟩
      · exact ⟨_, rfl⟩
theorem ws_some {P : Pl} (hG : PG P) {l k : Nat} (hl : l < P.nl) (hk : k < (P.EC l).length) : ∃ q, P.wsl l k = some q := by
  obtain ⟨o1, o2, -⟩ := hG.2.2.1 l hl
  have b5 := hG.1.2.2.2.2.1
  have ht := EC_trn hG hl hk
  have hd : ¬ (sX (P.EC l) k = 0 ∧ sY (P.EC l) k = 0) := by
    intro ⟨q1, q2⟩
    unfold sX at q1
    unfold sY at q2
    unfold trn at ht
    rw [show ((P.EC l).getD (nxt (P.EC l).length k) (0, 0)).1 = -((P.EC l).getD k (0, 0)).1 by omega, show ((P.EC l).getD (nxt (P.EC l).length k) (0, 0)).2 = -((P.EC l).getD k (0, 0)).2 by omega, Int.mul_neg, Int.mul_neg, Int.mul_comm] at ht
    omega
  obtain ⟨w, hw, hh⟩ := hit_side hG o1 o2 hd
  exact fw_ex P.nw ⟨w, by omega, hh⟩
theorem agc_pos {P : Pl} {l k w lx ly : Nat} (hk : k < (P.EC l).length) : 0 < P.agc lx ly (P.EC l) k w := by
  have hS := (EC_ok P l).1
  obtain ⟨e1, e2, -⟩ := Srt_mem hS (getD_mem hk)
  obtain ⟨d1, d2, -⟩ := Srt_mem hS (getD_mem (nxt_lt hk))
  have hs : ¬ P.sts (P.EC l) k w = 0 := by
    unfold Pl.sts
    split
    · exact Int.mul_ne_zero e1 d1
    · exact Int.mul_ne_zero e2 d2
  refine Nat.gcd_pos_of_pos_right _ ?_
  unfold Pl.aL
  omega
