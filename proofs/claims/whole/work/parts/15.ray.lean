/-! ===== the ray: directions, events ===== -/
abbrev Dr : Type := Int × Int
def ahd (e d : Dr) : Bool := if (0 < e.2 ↔ 0 < d.2) then decide (0 < e.1 * d.2 - e.2 * d.1) else decide (0 < e.2)
def insE (d : Dr) : List Dr → List Dr
  | [] => [d]
  | e :: r => if ahd e d = true then e :: insE d r else if e = d then e :: r else d :: e :: r
def gc (a b : Int) : Nat := Nat.gcd a.natAbs b.natAbs
def red (a b : Int) : Dr := (a.tdiv (gc a b : Int), b.tdiv (gc a b : Int))
def dirP (lx ly x y : Nat) : Dr := red (2 * (x : Int) - (2 * (lx : Int) + 1)) (2 * (y : Int) - (2 * (ly : Int) + 1))
theorem insE_at : ∀ (E : List Dr) (d : Dr) (p : Nat), p ≤ E.length → (∀ j, j < p → ahd (E.getD j (0, 0)) d = true) → (p < E.length → ahd (E.getD p (0, 0)) d = false) → insE d E = if p < E.length ∧ E.getD p (0, 0) = d then E else E.take p ++ d :: E.drop p
  | [], d, p, h, _, _ => by
    have hp : p = 0 := by simpa using h
    subst hp
    rfl
  | e :: r, d, 0, _, _, h2 => by
    have h3 : ahd e d = false := h2 (by simp)
    show (if ahd e d = true then _ else if e = d then e :: r else d :: e :: r) = _
    rw [if_neg (by rw [h3]; decide)]
    by_cases he : e = d
    · rw [if_pos he, if_pos ⟨by simp, he⟩]
    · rw [if_neg he, if_neg (fun q => he q.2)]
      rfl
  | e :: r, d, p + 1, h, h1, h2 => by
    have h3 : ahd e d = true := h1 0 (by omega)
    show (if ahd e d = true then e :: insE d r else _) = _
    rw [if_pos h3, insE_at r d p (by simpa using h) (fun j hj => h1 (j + 1) (by omega)) (fun q => h2 (by simpa using q))]
    by_cases he : p < r.length ∧ r.getD p (0, 0) = d
    · rw [if_pos he, if_pos ⟨by simpa using he.1, he.2⟩]
    · rw [if_neg he, if_neg (fun q => he ⟨by simpa using q.1, q.2⟩)]
      rfl
theorem ins_len {E : List Dr} {d : Dr} {p : Nat} (h : p ≤ E.length) : (E.take p ++ d :: E.drop p).length = E.length + 1 := by
  rw [List.length_append, List.length_cons, List.length_take, List.length_drop]
  omega
theorem ins_get {E : List Dr} {d : Dr} {p i : Nat} (h : p ≤ E.length) (hi : i < E.length + 1) : (E.take p ++ d :: E.drop p).getD i (0, 0) = if i < p then E.getD i (0, 0) else if i = p then d else E.getD (i - 1) (0, 0) := by
  have hl : (E.take p).length = p := by rw [List.length_take]; omega
  rw [List.getD_eq_getElem?_getD]
  by_cases h1 : i < p
  · rw [if_pos h1, List.getElem?_append_left (by rw [hl]; exact h1), List.getElem?_take_of_lt h1, List.getD_eq_getElem?_getD]
  · rw [if_neg h1, List.getElem?_append_right (by rw [hl]; omega), hl]
    by_cases h2 : i = p
    · rw [if_pos h2, h2, Nat.sub_self]
      rfl
    · rw [if_neg h2, show i - p = (i - p - 1) + 1 by omega, List.getElem?_cons_succ, List.getElem?_drop, show p + (i - p - 1) = i - 1 by omega, List.getD_eq_getElem?_getD]
def RB (E : List Dr) : Prop := ∀ e ∈ E, bd e.1 20 ∧ bd e.2 20
theorem RB_get {E : List Dr} (h : RB E) {i : Nat} (hi : i < E.length) : bd (E.getD i (0, 0)).1 20 ∧ bd (E.getD i (0, 0)).2 20 := by
  rw [List.getD_eq_getElem?_getD, List.getElem?_eq_getElem hi]
  exact h _ (List.getElem_mem hi)
theorem insE_mem : ∀ (E : List Dr) (d e : Dr), e ∈ insE d E ↔ e = d ∨ e ∈ E
  | [], d, e => by simp [insE]
  | c :: r, d, e => by
    show e ∈ (if ahd c d = true then c :: insE d r else if c = d then c :: r else d :: c :: r) ↔ _
    by_cases h1 : ahd c d = true
    · rw [if_pos h1, List.mem_cons, insE_mem r d e, List.mem_cons]
      constructor
      · rintro (h | h | h)
        · exact Or.inr (Or.inl h)
        · exact Or.inl h
        · exact Or.inr (Or.inr h)
      · rintro (h | h | h)
        · exact Or.inr (Or.inl h)
        · exact Or.inl h
        · exact Or.inr (Or.inr h)
    · rw [if_neg h1]
      by_cases h2 : c = d
      · rw [if_pos h2]
        constructor
        · exact Or.inr
        · rintro (h | h)
          · rw [h, ← h2]; exact List.mem_cons_self
          · exact h
      · rw [if_neg h2, List.mem_cons]
theorem RB_ins {E : List Dr} {d : Dr} (h : RB E) (h1 : bd d.1 20) (h2 : bd d.2 20) : RB (insE d E) := fun e he => by
  rcases (insE_mem E d e).mp he with rfl | q
  · exact ⟨h1, h2⟩
  · exact h e q
theorem insE_len : ∀ (E : List Dr) (d : Dr), (insE d E).length ≤ E.length + 1
  | [], d => by simp [insE]
  | c :: r, d => by
    show (if ahd c d = true then c :: insE d r else if c = d then c :: r else d :: c :: r).length ≤ _
    have := insE_len r d
    split
    · simp only [List.length_cons]; omega
    · split <;> simp
/-! greatest common divisors -/
theorem eu_half {a b : Nat} (hb : 0 < b) (h : b ≤ a) : 2 * (a % b) < a := by
  have h1 := Nat.mod_lt a hb
  by_cases h2 : 2 * b ≤ a
  · omega
  · have h3 : a % b = a - b := by
      rw [Nat.mod_eq_sub_mod h, Nat.mod_eq_of_lt (by omega)]
    omega
theorem eu_step {a b t : Nat} (hb : ¬ b = 0) (ht : t < 50) (h : t = 0 ∧ a < 1048576 ∧ b < 1048576 ∨ (b < a ∧ a * b < 2 ^ (50 - t))) : a % b < b ∧ b * (a % b) < 2 ^ (50 - (t + 1)) := by
  have h1 := Nat.mod_lt a (show b > 0 by omega)
  refine ⟨h1, ?_⟩
  rcases h with ⟨rfl, h2, h3⟩ | ⟨h2, h3⟩
  · have h4 : b * (a % b) ≤ 1048576 * 1048576 := Nat.mul_le_mul (by omega) (by omega)
    exact Nat.lt_of_le_of_lt h4 (by decide)
  · have h4 := eu_half (show 0 < b by omega) (by omega : b ≤ a)
    have h5 : b * (2 * (a % b)) < b * a := Nat.mul_lt_mul_of_pos_left h4 (by omega)
    rw [Nat.mul_comm b a] at h5
    have h6 : (2 : Nat) ^ (50 - t) = 2 * 2 ^ (50 - (t + 1)) := by
      rw [show 50 - t = (50 - (t + 1)) + 1 by omega, Nat.pow_succ, Nat.mul_comm]
    rw [show b * (2 * (a % b)) = 2 * (b * (a % b)) by rw [Nat.mul_left_comm]] at h5
    omega
theorem eu_gcd (a b : Nat) : Nat.gcd b (a % b) = Nat.gcd a b := by rw [Nat.gcd_comm, ← Nat.gcd_rec, Nat.gcd_comm]
theorem eu_end {a b t : Nat} (ht : 50 ≤ t) (h : t = 0 ∧ a < 1048576 ∧ b < 1048576 ∨ (b < a ∧ a * b < 2 ^ (50 - t))) : b = 0 := by
  rcases h with ⟨h1, -⟩ | ⟨h2, h3⟩
  · omega
  · rw [show 50 - t = 0 by omega] at h3
    have h4 : a * b = 0 := by omega
    rcases Nat.mul_eq_zero.mp h4 with h | h
    · omega
    · exact h
theorem gc_pos {a b : Int} (h : ¬ a = 0) : 0 < gc a b := Nat.gcd_pos_of_pos_left _ (by omega)
theorem gc_le {a b : Int} (h : ¬ a = 0) : gc a b ≤ a.natAbs := Nat.gcd_le_left _ (by omega)
theorem bd_td {a b : Int} {A : Nat} (h : bd a A) : bd (a.tdiv b) A := bd_na.mpr (Nat.le_trans (Int.natAbs_tdiv_le_natAbs a b) (bd_na.mp h))
theorem odd_ne (x k : Nat) : ¬ (2 * (x : Int) - (2 * (k : Int) + 1)) = 0 := by omega
theorem dir_bd {lx ly x y : Nat} (h1 : lx ≤ 9) (h2 : ly ≤ 9) (h3 : x ≤ 9) (h4 : y ≤ 9) : bd (dirP lx ly x y).1 20 ∧ bd (dirP lx ly x y).2 20 := ⟨bd_td ⟨by omega, by omega⟩, bd_td ⟨by omega, by omega⟩⟩
/-! two rows at once -/
def S2 (σ : St) (A B : Nat → Int32) : St := upR (upR σ 44 A) 45 B
theorem S2_44 (σ : St) (A B : Nat → Int32) : S2 σ A B 44 = A := by unfold S2; rw [upR_n _ _ (by decide), upR_s]
theorem S2_45 (σ : St) (A B : Nat → Int32) : S2 σ A B 45 = B := upR_s _ _ _
theorem S2_n (σ : St) (A B : Nat → Int32) {a : Nat} (h1 : a ≠ 44) (h2 : a ≠ 45) : S2 σ A B a = σ a := by unfold S2; rw [upR_n _ _ h2, upR_n _ _ h1]
theorem S2_u4 (σ : St) (A B : Nat → Int32) (i : Nat) (v : Int32) : up (S2 σ A B) 44 i v = S2 σ (upd A i v) B := by
  funext a
  by_cases h : a = 44
  · subst h; rw [S2_44]; simp only [up, upR_s, S2_44]
  · by_cases h2 : a = 45
    · subst h2; rw [S2_45]; simp only [up, upR_n _ _ (show (45 : Nat) ≠ 44 by decide), S2_45]
    · rw [S2_n _ _ _ h h2]; simp only [up, upR_n _ _ h, S2_n _ _ _ h h2]
theorem S2_u5 (σ : St) (A B : Nat → Int32) (i : Nat) (v : Int32) : up (S2 σ A B) 45 i v = S2 σ A (upd B i v) := by
  funext a
  by_cases h : a = 45
  · subst h; rw [S2_45]; simp only [up, upR_s, S2_45]
  · by_cases h2 : a = 44
    · subst h2; rw [S2_44]; simp only [up, upR_n _ _ (show (44 : Nat) ≠ 45 by decide), S2_44]
    · rw [S2_n _ _ _ h2 h]; simp only [up, upR_n _ _ h, S2_n _ _ _ h2 h]
theorem S2_id (σ : St) : S2 σ (σ 44) (σ 45) = σ := by
  funext a
  by_cases h : a = 44
  · subst h; rw [S2_44]
  · by_cases h2 : a = 45
    · subst h2; rw [S2_45]
    · rw [S2_n _ _ _ h h2]
/-- rows above i moved up by one, as far as m -/
def shf (f : Nat → Int32) (i m : Nat) : Nat → Int32 := fun j => if i < j ∧ j ≤ m then f (j - 1) else f j
theorem shf_0 (f : Nat → Int32) (m : Nat) : shf f m m = f := by
  funext j
  unfold shf
  rw [if_neg (by omega)]
theorem shf_s {f : Nat → Int32} {i m : Nat} (h0 : 0 < i) (h : i ≤ m) : upd (shf f i m) i (shf f i m (i - 1)) = shf f (i - 1) m := by
  funext j
  by_cases hj : j = i
  · subst hj
    rw [upd_s]
    unfold shf
    rw [if_neg (by omega), if_pos (by omega)]
  · rw [upd_n _ _ hj]
    unfold shf
    by_cases h2 : i < j ∧ j ≤ m
    · rw [if_pos h2, if_pos (by omega)]
    · rw [if_neg h2, if_neg (by omega)]
def RayOK (σ : St) (E : List Dr) : Prop := σ 43 2 = nI E.length ∧ ∀ i, i < E.length → σ 44 i = iI (E.getD i (0, 0)).1 ∧ σ 45 i = iI (E.getD i (0, 0)).2
def LamOK (σ : St) (lx ly : Nat) : Prop := σ 43 3 = nI (2 * lx + 1) ∧ σ 43 4 = nI (2 * ly + 1)
theorem ray_ins {σ : St} {E : List Dr} {d : Dr} {p lx ly : Nat} (hR : RayOK σ E) (hL : LamOK σ lx ly) (hp : p ≤ E.length) (h1 : ∀ j, j < p → ahd (E.getD j (0, 0)) d = true) (h2 : p < E.length → ahd (E.getD p (0, 0)) d = false) (h3 : ¬ (p < E.length ∧ E.getD p (0, 0) = d)) : RayOK (up (S2 σ (upd (shf (σ 44) p E.length) p (iI d.1)) (upd (shf (σ 45) p E.length) p (iI d.2))) 43 2 (nI (E.length + 1))) (insE d E) ∧ LamOK (up (S2 σ (upd (shf (σ 44) p E.length) p (iI d.1)) (upd (shf (σ 45) p E.length) p (iI d.2))) 43 2 (nI (E.length + 1))) lx ly := by
  have e0 : (up (S2 σ (upd (shf (σ 44) p E.length) p (iI d.1)) (upd (shf (σ 45) p E.length) p (iI d.2))) 43 2 (nI (E.length + 1))) 43 = upd (σ 43) 2 (nI (E.length + 1)) := by
    simp only [up, upR_s, S2_n _ _ _ (show (43 : Nat) ≠ 44 by decide) (show (43 : Nat) ≠ 45 by decide)]
  have e1 : (up (S2 σ (upd (shf (σ 44) p E.length) p (iI d.1)) (upd (shf (σ 45) p E.length) p (iI d.2))) 43 2 (nI (E.length + 1))) 44 = upd (shf (σ 44) p E.length) p (iI d.1) := by
    simp only [up, upR_n _ _ (show (44 : Nat) ≠ 43 by decide), S2_44]
  have e2 : (up (S2 σ (upd (shf (σ 44) p E.length) p (iI d.1)) (upd (shf (σ 45) p E.length) p (iI d.2))) 43 2 (nI (E.length + 1))) 45 = upd (shf (σ 45) p E.length) p (iI d.2) := by
    simp only [up, upR_n _ _ (show (45 : Nat) ≠ 43 by decide), S2_45]
  have hI := insE_at E d p hp h1 h2
  rw [if_neg h3] at hI
  refine ⟨?_, ?_⟩
  · unfold RayOK
    rw [e0, e1, e2, hI, ins_len hp, upd_s]
    refine ⟨rfl, fun i hi => ?_⟩
    rw [ins_get hp hi]
    by_cases q1 : i < p
    · rw [if_pos q1, upd_n _ _ (by omega), upd_n _ _ (by omega)]
      unfold shf
      rw [if_neg (by omega), if_neg (by omega)]
      exact hR.2 i (by omega)
    · rw [if_neg q1]
      by_cases q2 : i = p
      · rw [if_pos q2, q2, upd_s, upd_s]
        exact ⟨rfl, rfl⟩
      · rw [if_neg q2, upd_n _ _ q2, upd_n _ _ q2]
        unfold shf
        rw [if_pos (by omega), if_pos (by omega)]
        exact hR.2 (i - 1) (by omega)
  · unfold LamOK
    rw [e0, upd_n _ _ (by decide), upd_n _ _ (by decide)]
    exact hL
/-! points -/
def Pl.onP (P : Pl) (w x y : Nat) : Prop := (P.wl w 3 = 1 ∧ x = P.wl w 0 ∧ P.wl w 1 ≤ y ∧ y ≤ P.wl w 1 + P.wl w 2) ∨ (¬ P.wl w 3 = 1 ∧ y = P.wl w 1 ∧ P.wl w 0 ≤ x ∧ x ≤ P.wl w 0 + P.wl w 2)
def Pl.enP (P : Pl) (w x y : Nat) : Prop := (P.wl w 3 = 1 ∧ x = P.wl w 0 ∧ (y = P.wl w 1 ∨ y = P.wl w 1 + P.wl w 2)) ∨ (¬ P.wl w 3 = 1 ∧ y = P.wl w 1 ∧ (x = P.wl w 0 ∨ x = P.wl w 0 + P.wl w 2))
def Pl.evP (P : Pl) (x y : Nat) : Prop := (∃ w, w < P.nw ∧ P.enP w x y) ∨ ((∃ w, w < P.nw ∧ P.onP w x y ∧ ¬ P.wl w 3 = 1) ∧ ∃ w, w < P.nw ∧ P.onP w x y ∧ P.wl w 3 = 1)
noncomputable def dcP (p : Prop) : Bool := @decide p (Classical.propDecidable p)
theorem dcP_t {p : Prop} (h : p) : dcP p = true := by unfold dcP; exact @decide_eq_true p (Classical.propDecidable p) h
theorem dcP_f {p : Prop} (h : ¬ p) : dcP p = false := by unfold dcP; exact @decide_eq_false p (Classical.propDecidable p) h
theorem dcP_of {p : Prop} (h : dcP p = true) : p := by
  by_cases q : p
  · exact q
  · rw [dcP_f q] at h; cases h
theorem dcP_no {p : Prop} (h : dcP p = false) : ¬ p := fun q => by rw [dcP_t q] at h; cases h
theorem dcP_iff {p q : Prop} (h : p ↔ q) : dcP p = dcP q := by
  by_cases z : p
  · rw [dcP_t z, dcP_t (h.mp z)]
  · rw [dcP_f z, dcP_f (fun q => z (h.mpr q))]
theorem bI_or1 (b : Bool) : bI b ||| nI 1 = bI true := by cases b <;> decide
theorem bI_or0 (b : Bool) : bI b ||| nI 0 = bI b := by cases b <;> decide
/-- the events, as the grid's points are gone through -/
noncomputable def Pl.EVc (P : Pl) (lx ly : Nat) : Nat → List Dr
  | 0 => []
  | s + 1 => if dcP (P.evP (s % (P.W + 1)) (s / (P.W + 1))) = true then insE (dirP lx ly (s % (P.W + 1)) (s / (P.W + 1))) (P.EVc lx ly s) else P.EVc lx ly s
theorem EVc_len (P : Pl) (lx ly : Nat) : ∀ s, (P.EVc lx ly s).length ≤ s
  | 0 => Nat.le_refl 0
  | s + 1 => by
    have := EVc_len P lx ly s
    unfold Pl.EVc
    split
    · have := insE_len (P.EVc lx ly s) (dirP lx ly (s % (P.W + 1)) (s / (P.W + 1)))
      omega
    · omega
theorem EVc_RB (P : Pl) {lx ly : Nat} (h1 : lx ≤ 9) (h2 : ly ≤ 9) (hW : P.W ≤ 9) (hH : P.H ≤ 9) : ∀ s, s ≤ (P.W + 1) * (P.H + 1) → RB (P.EVc lx ly s)
  | 0, _ => fun e he => by cases he
  | s + 1, hs => by
    have ih := EVc_RB P h1 h2 hW hH s (by omega)
    unfold Pl.EVc
    split
    · have a1 : s % (P.W + 1) ≤ 9 := by have := Nat.mod_lt s (show P.W + 1 > 0 by omega); omega
      have a2 : s / (P.W + 1) ≤ 9 := by
        have : s / (P.W + 1) < P.H + 1 := (Nat.div_lt_iff_lt_mul (by omega)).mpr (by rw [Nat.mul_comm]; omega)
        omega
      exact RB_ins ih (dir_bd h1 h2 a1 a2).1 (dir_bd h1 h2 a1 a2).2
    · exact ih
noncomputable def Pl.EC (P : Pl) (l : Nat) : List Dr := P.EVc (P.lp l 0) (P.lp l 1) ((P.W + 1) * (P.H + 1))
