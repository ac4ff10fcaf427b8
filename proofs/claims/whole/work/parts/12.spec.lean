/-! ===== plans, and what is said of them ===== -/
abbrev Pl : Type := Nat × Nat × Nat × Nat × (Nat → Nat → Nat) × (Nat → Nat → Nat)
def Pl.W (P : Pl) : Nat := P.1
def Pl.H (P : Pl) : Nat := P.2.1
def Pl.nw (P : Pl) : Nat := P.2.2.1
def Pl.nl (P : Pl) : Nat := P.2.2.2.1
def Pl.wl (P : Pl) : Nat → Nat → Nat := P.2.2.2.2.1
def Pl.lp (P : Pl) : Nat → Nat → Nat := P.2.2.2.2.2
def PlanOK (σ : St) (k : Nat) (P : Pl) : Prop := σ k 0 = nI P.W ∧ σ k 1 = nI P.H ∧ σ k 2 = nI P.nw ∧ σ k 3 = nI P.nl ∧ (∀ w p, w < P.nw → p < 4 → σ (k + 1) (w * 4 + p) = nI (P.wl w p)) ∧ ∀ l p, l < P.nl → p < 3 → σ (k + 2) (l * 3 + p) = nI (P.lp l p)
theorem PlanOK.w {σ : St} {k : Nat} {P : Pl} (h : PlanOK σ k P) : σ k 0 = nI P.W := h.1
theorem PlanOK.h {σ : St} {k : Nat} {P : Pl} (h : PlanOK σ k P) : σ k 1 = nI P.H := h.2.1
theorem PlanOK.nw {σ : St} {k : Nat} {P : Pl} (h : PlanOK σ k P) : σ k 2 = nI P.nw := h.2.2.1
theorem PlanOK.nl {σ : St} {k : Nat} {P : Pl} (h : PlanOK σ k P) : σ k 3 = nI P.nl := h.2.2.2.1
theorem PlanOK.wl {σ : St} {k : Nat} {P : Pl} (h : PlanOK σ k P) {w p : Nat} (hw : w < P.nw) (hp : p < 4) : σ (k + 1) (w * 4 + p) = nI (P.wl w p) := h.2.2.2.2.1 w p hw hp
theorem PlanOK.lp {σ : St} {k : Nat} {P : Pl} (h : PlanOK σ k P) {l p : Nat} (hl : l < P.nl) (hp : p < 3) : σ (k + 2) (l * 3 + p) = nI (P.lp l p) := h.2.2.2.2.2 l p hl hp
theorem PlanOK.frame {σ σ' : St} {k : Nat} {P : Pl} (h : PlanOK σ k P) (h0 : σ' k = σ k) (h1 : σ' (k + 1) = σ (k + 1)) (h2 : σ' (k + 2) = σ (k + 2)) : PlanOK σ' k P := by
  unfold PlanOK
  rw [h0, h1, h2]
  exact h
/-- the bounds that the code's rows rest on -/
def PB (P : Pl) : Prop := 2 ≤ P.W ∧ P.W ≤ 9 ∧ 2 ≤ P.H ∧ P.H ≤ 9 ∧ 4 ≤ P.nw ∧ P.nw ≤ 14 ∧ P.nl ≤ 8
def WallOK (P : Pl) (w : Nat) : Prop := P.wl w 3 ≤ 1 ∧ P.wl w 0 ≤ P.W ∧ P.wl w 1 ≤ P.H ∧ 1 ≤ P.wl w 2 ∧ (P.wl w 3 = 0 → P.wl w 0 + P.wl w 2 ≤ P.W) ∧ (P.wl w 3 = 1 → P.wl w 1 + P.wl w 2 ≤ P.H)
def LampOK (P : Pl) (l : Nat) : Prop := P.lp l 0 < P.W ∧ P.lp l 1 < P.H ∧ P.lp l 2 ≤ 1
def Sides (P : Pl) : Prop := (P.wl 0 0 = 0 ∧ P.wl 0 1 = 0 ∧ P.wl 0 2 = P.W ∧ P.wl 0 3 = 0) ∧ (P.wl 1 0 = P.W ∧ P.wl 1 1 = 0 ∧ P.wl 1 2 = P.H ∧ P.wl 1 3 = 1) ∧ (P.wl 2 0 = 0 ∧ P.wl 2 1 = P.H ∧ P.wl 2 2 = P.W ∧ P.wl 2 3 = 0) ∧ (P.wl 3 0 = 0 ∧ P.wl 3 1 = 0 ∧ P.wl 3 2 = P.H ∧ P.wl 3 3 = 1)
def PG (P : Pl) : Prop := PB P ∧ (∀ w, w < P.nw → WallOK P w) ∧ (∀ l, l < P.nl → LampOK P l) ∧ Sides P
/-! an int within 0 .. n - 1 -/
def inR (x : Int32) (n : Nat) : Bool := decide (¬ x < 0 ∧ ¬ nI n ≤ x)
def in4 (x : Int32) (n : Nat) : Bool := decide (¬ x < nI 4 ∧ ¬ nI n ≤ x)
theorem inR_t {x : Int32} {n : Nat} (h : inR x n = true) (hn : n < 2147483648) : ∃ j, j < n ∧ x = nI j := by
  have h := of_decide_eq_true h
  rcases pk_ix x (n := n) hn with q | q | q
  · exact absurd q h.1
  · exact absurd q h.2
  · exact q
theorem inR_n {j n : Nat} (hj : j < n) (hn : n < 2147483648) : inR (nI j) n = true := decide_eq_true ⟨nI_pos (by omega), fun q => by have := (nI_leI hn (by omega)).mp q; omega⟩
theorem roB_t {b : Bool} {σ : St} (h : b = true) : ro (.int (bI b)) σ (some (.int (nI 1))) σ := by subst h; exact ⟨rfl, rfl⟩
theorem roB_f {b : Bool} {σ : St} (h : b = false) : ro (.int (bI b)) σ (some (.int (nI 0))) σ := by subst h; exact ⟨rfl, rfl⟩
theorem roI {x y : Int32} {σ : St} (h : x = y) : ro (.int x) σ (some (.int y)) σ := by subst h; exact ⟨rfl, rfl⟩
def canW (P : Pl) (x y len up : Int32) : Bool := decide (¬ x < 0 ∧ ¬ nI P.W < x ∧ ¬ y < 0 ∧ ¬ nI P.H < y ∧ nI 1 ≤ len ∧ ((up = nI 1 ∧ ¬ nI P.H - y < len) ∨ (¬ up = nI 1 ∧ up = 0 ∧ ¬ nI P.W - x < len)))
/-! sets of numbers as bits -/
def Bt (f : Nat → Bool) : Nat → Nat
  | 0 => 0
  | n + 1 => Bt f n ||| (if f n = true then 2 ^ n else 0)
theorem Bt_tb (f : Nat → Bool) : ∀ n i, (Bt f n).testBit i = (decide (i < n) && f i)
  | 0, i => by simp [Bt]
  | n + 1, i => by
    rw [Bt, Nat.testBit_or, Bt_tb f n i]
    by_cases hf : f n = true
    · rw [if_pos hf, Nat.testBit_two_pow]
      by_cases hi : n = i
      · subst hi; simp [hf]
      · by_cases h2 : i < n
        · simp [h2, hi]; omega
        · simp [h2, hi]; omega
    · rw [if_neg hf, Nat.zero_testBit, Bool.or_false]
      by_cases hi : n = i
      · subst hi; simp [hf]
      · by_cases h2 : i < n
        · simp [h2]; omega
        · simp [h2]; omega
theorem Bt_lt (f : Nat → Bool) (n : Nat) : Bt f n < 2 ^ n := by
  apply Nat.lt_pow_two_of_testBit
  intro i hi
  rw [Bt_tb]
  simp; omega
theorem Bt_le {f : Nat → Bool} {n : Nat} (h : n ≤ 8) : Bt f n < 256 := Nat.lt_of_lt_of_le (Bt_lt f n) (Nat.pow_le_pow_right (by decide) h)
theorem sh_n {v l : Nat} (hv : v ≤ 1) (hl : l < 31) : nI v <<< (nI l &&& 31) = nI (if v = 1 then 2 ^ l else 0) := by
  have h1 : ∀ l, l < 31 → (nI 1 <<< (nI l &&& 31) = nI (2 ^ l) ∧ nI 0 <<< (nI l &&& 31) = nI 0) := by decide +kernel
  rcases (show v = 0 ∨ v = 1 by omega) with rfl | rfl
  · rw [if_neg (by decide)]; exact (h1 l hl).2
  · rw [if_pos rfl]; exact (h1 l hl).1
theorem or_n {B v l : Nat} (hv : v ≤ 1) (hl : l < 31) : nI B ||| (nI v <<< (nI l &&& 31)) = nI (B ||| (if v = 1 then 2 ^ l else 0)) := by rw [sh_n hv hl, fa_or]
theorem or_1 {B l : Nat} (hl : l < 31) : nI B ||| (nI 1 <<< (nI l &&& 31)) = nI (B ||| 2 ^ l) := by rw [sh_n (Nat.le_refl 1) hl, if_pos rfl, fa_or]
/-- the lamps that are on, as bits -/
def Pl.on (P : Pl) : Nat := Bt (fun l => P.lp l 2 == 1) P.nl
/-- is there a lamp -/
def Pl.at (P : Pl) (x y : Nat) : Bool := decide (∃ l, l < P.nl ∧ P.lp l 0 = x ∧ P.lp l 1 = y)
