theorem MR_eq {σ σ' : St} {A : Ab} (h : MR σ A) (h0 : ∀ i, i = 0 ∨ i = 1 ∨ i = 2 ∨ i = 5 ∨ i = 8 ∨ i = 12 → σ' 55 i = σ 55 i) (he : ∀ a, 56 ≤ a → a ≤ 63 → σ' a = σ a) : MR σ' A := by
  unfold MR MP MTx MHs MIm MSn
  rw [h0 0 (by omega), h0 1 (by omega), h0 2 (by omega), h0 5 (by omega), h0 8 (by omega), h0 12 (by omega), he 56 (by omega) (by omega), he 57 (by omega) (by omega), he 58 (by omega) (by omega), he 59 (by omega) (by omega), he 60 (by omega) (by omega), he 61 (by omega) (by omega), he 62 (by omega) (by omega), he 63 (by omega) (by omega)]
  exact h
theorem MP_eq {σ σ' : St} {P : Pl} (h : MP σ P) (h0 : σ' 55 = σ 55) (h1 : σ' 56 = σ 56) : MP σ' P := by
  unfold MP
  rw [h0, h1]
  exact h
theorem LS_all (P : Pl) (s : Nat) : P.LS (2 ^ P.nl - 1) (-9) s = P.LM (s % P.W) (s / P.W) (-9) := by
  unfold Pl.LS Pl.LA Pl.LM
  apply Nat.eq_of_testBit_eq
  intro i
  rw [Bt_tb, Bt_tb, Nat.testBit_two_pow_sub_one]
  cases decide (i < P.nl) <;> simp
theorem ev_enough (P : Pl) : enoughL (P.LS (2 ^ P.nl - 1) (-9)) (P.W * P.H) (2 ^ P.nl - 1) = true := by
  refine decide_eq_true (fun s _ h => ?_)
  have hl : P.LS (2 ^ P.nl - 1) (-9) s < 2 ^ P.nl := Bt_lt _ _
  rw [Nat.and_two_pow_sub_one_eq_mod, Nat.mod_eq_of_lt hl]
  exact h
/-- the model's way down -/
def fewD (L : Nat → Nat) (N ev : Nat) : Nat → Nat
  | 0 => ev
  | k + 1 => if pop8 (ev - k) ≤ pop8 (fewD L N ev k) ∧ enoughL L N (ev - k) = true then ev - k else fewD L N ev k
def isFew (L : Nat → Nat) (N ev r : Nat) : Prop := enoughL L N r = true ∧ r ≤ ev ∧ ∀ t, t ≤ ev → enoughL L N t = true → pop8 r < pop8 t ∨ (pop8 r = pop8 t ∧ r ≤ t)
theorem isFew_u {L : Nat → Nat} {N ev r r' : Nat} (h : isFew L N ev r) (h' : isFew L N ev r') : r = r' := by
  have a := h.2.2 r' h'.2.1 h'.1
  have b := h'.2.2 r h.2.1 h.1
  omega
theorem fewD_le {L : Nat → Nat} {N ev : Nat} : ∀ k, fewD L N ev k ≤ ev
  | 0 => Nat.le_refl ev
  | k + 1 => by
    rw [fewD]
    split
    · omega
    · exact fewD_le k
theorem fewD_ok {L : Nat → Nat} {N ev : Nat} (he : enoughL L N ev = true) : ∀ k, k ≤ ev + 1 → enoughL L N (fewD L N ev k) = true ∧ ∀ t, ev + 1 - k ≤ t → t ≤ ev → enoughL L N t = true → pop8 (fewD L N ev k) < pop8 t ∨ (pop8 (fewD L N ev k) = pop8 t ∧ fewD L N ev k ≤ t)
  | 0, _ => ⟨he, fun t h1 h2 _ => by omega⟩
  | k + 1, hk => by
    obtain ⟨i1, i2⟩ := fewD_ok he k (by omega)
    rw [fewD]
    by_cases q : pop8 (ev - k) ≤ pop8 (fewD L N ev k) ∧ enoughL L N (ev - k) = true
    · rw [if_pos q]
      refine ⟨q.2, fun t h1 h2 h3 => ?_⟩
      by_cases r : t = ev - k
      · subst r; exact Or.inr ⟨rfl, Nat.le_refl _⟩
      · have z := i2 t (by omega) h2 h3
        have := q.1
        omega
    · rw [if_neg q]
      refine ⟨i1, fun t h1 h2 h3 => ?_⟩
      by_cases r : t = ev - k
      · subst r
        have : ¬ pop8 (ev - k) ≤ pop8 (fewD L N ev k) := fun z => q ⟨z, h3⟩
        omega
      · exact i2 t (by omega) h2 h3
theorem fewD_few {L : Nat → Nat} {N ev : Nat} (he : enoughL L N ev = true) : isFew L N ev (fewD L N ev (ev + 1)) := by
  have z := fewD_ok he (ev + 1) (Nat.le_refl _)
  exact ⟨z.1, fewD_le _, fun t h1 h2 => z.2 t (by omega) h1 h2⟩
theorem fewC_ok {L : Nat → Nat} {N ev : Nat} (he : enoughL L N ev = true) (hp : ∀ t, t < ev → pop8 t < pop8 ev) : ∀ s, s ≤ ev → enoughL L N (fewC L N ev s) = true ∧ (fewC L N ev s = ev ∨ fewC L N ev s < s) ∧ pop8 (fewC L N ev s) ≤ pop8 ev ∧ ∀ t, t < s → enoughL L N t = true → pop8 (fewC L N ev s) < pop8 t ∨ (pop8 (fewC L N ev s) = pop8 t ∧ fewC L N ev s ≤ t)
  | 0, _ => ⟨he, Or.inl rfl, Nat.le_refl _, fun t h => absurd h (Nat.not_lt_zero t)⟩
  | s + 1, hs => by
    obtain ⟨i1, i2, i3, i4⟩ := fewC_ok he hp s (by omega)
    rw [fewC]
    by_cases q : pop8 s < pop8 (fewC L N ev s) ∧ enoughL L N s = true
    · rw [if_pos q]
      refine ⟨q.2, Or.inr (Nat.lt_succ_self s), by have := q.1; omega, fun t h1 h2 => ?_⟩
      by_cases r : t = s
      · subst r; exact Or.inr ⟨rfl, Nat.le_refl _⟩
      · have z := i4 t (by omega) h2
        have := q.1
        omega
    · rw [if_neg q]
      refine ⟨i1, by omega, i3, fun t h1 h2 => ?_⟩
      by_cases r : t = s
      · subst r
        have a : ¬ pop8 t < pop8 (fewC L N ev t) := fun z => q ⟨z, h2⟩
        have b := hp t (by omega)
        rcases i2 with i2 | i2
        · rw [i2] at a
          omega
        · omega
      · exact i4 t (by omega) h2
theorem fewC_few {L : Nat → Nat} {N ev : Nat} (he : enoughL L N ev = true) (hp : ∀ t, t < ev → pop8 t < pop8 ev) : isFew L N ev (fewC L N ev ev) := by
  obtain ⟨i1, i2, i3, i4⟩ := fewC_ok he hp ev (Nat.le_refl _)
  refine ⟨i1, by omega, fun t h1 h2 => ?_⟩
  by_cases r : t = ev
  · subst r
    rcases i2 with i2 | i2
    · rw [i2]; exact Or.inr ⟨rfl, Nat.le_refl _⟩
    · have := hp _ i2
      exact Or.inl this
  · exact i4 t (by omega) h2
theorem pop8_ev : ∀ k, k < 9 → ∀ t, t < 2 ^ k - 1 → pop8 t < pop8 (2 ^ k - 1) := by decide +kernel
theorem few_eq {P : Pl} (h : P.nl ≤ 8) : P.few = fewD (fun s => P.LM (s % P.W) (s / P.W) (-9)) (P.W * P.H) (2 ^ P.nl - 1) (2 ^ P.nl - 1 + 1) := by
  have e : (fun s => P.LM (s % P.W) (s / P.W) (-9)) = P.LS (2 ^ P.nl - 1) (-9) := by
    funext s
    exact (LS_all P s).symm
  rw [e]
  exact isFew_u (fewC_few (ev_enough P) (pop8_ev P.nl (by omega))) (fewD_few (ev_enough P))
/-! best, worst -/
def bM (o : Option (Nat × Nat)) (mo sp : Int32) : Prop := (o = none ∧ mo = -1 ∧ sp = -9) ∨ ∃ s d : Nat, o = some (s, d) ∧ mo = nI d ∧ sp = nI s ∧ d ≤ 81 ∧ s ≤ 81
theorem m1_lt {d : Nat} (h : d < 2147483648) : ¬ nI d ≤ (-1 : Int32) := by
  rw [fa_le, nI_toInt h]
  have : (-1 : Int32).toInt = -1 := by decide
  omega
theorem bM_le {P : Pl} {s : Nat} {a b : Int32} (hB : PB P) (h : bM (bstC P s) a b) (hc : nI (P.dark (P.LS P.on (-9)) (s % P.W) (s / P.W)) ≤ a) : bM (bstC P (s + 1)) a b := by
  rw [bstC]
  have hd := dark_le hB (P.LS P.on (-9)) (s % P.W) (s / P.W)
  split
  · exact h
  · rcases h with ⟨h1, h2, h3⟩ | ⟨s', d', h1, h2, h3, h4, h5⟩
    · rw [h2] at hc
      exact absurd hc (m1_lt (by omega))
    · rw [h2] at hc
      have := (nI_leI (by omega) (by omega)).mp hc
      refine Or.inr ⟨s', d', ?_, h2, h3, h4, h5⟩
      rw [h1]
      show (if d' < _ then _ else _) = _
      rw [if_neg (by omega)]
theorem bM_at {P : Pl} {s : Nat} {a b : Int32} (h : bM (bstC P s) a b) (hn : ¬ P.at (s % P.W) (s / P.W) = false) : bM (bstC P (s + 1)) a b := by
  rw [bstC, if_pos (by cases q : P.at (s % P.W) (s / P.W); exact absurd q hn; rfl)]
  exact h
theorem bM_gt {P : Pl} {s : Nat} {a b : Int32} (hB : PB P) (hs : s ≤ 81) (h : bM (bstC P s) a b) (hn : P.at (s % P.W) (s / P.W) = false) (hc : ¬ nI (P.dark (P.LS P.on (-9)) (s % P.W) (s / P.W)) ≤ a) : bM (bstC P (s + 1)) (nI (P.dark (P.LS P.on (-9)) (s % P.W) (s / P.W))) (nI s) := by
  rw [bstC, if_neg (by rw [hn]; decide)]
  have hd := dark_le hB (P.LS P.on (-9)) (s % P.W) (s / P.W)
  refine Or.inr ⟨s, _, ?_, rfl, rfl, hd, hs⟩
  rcases h with ⟨h1, h2, h3⟩ | ⟨s', d', h1, h2, h3, h4, h5⟩
  · rw [h1]
  · rw [h1]
    rw [h2] at hc
    have : ¬ P.dark (P.LS P.on (-9)) (s % P.W) (s / P.W) ≤ d' := fun q => hc ((nI_leI (by omega) (by omega)).mpr q)
    show (if d' < _ then _ else _) = _
    rw [if_pos (by omega)]
def wM (o : Option (Nat × Nat)) (mo it : Int32) : Prop := (o = none ∧ mo = -1 ∧ it = -9) ∨ ∃ w d : Nat, o = some (w, d) ∧ mo = nI d ∧ it = nI w ∧ d ≤ 81
theorem wM_le {P : Pl} {w : Nat} {a b : Int32} (hB : PB P) (h4 : 4 ≤ w) (h : wM (wrsC P w) a b) (hc : nI (P.cL P.on (nI w)) ≤ a) : wM (wrsC P (w + 1)) a b := by
  rw [wrsC, if_neg (by omega)]
  have hd := cL_le hB P.on (nI w)
  rcases h with ⟨h1, h2, h3⟩ | ⟨s', d', h1, h2, h3, h4⟩
  · rw [h2] at hc
    exact absurd hc (m1_lt (by omega))
  · rw [h2] at hc
    have := (nI_leI (by omega) (by omega)).mp hc
    refine Or.inr ⟨s', d', ?_, h2, h3, h4⟩
    rw [h1]
    show (if d' < _ then _ else _) = _
    rw [if_neg (by omega)]
theorem wM_gt {P : Pl} {w : Nat} {a b : Int32} (hB : PB P) (h4 : 4 ≤ w) (h : wM (wrsC P w) a b) (hc : ¬ nI (P.cL P.on (nI w)) ≤ a) : wM (wrsC P (w + 1)) (nI (P.cL P.on (nI w))) (nI w) := by
  rw [wrsC, if_neg (by omega)]
  have hd := cL_le hB P.on (nI w)
  refine Or.inr ⟨w, _, ?_, rfl, rfl, hd⟩
  rcases h with ⟨h1, h2, h3⟩ | ⟨s', d', h1, h2, h3, h4⟩
  · rw [h1]
  · rw [h1]
    rw [h2] at hc
    have : ¬ P.cL P.on (nI w) ≤ d' := fun q => hc ((nI_leI (by omega) (by omega)).mpr q)
    show (if d' < _ then _ else _) = _
    rw [if_pos (by omega)]
theorem wM_end {P : Pl} {w : Nat} {a b : Int32} (h : wM (wrsC P w) a b) : (match wrsC P w with | none => (-9 : Int32) | some q => nI q.1) = b := by
  rcases h with ⟨h1, h2, h3⟩ | ⟨s', d', h1, h2, h3, -⟩
  · rw [h1, h3]
  · rw [h1, h3]
/-! unseen -/
def uB (P : Pl) (sn : List (Nat × Nat × Nat)) (l : Nat) : Nat → Bool
  | 0 => P.lp l 2 == 1
  | k + 1 => uB P sn l k && ((decide (¬ (P.LA (sn.getD k (0, 0, 0)).1 (sn.getD k (0, 0, 0)).2.1 P.on (-9) &&& (2 ^ l ^^^ 4294967295)) = 0)).toNat == (sn.getD k (0, 0, 0)).2.2)
theorem uns_eq (P : Pl) (sn : List (Nat × Nat × Nat)) : ∀ k, unsC P sn k = Bt (fun l => uB P sn l k) P.nl
  | 0 => rfl
  | k + 1 => by
    rw [unsC, uns_eq P sn k]
    apply Nat.eq_of_testBit_eq
    intro i
    unfold outB
    rw [Nat.testBit_and, Bt_tb, Bt_tb, Bt_tb]
    show _ = (decide (i < P.nl) && (uB P sn i k && _))
    cases decide (i < P.nl) <;> simp
theorem ev_neg {e : Nat} (h : e < 1000) : nI e - nI (e + 1) < 0 := by
  have q : nI e - nI (e + 1) = iI ((e : Int) - ((e + 1 : Nat) : Int)) := by
    rw [nI_iI, nI_iI]
    show Int32.ofInt _ - Int32.ofInt _ = Int32.ofInt _
    rw [← Int32.ofInt_sub]
  rw [q, iI_lt0 (A := 10) ⟨by omega, by omega⟩ (by decide)]
  omega
theorem ev_dec {x : Int32} {k : Nat} : x - nI (k + 1) = x - nI k + (-1 : Int32) := by
  rw [show nI (k + 1) = nI k + nI 1 from Int32.ofNat_add k 1, Int32.sub_eq_add_neg, Int32.neg_add, Int32.sub_eq_add_neg, Int32.sub_eq_add_neg, Int32.add_assoc]
  rfl
theorem ev_0 {x : Int32} : x - nI 0 = x := by
  rw [nI_0]
  exact Int32.sub_zero x
theorem in4_e {w : Int32} {k : Nat} (hk : k ≤ 1000) : in4 w k = decide (¬ w ≤ nI 3 ∧ inR w k = true) := by
  unfold in4 inR
  rw [decide_eq_decide, decide_eq_true_iff, fa_lt, fa_le, fa_le, fa_lt, nI_toInt (n := 3) (by omega), nI_toInt (n := 4) (by omega)]
  have e2 : (0 : Int32).toInt = 0 := by decide
  rw [e2]
  omega
