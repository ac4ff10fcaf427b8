/-! ===== the model's object ===== -/
def RwM (f : Nat → Int32) (P : Pl) : Prop := f 0 = nI P.nl ∧ f 1 = nI P.nw ∧ (∀ w p, w < P.nw → p < 4 → f (26 + 4 * w + p) = nI (P.wl w p)) ∧ ∀ l p, l < P.nl → p < 3 → f (2 + 3 * l + p) = nI (P.lp l p)
def MP (σ : St) (P : Pl) : Prop := σ 55 1 = nI P.W ∧ σ 55 2 = nI P.H ∧ RwM (σ 56) P
theorem MP.w {σ : St} {P : Pl} (h : MP σ P) : σ 55 1 = nI P.W := h.1
theorem MP.h {σ : St} {P : Pl} (h : MP σ P) : σ 55 2 = nI P.H := h.2.1
theorem MP.nl {σ : St} {P : Pl} (h : MP σ P) : σ 56 0 = nI P.nl := h.2.2.1
theorem MP.nw {σ : St} {P : Pl} (h : MP σ P) : σ 56 1 = nI P.nw := h.2.2.2.1
theorem MP.wl {σ : St} {P : Pl} (h : MP σ P) {w p : Nat} (hw : w < P.nw) (hp : p < 4) : σ 56 (26 + 4 * w + p) = nI (P.wl w p) := h.2.2.2.2.1 w p hw hp
theorem MP.lp {σ : St} {P : Pl} (h : MP σ P) {l p : Nat} (hl : l < P.nl) (hp : p < 3) : σ 56 (2 + 3 * l + p) = nI (P.lp l p) := h.2.2.2.2.2 l p hl hp
def MTx (σ : St) (t : Nat → Nat) (m : Nat) : Prop := σ 55 12 = nI m ∧ m ≤ 120 ∧ ∀ i, i < m → σ 63 i = nI (t i) ∧ t i < 256
def MHs (σ : St) (hs : List Pl) : Prop := σ 55 5 = nI hs.length ∧ hs.length ≤ 10 ∧ ∀ i, i < hs.length → RwM (fun k => σ 57 (82 * i + k)) (hs.reverse.getD i (P0 6 6))
def MIm (σ : St) (im : Nat → Option Pl) : Prop := ∀ i, i < 2 → (im i = none → σ 59 i = nI 0) ∧ ∀ Q, im i = some Q → σ 59 i = nI 1 ∧ RwM (fun k => σ 58 (82 * i + k)) Q
def MSn (σ : St) (sn : List (Nat × Nat × Nat)) : Prop := σ 55 8 = nI sn.length ∧ ∀ i, i < sn.length → σ 60 i = nI (sn.getD i (0, 0, 0)).1 ∧ σ 61 i = nI (sn.getD i (0, 0, 0)).2.1 ∧ σ 62 i = nI (sn.getD i (0, 0, 0)).2.2
/-- the model's cells hold the object -/
def MR (σ : St) (A : Ab) : Prop := σ 55 0 = nI 0 ∧ MP σ A.P ∧ MTx σ A.t A.m ∧ MHs σ A.hs ∧ MIm σ A.im ∧ MSn σ A.sn
def FrM (σ σ' : St) : Prop := ∀ a, a < 55 → σ' a = σ a
theorem FrM.rf {σ : St} : FrM σ σ := fun _ _ => rfl
theorem FrM.tr {σ σ' σ'' : St} (h : FrM σ σ') (h2 : FrM σ' σ'') : FrM σ σ'' := fun a ha => (h2 a ha).trans (h a ha)
theorem FrM.of {S : List Nat} {σ σ' : St} (h : Fr S σ σ') (hs : ∀ a ∈ S, 55 ≤ a) : FrM σ σ' := fun a ha => h a (fun q => by have := hs a q; omega)
theorem FrM.put {σ σ' : St} (h : FrM σ σ') {k i : Nat} {v : Int32} (hk : 55 ≤ k) : FrM σ (up σ' k i v) := fun a ha => by
  rw [show up σ' k i v a = σ' a from upR_n _ _ (by omega)]
  exact h a ha
def oM (σ : St) (r : Int32 × Ab) : Option Value → St → Prop := fun v σ' => v = some (.int r.1) ∧ MR σ' r.2 ∧ FrM σ σ'
theorem oM_e {σ σ' : St} {r : Int32 × Ab} {x : Int32} {A : Ab} (h : r = (x, A)) (hC : MR σ' A) (hf : FrM σ σ') : oM σ r (some (.int x)) σ' := by
  subst h
  exact ⟨rfl, hC, hf⟩
theorem oM_q {σ σ' : St} {y : Int32} {A : Ab} {x : Int32} (h : y = x) (hC : MR σ' A) (hf : FrM σ σ') : oM σ (y, A) (some (.int x)) σ' := oM_e (by rw [h]) hC hf
theorem sub1_t {k : Nat} (hk : k ≤ 1000) : (nI k - nI 1).toInt = (k : Int) - 1 := by
  have e : nI k - nI 1 = iI ((k : Int) - 1) := by
    rw [nI_iI, nI_iI]
    show Int32.ofInt _ - Int32.ofInt _ = Int32.ofInt _
    rw [← Int32.ofInt_sub]
    rfl
  rw [e]
  exact iI_t (A := 1000) ⟨by omega, by omega⟩ (by decide)
theorem in_R {x : Int32} {k : Nat} (hk : k ≤ 1000) : decide (¬ x < nI 0 ∧ ¬ (nI k - nI 1) < x) = inR x k := by
  unfold inR
  rw [decide_eq_decide]
  rw [fa_lt, fa_lt, fa_lt, fa_le, sub1_t hk, nI_toInt (n := 0) (by omega), nI_toInt (n := k) (by omega)]
  have e2 : (0 : Int32).toInt = 0 := by decide
  rw [e2]
  omega
theorem in_k {x : Int32} {k : Nat} (hk : k ≤ 1000) : decide (¬ x < nI 0 ∧ ¬ nI k < x) = decide (¬ x < 0 ∧ x ≤ nI k) := by
  rw [decide_eq_decide, Int32.not_lt (a := nI k), nI_0]
def Pl.LM (P : Pl) (x y : Nat) (wo : Int32) : Nat := Bt (fun l => P.free (P.lp l 0) (P.lp l 1) x y wo) P.nl
theorem LM_and (P : Pl) (x y q : Nat) (wo : Int32) : P.LM x y wo &&& q = P.LA x y q wo := by
  apply Nat.eq_of_testBit_eq
  intro i
  rw [Nat.testBit_and]
  unfold Pl.LM Pl.LA
  rw [Bt_tb, Bt_tb, Bool.and_assoc, Bool.and_comm (P.free _ _ _ _ _)]
theorem LM_on {P : Pl} {x y : Nat} {wo : Int32} : nI (P.LM x y wo) &&& nI P.on = nI (P.LA x y P.on wo) := by rw [fa_and, LM_and]
theorem LA_pow {P : Pl} {x y l : Nat} {wo : Int32} (hl : l < P.nl) : decide (¬ P.LA x y (2 ^ l) wo = 0) = P.free (P.lp l 0) (P.lp l 1) x y wo := by
  cases hf : P.free (P.lp l 0) (P.lp l 1) x y wo
  · refine decide_eq_false (fun q => q (Nat.eq_of_testBit_eq (fun i => ?_)))
    unfold Pl.LA
    rw [Bt_tb, Nat.zero_testBit, Nat.testBit_two_pow]
    by_cases h : l = i
    · subst h; rw [hf]; simp
    · rw [decide_eq_false h]; simp
  · refine decide_eq_true (fun q => ?_)
    have z : (P.LA x y (2 ^ l) wo).testBit l = true := by
      unfold Pl.LA
      rw [Bt_tb, Nat.testBit_two_pow, decide_eq_true hl, hf, decide_eq_true (rfl : l = l)]
      rfl
    rw [q, Nat.zero_testBit] at z
    cases z
theorem fa_cnt_c {p q : Nat → Bool} : ∀ n, (∀ s, s < n → p s = q s) → fa_cnt p n = fa_cnt q n
  | 0, _ => rfl
  | n + 1, h => by
    have ih := fa_cnt_c n (fun s hs => h s (by omega))
    have hn := h n (Nat.lt_succ_self n)
    cases hq : q n
    · rw [fa_cnt_no hq, fa_cnt_no (hn.trans hq), ih]
    · rw [fa_cnt_yes hq, fa_cnt_yes (hn.trans hq), ih]
theorem MR_S {σ σ' : St} {A : Ab} {sn' : List (Nat × Nat × Nat)} (h : MR σ A) (h0 : ∀ i, i ≠ 8 → σ' 55 i = σ 55 i) (he : ∀ a, a ≠ 55 → a ≠ 60 → a ≠ 61 → a ≠ 62 → σ' a = σ a) (hS : MSn σ' sn') : MR σ' (A.P, A.t, A.m, A.hs, A.im, sn') := by
  obtain ⟨h1, ⟨h2, h3, h4⟩, ⟨h5, h6, h7⟩, ⟨h8, h9, h10⟩, h11, h12⟩ := h
  refine ⟨by rw [h0 0 (by decide)]; exact h1, ⟨by rw [h0 1 (by decide)]; exact h2, by rw [h0 2 (by decide)]; exact h3, by rw [he 56 (by decide) (by decide) (by decide) (by decide)]; exact h4⟩, ⟨by rw [h0 12 (by decide)]; exact h5, h6, by rw [he 63 (by decide) (by decide) (by decide) (by decide)]; exact h7⟩, ⟨by rw [h0 5 (by decide)]; exact h8, h9, by rw [he 57 (by decide) (by decide) (by decide) (by decide)]; exact h10⟩, ?_, hS⟩
  unfold MIm
  rw [he 59 (by decide) (by decide) (by decide) (by decide), he 58 (by decide) (by decide) (by decide) (by decide)]
  exact h11
theorem MR_T {σ σ' : St} {A : Ab} {t' : Nat → Nat} {m' : Nat} (h : MR σ A) (h0 : ∀ i, i ≠ 12 → σ' 55 i = σ 55 i) (he : ∀ a, a ≠ 55 → a ≠ 63 → σ' a = σ a) (hT : MTx σ' t' m') : MR σ' (A.P, t', m', A.hs, A.im, A.sn) := by
  obtain ⟨h1, ⟨h2, h3, h4⟩, -, ⟨h8, h9, h10⟩, h11, h12, h13⟩ := h
  refine ⟨by rw [h0 0 (by decide)]; exact h1, ⟨by rw [h0 1 (by decide)]; exact h2, by rw [h0 2 (by decide)]; exact h3, by rw [he 56 (by decide) (by decide)]; exact h4⟩, hT, ⟨by rw [h0 5 (by decide)]; exact h8, h9, by rw [he 57 (by decide) (by decide)]; exact h10⟩, ?_, by rw [h0 8 (by decide)]; exact h12, ?_⟩
  · unfold MIm
    rw [he 59 (by decide) (by decide), he 58 (by decide) (by decide)]
    exact h11
  · rw [he 60 (by decide) (by decide), he 61 (by decide) (by decide), he 62 (by decide) (by decide)]
    exact h13
theorem at_f {P : Pl} {x y : Nat} (h : ∀ l, l < P.nl → ¬ (P.lp l 0 = x ∧ P.lp l 1 = y)) : P.at x y = false := decide_eq_false (fun ⟨l, q1, q2⟩ => h l q1 q2)
theorem at_t {P : Pl} {x y l : Nat} (hl : l < P.nl) (h1 : P.lp l 0 = x) (h2 : P.lp l 1 = y) : P.at x y = true := decide_eq_true ⟨l, hl, h1, h2⟩
theorem in_lt {x : Int32} {k : Nat} (hk : k ≤ 1000) : decide (¬ x < nI 0 ∧ ¬ nI k < x) = decide (¬ x < 0 ∧ x < nI (k + 1)) := by
  rw [decide_eq_decide, fa_lt, fa_lt, fa_lt, fa_lt, nI_toInt (by omega), nI_toInt (by omega), nI_toInt (by omega)]
  have e2 : (0 : Int32).toInt = 0 := by decide
  rw [e2]
  omega
theorem ty_55 (σ : St) (m : Nat) (a b : Int32) : ∀ i, i ≠ 12 → up (up σ 63 m a) 55 12 b 55 i = σ 55 i := fun i hi => by
  rw [show up (up σ 63 m a) 55 12 b 55 = upd (up σ 63 m a 55) 12 b from upR_s _ _ _, upd_n _ _ hi]
  rw [show up σ 63 m a 55 = σ 55 from upR_n _ _ (by decide)]
theorem ty_n (σ : St) (m : Nat) (a b : Int32) : ∀ k, k ≠ 55 → k ≠ 63 → up (up σ 63 m a) 55 12 b k = σ k := fun k h1 h2 => (upR_n _ _ h1).trans (upR_n _ _ h2)
theorem ty_tx {σ : St} {t : Nat → Nat} {m j : Nat} (h : MTx σ t m) (hm : m < 120) (hj : j < 256) : MTx (up (up σ 63 m (nI j)) 55 12 (nI (m + 1))) (fun i => if i = m then j else t i) (m + 1) := by
  have e1 : up (up σ 63 m (nI j)) 55 12 (nI (m + 1)) 63 = upd (σ 63) m (nI j) := (upR_n _ _ (by decide)).trans (upR_s _ _ _)
  refine ⟨by rw [show up (up σ 63 m (nI j)) 55 12 (nI (m + 1)) 55 = upd (up σ 63 m (nI j) 55) 12 (nI (m + 1)) from upR_s _ _ _, upd_s], by omega, fun i hi => ?_⟩
  rw [e1]
  by_cases q : i = m
  · subst q
    rw [upd_s]
    show nI j = nI (if i = i then j else t i) ∧ (if i = i then j else t i) < 256
    rw [if_pos rfl]
    exact ⟨rfl, hj⟩
  · rw [upd_n _ _ q]
    show _ = nI (if i = m then j else t i) ∧ (if i = m then j else t i) < 256
    rw [if_neg q]
    exact h.2.2 i (by omega)
