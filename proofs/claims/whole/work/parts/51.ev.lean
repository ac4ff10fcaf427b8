def S6 (σ : St) (A B : Nat → Int32) : St := upR (upR σ 66 A) 67 B
theorem S6_66 (σ : St) (A B : Nat → Int32) : S6 σ A B 66 = A := by unfold S6; rw [upR_n _ _ (by decide), upR_s]
theorem S6_67 (σ : St) (A B : Nat → Int32) : S6 σ A B 67 = B := upR_s _ _ _
theorem S6_n (σ : St) (A B : Nat → Int32) {a : Nat} (h1 : a ≠ 66) (h2 : a ≠ 67) : S6 σ A B a = σ a := by unfold S6; rw [upR_n _ _ h2, upR_n _ _ h1]
theorem S6_u4 (σ : St) (A B : Nat → Int32) (i : Nat) (v : Int32) : up (S6 σ A B) 66 i v = S6 σ (upd A i v) B := by
  funext a
  by_cases h : a = 66
  · subst h; rw [S6_66]; simp only [up, upR_s, S6_66]
  · by_cases h2 : a = 67
    · subst h2; rw [S6_67]; simp only [up, upR_n _ _ (show (67 : Nat) ≠ 66 by decide), S6_67]
    · rw [S6_n _ _ _ h h2]; simp only [up, upR_n _ _ h, S6_n _ _ _ h h2]
theorem S6_u5 (σ : St) (A B : Nat → Int32) (i : Nat) (v : Int32) : up (S6 σ A B) 67 i v = S6 σ A (upd B i v) := by
  funext a
  by_cases h : a = 67
  · subst h; rw [S6_67]; simp only [up, upR_s, S6_67]
  · by_cases h2 : a = 66
    · subst h2; rw [S6_66]; simp only [up, upR_n _ _ (show (66 : Nat) ≠ 67 by decide), S6_66]
    · rw [S6_n _ _ _ h2 h]; simp only [up, upR_n _ _ h, S6_n _ _ _ h2 h]
theorem S6_id (σ : St) : S6 σ (σ 66) (σ 67) = σ := by
  funext a
  by_cases h : a = 66
  · subst h; rw [S6_66]
  · by_cases h2 : a = 67
    · subst h2; rw [S6_67]
    · rw [S6_n _ _ _ h h2]
def EvM (σ : St) (E : List Dr) : Prop := σ 55 24 = nI E.length ∧ ∀ i, i < E.length → σ 66 i = iI (E.getD i (0, 0)).1 ∧ σ 67 i = iI (E.getD i (0, 0)).2
theorem ev_ins {σ : St} {E : List Dr} {d : Dr} {p : Nat} (hR : EvM σ E) (hp : p ≤ E.length) (h1 : ∀ j, j < p → ahd (E.getD j (0, 0)) d = true) (h2 : p < E.length → ahd (E.getD p (0, 0)) d = false) (h3 : ¬ (p < E.length ∧ E.getD p (0, 0) = d)) : EvM (up (S6 σ (upd (shf (σ 66) p E.length) p (iI d.1)) (upd (shf (σ 67) p E.length) p (iI d.2))) 55 24 (nI (E.length + 1))) (insE d E) := by
  have e0 : (up (S6 σ (upd (shf (σ 66) p E.length) p (iI d.1)) (upd (shf (σ 67) p E.length) p (iI d.2))) 55 24 (nI (E.length + 1))) 55 = upd (σ 55) 24 (nI (E.length + 1)) := by
    simp only [up, upR_s, S6_n _ _ _ (show (55 : Nat) ≠ 66 by decide) (show (55 : Nat) ≠ 67 by decide)]
  have e1 : (up (S6 σ (upd (shf (σ 66) p E.length) p (iI d.1)) (upd (shf (σ 67) p E.length) p (iI d.2))) 55 24 (nI (E.length + 1))) 66 = upd (shf (σ 66) p E.length) p (iI d.1) := by
    simp only [up, upR_n _ _ (show (66 : Nat) ≠ 55 by decide), S6_66]
  have e2 : (up (S6 σ (upd (shf (σ 66) p E.length) p (iI d.1)) (upd (shf (σ 67) p E.length) p (iI d.2))) 55 24 (nI (E.length + 1))) 67 = upd (shf (σ 67) p E.length) p (iI d.2) := by
    simp only [up, upR_n _ _ (show (67 : Nat) ≠ 55 by decide), S6_67]
  have hI := insE_at E d p hp h1 h2
  rw [if_neg h3] at hI
  unfold EvM
  rw [e0, e1, e2, hI, ins_len hp, upd_s]
  refine ⟨rfl, fun i hi => ?_⟩
  rw [ins_get hp hi]
  by_cases q1 : i < p
  · rw [if_pos q1, upd_n _ _ (by omega), upd_n _ _ (by omega)]
    unfold shf
    rw [if_neg (by omega), if_neg (by omega)]
    exact hR.2 i (by omega)
  · rw [if_neg q1]
    by_cases q2 : i = p
    · rw [if_pos q2, q2, upd_s, upd_s]
      exact ⟨rfl, rfl⟩
    · rw [if_neg q2, upd_n _ _ q2, upd_n _ _ q2]
      unfold shf
      rw [if_pos (by omega), if_pos (by omega)]
      exact hR.2 (i - 1) (by omega)
def FrE (σ σ' : St) : Prop := (∀ a, a ≠ 55 → a ≠ 66 → a ≠ 67 → σ' a = σ a) ∧ ∀ i, i < 24 → σ' 55 i = σ 55 i
theorem FrE.rf {σ : St} : FrE σ σ := ⟨fun _ _ _ _ => rfl, fun _ _ => rfl⟩
theorem FrE.tr {σ σ' σ'' : St} (h : FrE σ σ') (h2 : FrE σ' σ'') : FrE σ σ'' := ⟨fun a h3 h4 h5 => (h2.1 a h3 h4 h5).trans (h.1 a h3 h4 h5), fun i hi => (h2.2 i hi).trans (h.2 i hi)⟩
theorem FrE.mp {σ σ' : St} {P : Pl} (h : FrE σ σ') (hM : MP σ P) : MP σ' P := by
  unfold MP
  rw [h.2 1 (by decide), h.2 2 (by decide), h.1 56 (by decide) (by decide) (by decide)]
  exact hM
theorem FrE.mr {σ σ' : St} {A : Ab} (h : FrE σ σ') (hM : MR σ A) : MR σ' A := MR_eq hM (fun i hi => h.2 i (by omega)) (fun a h1 h2 => h.1 a (by omega) (by omega) (by omega))
theorem FrE.m {σ σ' : St} (h : FrE σ σ') : FrM σ σ' := fun a ha => h.1 a (by omega) (by omega) (by omega)
def F27 (σ σ' : St) : Prop := (∀ a, a ≠ 55 → σ' a = σ a) ∧ ∀ i, i ≠ 27 → i ≠ 28 → σ' 55 i = σ 55 i
theorem F27.rf {σ : St} : F27 σ σ := ⟨fun _ _ => rfl, fun _ _ _ => rfl⟩
theorem F27.tr {σ σ' σ'' : St} (h : F27 σ σ') (h2 : F27 σ' σ'') : F27 σ σ'' := ⟨fun a h3 => (h2.1 a h3).trans (h.1 a h3), fun i h3 h4 => (h2.2 i h3 h4).trans (h.2 i h3 h4)⟩
theorem F27.fe {σ σ' : St} (h : F27 σ σ') : FrE σ σ' := ⟨fun a h1 _ _ => h.1 a h1, fun i hi => h.2 i (by omega) (by omega)⟩
theorem F27.ev {σ σ' : St} {E : List Dr} (h : F27 σ σ') (hE : EvM σ E) : EvM σ' E := by
  unfold EvM
  rw [h.2 24 (by decide) (by decide), h.1 66 (by decide), h.1 67 (by decide)]
  exact hE
theorem inN {a b c : Nat} (ha : a < 1000) (hb : b < 1000) (hc : c < 1000) : decide (¬ nI a < nI b ∧ ¬ nI c < nI a) = decide (b ≤ a ∧ a ≤ c) := by
  rw [decide_eq_decide, nI_ltI (by omega) (by omega), nI_ltI (by omega) (by omega)]
  omega
theorem nxt_mod {m k : Nat} (h : k < m) : (k + 1) % m = nxt m k := by
  unfold nxt
  split
  · next q => exact Nat.mod_eq_of_lt q
  · next q => rw [show k + 1 = m by omega, Nat.mod_self]
theorem lin_odd (P : Pl) (lx ly w : Nat) : ¬ P.lin lx ly w = 0 := by
  unfold Pl.lin
  split <;> omega
