theorem upR_upR (σ : St) (k : Nat) (f g : Nat → Int32) : upR (upR σ k f) k g = upR σ k g := by
  funext a
  by_cases h : a = k
  · subst h; rw [upR_s, upR_s]
  · rw [upR_n _ _ h, upR_n _ _ h, upR_n _ _ h]
def w4 (g : Nat → Int32) (w x y len u : Nat) : Nat → Int32 := upd (upd (upd (upd g (26 + 4 * w) (nI x)) (26 + 4 * w + 1) (nI y)) (26 + 4 * w + 2) (nI len)) (26 + 4 * w + 3) (nI u)
theorem w4_up (σ : St) (g : Nat → Int32) (w x y len u : Nat) : upR (upR σ 56 g) 56 (upd (upd (upd (upd (upR σ 56 g 56) (26 + 4 * w) (nI x)) (26 + 4 * w + 1) (nI y)) (26 + 4 * w + 2) (nI len)) (26 + 4 * w + 3) (nI u)) = upR σ 56 (w4 g w x y len u) := by
  rw [upR_upR, upR_s]
  rfl
def wOK (g : Nat → Int32) (P : Pl) (k : Nat) : Prop := ∀ w p, w < k → p < 4 → g (26 + 4 * w + p) = nI (P.wl w p)
theorem w4_ok {g : Nat → Int32} {P : Pl} {k x y len u : Nat} (h : wOK g P k) (h0 : P.wl k 0 = x) (h1 : P.wl k 1 = y) (h2 : P.wl k 2 = len) (h3 : P.wl k 3 = u) : wOK (w4 g k x y len u) P (k + 1) := by
  intro w p hw hp
  unfold w4
  by_cases e : w = k
  · subst e
    rcases (show p = 0 ∨ p = 1 ∨ p = 2 ∨ p = 3 by omega) with rfl | rfl | rfl | rfl
    · rw [upd_n _ _ (by omega), upd_n _ _ (by omega), upd_n _ _ (by omega), h0]; exact upd_s _ _ _
    · rw [upd_n _ _ (by omega), upd_n _ _ (by omega), upd_s, h1]
    · rw [upd_n _ _ (by omega), upd_s, h2]
    · rw [upd_s, h3]
  · rw [upd_n _ _ (by omega), upd_n _ _ (by omega), upd_n _ _ (by omega), upd_n _ _ (by omega)]
    exact h w p (by omega) hp
def lOK (g : Nat → Int32) (P : Pl) (k : Nat) : Prop := ∀ l p, l < k → p < 3 → g (2 + 3 * l + p) = nI (P.lp l p)
def l3 (g : Nat → Int32) (l x y : Nat) : Nat → Int32 := upd (upd (upd g (2 + 3 * l) (nI x)) (2 + 3 * l + 1) (nI y)) (2 + 3 * l + 2) (nI 1)
theorem l3_up (σ : St) (g : Nat → Int32) (l x y : Nat) : up (up (up (upR σ 56 g) 56 (2 + 3 * l) (nI x)) 56 (2 + 3 * l + 1) (nI y)) 56 (2 + 3 * l + 2) (nI 1) = upR σ 56 (l3 g l x y) := by
  funext k
  by_cases h : k = 56
  · subst h; simp only [up, upR_s]; rfl
  · simp only [up, upR_n _ _ h]
theorem l3_ok {g : Nat → Int32} {P : Pl} {k x y : Nat} (h : lOK g P k) (h0 : P.lp k 0 = x) (h1 : P.lp k 1 = y) (h2 : P.lp k 2 = 1) : lOK (l3 g k x y) P (k + 1) := by
  intro l p hl hp
  unfold l3
  by_cases e : l = k
  · subst e
    rcases (show p = 0 ∨ p = 1 ∨ p = 2 by omega) with rfl | rfl | rfl
    · rw [upd_n _ _ (by omega), upd_n _ _ (by omega), h0]; exact upd_s _ _ _
    · rw [upd_n _ _ (by omega), upd_s, h1]
    · rw [upd_s, h2]
  · rw [upd_n _ _ (by omega), upd_n _ _ (by omega), upd_n _ _ (by omega)]
    exact h l p (by omega) hp
theorem l3_w {g : Nat → Int32} {P : Pl} {k l x y : Nat} (h : wOK g P k) (hl : l < 8) : wOK (l3 g l x y) P k := by
  intro w p hw hp
  unfold l3
  rw [upd_n _ _ (by omega), upd_n _ _ (by omega), upd_n _ _ (by omega)]
  exact h w p hw hp
def bec (σ : St) (P : Pl) (g : Nat → Int32) : St := up (up (up (up (up (up (upR (up (up σ 55 1 (nI P.W)) 55 2 (nI P.H)) 56 g) 56 0 (nI P.nl)) 56 1 (nI (P.nw - 4 + 4))) 55 5 (nI 0)) 55 8 (nI 0)) 59 0 (nI 0)) 59 1 (nI 0)
theorem bec_55 (σ : St) (P : Pl) (g : Nat → Int32) : bec σ P g 55 = upd (upd (upd (upd (σ 55) 1 (nI P.W)) 2 (nI P.H)) 5 (nI 0)) 8 (nI 0) := by
  unfold bec
  simp only [up, upR_s, upR_n _ _ (show (55 : Nat) ≠ 56 by decide), upR_n _ _ (show (55 : Nat) ≠ 59 by decide)]
theorem bec_56 (σ : St) (P : Pl) (g : Nat → Int32) : bec σ P g 56 = upd (upd g 0 (nI P.nl)) 1 (nI (P.nw - 4 + 4)) := by
  unfold bec
  simp only [up, upR_s, upR_n _ _ (show (56 : Nat) ≠ 55 by decide), upR_n _ _ (show (56 : Nat) ≠ 59 by decide)]
theorem bec_59 (σ : St) (P : Pl) (g : Nat → Int32) : bec σ P g 59 = upd (upd (σ 59) 0 (nI 0)) 1 (nI 0) := by
  unfold bec
  simp only [up, upR_s, upR_n _ _ (show (59 : Nat) ≠ 55 by decide), upR_n _ _ (show (59 : Nat) ≠ 56 by decide)]
theorem bec_n (σ : St) (P : Pl) (g : Nat → Int32) {a : Nat} (h1 : a ≠ 55) (h2 : a ≠ 56) (h3 : a ≠ 59) : bec σ P g a = σ a := by
  unfold bec
  simp only [up, upR_n _ _ h1, upR_n _ _ h2, upR_n _ _ h3]
theorem bec_MR {σ : St} {P : Pl} {g : Nat → Int32} {t : Nat → Nat} {m : Nat} (h0 : σ 55 0 = nI 0) (hT : MTx σ t m) (h4 : 4 ≤ P.nw) (hw : wOK g P P.nw) (hl : lOK g P P.nl) : MR (bec σ P g) (P, t, m, [], fun _ => none, []) := by
  refine ⟨?_, ⟨?_, ?_, ?_, ?_, fun w p q r => ?_, fun l p q r => ?_⟩, ?_, ⟨?_, Nat.zero_le _, fun i hi => absurd hi (Nat.not_lt_zero i)⟩, fun i hi => ⟨fun _ => ?_, fun Q r => by cases r⟩, ?_, fun i hi => absurd hi (Nat.not_lt_zero i)⟩
  · rw [bec_55, upd_n _ _ (by decide), upd_n _ _ (by decide), upd_n _ _ (by decide), upd_n _ _ (by decide)]; exact h0
  · rw [bec_55, upd_n _ _ (by decide), upd_n _ _ (by decide), upd_n _ _ (by decide)]; exact upd_s _ _ _
  · rw [bec_55, upd_n _ _ (by decide), upd_n _ _ (by decide)]; exact upd_s _ _ _
  · rw [bec_56, upd_n _ _ (by decide)]; exact upd_s _ _ _
  · rw [bec_56, upd_s]; exact congrArg nI (show P.nw - 4 + 4 = P.nw by omega)
  · rw [bec_56, upd_n _ _ (by omega), upd_n _ _ (by omega)]; exact hw w p q r
  · rw [bec_56, upd_n _ _ (by omega), upd_n _ _ (by omega)]; exact hl l p q r
  · unfold MTx
    rw [bec_n (a := 63) _ _ _ (by decide) (by decide) (by decide), bec_55, upd_n _ _ (by decide), upd_n _ _ (by decide), upd_n _ _ (by decide), upd_n _ _ (by decide)]
    exact hT
  · rw [bec_55, upd_n _ _ (by decide)]; exact upd_s _ _ _
  · rw [bec_59]
    rcases (show i = 0 ∨ i = 1 by omega) with rfl | rfl
    · rw [upd_n _ _ (by decide)]; exact upd_s _ _ _
    · exact upd_s _ _ _
  · rw [bec_55]; exact upd_s _ _ _
theorem lk_out {c : Nat} (hc : c ≤ 3000) (s1 : ¬ c = 98) (s2 : ¬ c = 114) (s3 : ¬ c = 117) (s4 : ¬ c = 108) : Op.lookupswitch.offset [(98, 44), (108, 62), (114, 50), (117, 56)] 67 (tmI c).toInt = 67 := by
  rw [lv_osw (k := nI 98) (fun q => s1 ((tmI_lit hc (by decide)).mp q)) (by decide), lv_osw (k := nI 108) (fun q => s4 ((tmI_lit hc (by decide)).mp q)) (by decide), lv_osw (k := nI 114) (fun q => s2 ((tmI_lit hc (by decide)).mp q)) (by decide), lv_osw (k := nI 117) (fun q => s3 ((tmI_lit hc (by decide)).mp q)) (by decide)]
  rfl
theorem upR_55 {σ : St} {k j : Nat} {f : Nat → Int32} (h : 55 ≠ k) : upR σ k f 55 j = σ 55 j := by rw [upR_n _ _ h]
theorem ItP_b {σ σ' : St} {r : Nat ⊕ (Pl × Nat)} {v : Option Value} (h : ItP σ r v σ') : ∃ b : Nat, v = some (.int (nI b)) ∧ b ≤ 1 ∧ ItP σ r (some (.int (nI b))) σ' := by
  have h0 := h
  obtain ⟨hf, h⟩ := h
  rcases r with s | q
  · exact ⟨0, h.1, by decide, by rw [← h.1]; exact h0⟩
  · exact ⟨1, h.1, by decide, by rw [← h.1]; exact h0⟩
theorem nar_b {b : Nat} (h : b ≤ 1) : narrow .boolean (.int (nI b)) = .int (nI b) := by
  rcases (show b = 0 ∨ b = 1 by omega) with rfl | rfl
  · rfl
  · rfl
theorem FrT_M {σ σ' : St} (h : FrT σ σ') : FrM σ σ' := fun a ha => h.1 a (by omega) (by omega) (by omega)
theorem FrT_MR {σ σ' : St} {A : Ab} (hR : MR σ A) (h : FrT σ σ') : MR σ' A := MR_eq hR (fun i hi => h.2 i (by omega)) (fun a h1 h2 => h.1 a (by omega) (by omega) (by omega))
theorem itemM_b {t : Nat → Nat} {m p items c s : Nat} {P : Pl} {q : Pl × Nat} (hG : PGt P) (hp : p ≤ m) (h : itemM t m P items c s p = .inr q) : PGt q.1 ∧ p ≤ q.2 ∧ q.2 ≤ m := by
  have hB := hG.1.1
  obtain ⟨b1, b2, b3, b4, b5, b6, b7⟩ := hB
  have hw : ∀ u, u ≤ 1 → P.nw < 14 → wallM t m P u p = .inr q → PGt q.1 ∧ p ≤ q.2 ∧ q.2 ≤ m := by
    intro u hu hn h
    unfold wallM at h
    split at h
    · cases h
    · next a ha =>
      have h1 := numR_b hp ha
      split at h
      · cases h
      · next b hb =>
        have h2 := numR_b h1.2.2.2 hb
        split at h
        · cases h
        · next c hc =>
          have h3 := numR_b h2.2.2.2 hc
          cases h
          rcases (show u = 0 ∨ u = 1 by omega) with rfl | rfl
          · rw [if_neg (by decide)] at h1 h2 h3
            exact ⟨PGt_addW hG hn (by decide) (by omega) (by omega) h3.1 (fun _ => by omega) (fun q => by omega), by show p ≤ c.2; omega, h3.2.2.2⟩
          · rw [if_pos rfl] at h1 h2 h3
            exact ⟨PGt_addW hG hn (by decide) (by omega) (by omega) h3.1 (fun q => by omega) (fun _ => by omega), by show p ≤ c.2; omega, h3.2.2.2⟩
  have hs : sizeM t m p = .inr q → PGt q.1 ∧ p ≤ q.2 ∧ q.2 ≤ m := by
    intro h
    unfold sizeM at h
    split at h
    · cases h
    · next a ha =>
      have h1 := numR_b hp ha
      split at h
      · cases h
      · next b hb =>
        have h2 := numR_b h1.2.2.2 hb
        cases h
        exact ⟨PG_P0 h1.1 h1.2.1 h2.1 h2.2.1, by show p ≤ b.2; omega, h2.2.2.2⟩
  have hl : P.nl < 8 → lampM t m P p = .inr q → PGt q.1 ∧ p ≤ q.2 ∧ q.2 ≤ m := by
    intro hn h
    unfold lampM at h
    split at h
    · cases h
    · next a ha =>
      have h1 := numR_b hp ha
      split at h
      · cases h
      · next b hb =>
        have h2 := numR_b h1.2.2.2 hb
        split at h
        · cases h
        · cases h
          exact ⟨PGt_addL hG hn (by omega) (by omega), by show p ≤ b.2; omega, h2.2.2.2⟩
  unfold itemM at h
  split at h
  · split at h
    · exact hs h
    · cases h
  · split at h
    · split at h
      · next z => exact hw 0 (by decide) z h
      · cases h
    · split at h
      · split at h
        · next z => exact hw 1 (by decide) z h
        · cases h
      · split at h
        · split at h
          · next z => exact hl z h
          · cases h
        · cases h
