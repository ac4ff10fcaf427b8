/-! ===== the model's text ===== -/
def tmI (c : Nat) : Int32 := if c = 3000 then -1 else nI c
theorem tmI_n {c : Nat} (h : ¬ c = 3000) : tmI c = nI c := if_neg h
theorem tmI_3 : tmI 3000 = -1 := if_pos rfl
theorem nI_m1 {c : Nat} (h : c < 2147483648) : ¬ nI c = -1 := fun q => by
  have z := congrArg Int32.toInt q
  rw [nI_toInt h] at z
  have : (-1 : Int32).toInt = -1 := by decide
  omega
theorem tmI_m1 {c : Nat} (h : c ≤ 3000) : tmI c = -1 ↔ c = 3000 := by
  constructor
  · intro q
    by_cases r : c = 3000
    · exact r
    · rw [tmI_n r] at q
      exact absurd q (nI_m1 (by omega))
  · intro q
    rw [q]; exact tmI_3
theorem tmI_lit {c k : Nat} (hc : c ≤ 3000) (hk : k < 3000) : tmI c = nI k ↔ c = k := by
  constructor
  · intro q
    by_cases r : c = 3000
    · rw [r, tmI_3] at q
      exact absurd q.symm (nI_m1 (by omega))
    · rw [tmI_n r] at q
      exact nI_inj q (by omega) (by omega)
  · intro q
    rw [q]; exact tmI_n (by omega)
def F5 (σ σ' : St) (lo hi : Nat) : Prop := (∀ a, a ≠ 55 → σ' a = σ a) ∧ ∀ i, (i < lo ∨ hi ≤ i) → σ' 55 i = σ 55 i
theorem MTx.fr {σ σ' : St} {t : Nat → Nat} {m : Nat} (h : MTx σ t m) (h12 : σ' 55 12 = nI m) (h63 : σ' 63 = σ 63) : MTx σ' t m := ⟨h12, h.2.1, fun i hi => by rw [h63]; exact h.2.2 i hi⟩
theorem up_o55 {σ : St} {i j : Nat} {v : Int32} (h : j ≠ i) : up σ 55 i v 55 j = σ 55 j := by
  rw [show up σ 55 i v 55 = upd (σ 55) i v from upR_s _ _ _, upd_n _ _ h]
theorem MTx_up {σ : St} {t : Nat → Nat} {m i : Nat} {v : Int32} (h : MTx σ t m) (hi : 12 ≠ i) : MTx (up σ 55 i v) t m := h.fr ((up_o55 hi).trans h.1) (upR_n _ _ (by decide))
theorem up_i55 {σ : St} {i : Nat} {v : Int32} : up σ 55 i v 55 i = v := by
  rw [show up σ 55 i v 55 = upd (σ 55) i v from upR_s _ _ _, upd_s]
theorem up_oc {σ : St} {k a j : Nat} {v : Int32} (h : 55 ≠ k) : up σ k a v 55 j = σ 55 j := by
  rw [show up σ k a v 55 = σ 55 from upR_n _ _ h]
theorem up_row {σ : St} {k a : Nat} {v : Int32} {f : Nat → Int32} (h : σ k = f) : up σ k a v k = upd f a v := by
  rw [show up σ k a v k = upd (σ k) a v from upR_s _ _ _, h]
theorem inF {c : Nat} (hc : c < 256) : decide (¬ nI c < nI 48 ∧ ¬ nI 57 < nI c) = isF c := by
  unfold isF
  rw [decide_eq_decide, nI_ltI (by omega) (by decide), nI_ltI (by decide) (by omega)]
  omega
theorem okM {c lo hi : Nat} (hc : c < 256 ∨ (1000 ≤ c ∧ c ≤ 1009) ∨ c = 2000 ∨ c = 3000) (hlo : lo ≤ 9) (hhi : hi ≤ 9) : decide (¬ (tmI c - nI 1000) < nI lo ∧ ¬ nI hi < (tmI c - nI 1000)) = okN c lo hi := by
  have e : (tmI c - nI 1000).toInt = (if c = 3000 then -1 else (c : Int)) - 1000 := by
    unfold tmI
    by_cases q : c = 3000
    · rw [if_pos q, if_pos q]; decide
    · rw [if_neg q, if_neg q, nI_iI, nI_iI]
      have z : iI (c : Int) - iI ((1000 : Nat) : Int) = iI ((c : Int) - 1000) := by
        show Int32.ofInt _ - Int32.ofInt _ = Int32.ofInt _
        rw [← Int32.ofInt_sub]
        rfl
      rw [z]
      exact iI_t (A := 10000) ⟨by omega, by omega⟩ (by decide)
  unfold okN
  rw [decide_eq_decide, fa_lt, fa_lt, e, nI_toInt (by omega), nI_toInt (by omega)]
  split <;> omega
def FrT (σ σ' : St) : Prop := (∀ a, a ≠ 55 → a ≠ 64 → a ≠ 65 → σ' a = σ a) ∧ ∀ i, (i < 14 ∨ 23 ≤ i) → σ' 55 i = σ 55 i
theorem FrT.rf {σ : St} : FrT σ σ := ⟨fun _ _ _ _ => rfl, fun _ _ => rfl⟩
theorem FrT.tr {σ σ' σ'' : St} (h : FrT σ σ') (h2 : FrT σ' σ'') : FrT σ σ'' := ⟨fun a h3 h4 h5 => (h2.1 a h3 h4 h5).trans (h.1 a h3 h4 h5), fun i hi => (h2.2 i hi).trans (h.2 i hi)⟩
theorem FrT.f5 {σ σ' σ'' : St} {lo hi : Nat} (h : FrT σ σ') (h2 : F5 σ' σ'' lo hi) (hl : 14 ≤ lo) (hh : hi ≤ 23) : FrT σ σ'' := ⟨fun a h3 h4 h5 => (h2.1 a h3).trans (h.1 a h3 h4 h5), fun i q => (h2.2 i (by omega)).trans (h.2 i q)⟩
theorem FrT.put {σ σ' : St} {i : Nat} {v : Int32} (h : FrT σ σ') (hi : 14 ≤ i ∧ i < 23) : FrT σ (up σ' 55 i v) := ⟨fun a h3 h4 h5 => (upR_n _ _ h3).trans (h.1 a h3 h4 h5), fun j q => (up_o55 (by omega)).trans (h.2 j q)⟩
theorem FrT.arr {σ σ' : St} {k i : Nat} {v : Int32} (h : FrT σ σ') (hk : k = 64 ∨ k = 65) : FrT σ (up σ' k i v) := ⟨fun a h3 h4 h5 => (upR_n _ _ (by omega)).trans (h.1 a h3 h4 h5), fun j q => (up_oc (by omega)).trans (h.2 j q)⟩
def RdM (σ : St) (P : Pl) : Prop := σ 55 18 = nI P.W ∧ σ 55 19 = nI P.H ∧ σ 55 20 = nI (P.nw - 4) ∧ σ 55 22 = nI P.nl ∧ (∀ w p, w + 4 < P.nw → p < 4 → σ 64 (4 * w + p) = nI (P.wl (w + 4) p)) ∧ ∀ l p, l < P.nl → p < 2 → σ 65 (2 * l + p) = nI (P.lp l p)
theorem RdM.f5 {σ σ' : St} {P : Pl} {lo hi : Nat} (h : RdM σ P) (h2 : F5 σ σ' lo hi) (hh : hi ≤ 18) : RdM σ' P := by
  unfold RdM
  rw [h2.2 18 (by omega), h2.2 19 (by omega), h2.2 20 (by omega), h2.2 22 (by omega), h2.1 64 (by decide), h2.1 65 (by decide)]
  exact h
def ItP (σ : St) (r : Nat ⊕ (Pl × Nat)) : Option Value → St → Prop := fun v σ' => FrT σ σ' ∧ match r with
  | .inl s => v = some (.int (nI 0)) ∧ σ' 55 15 = nI s
  | .inr q => v = some (.int (nI 1)) ∧ RdM σ' q.1 ∧ σ' 55 14 = nI q.2
theorem ItP_l {σ σ' : St} {s : Nat} {r : Nat ⊕ (Pl × Nat)} (hr : r = .inl s) (hf : FrT σ σ') (h : σ' 55 15 = nI s) : ItP σ r (some (.int (nI 0))) σ' := by
  subst hr
  exact ⟨hf, rfl, h⟩
theorem ItP_r {σ σ' : St} {q : Pl × Nat} {r : Nat ⊕ (Pl × Nat)} (hr : r = .inr q) (hf : FrT σ σ') (h : RdM σ' q.1) (h14 : σ' 55 14 = nI q.2) : ItP σ r (some (.int (nI 1))) σ' := by
  subst hr
  exact ⟨hf, rfl, h, h14⟩
def sizeM (t : Nat → Nat) (m p : Nat) : Nat ⊕ (Pl × Nat) := match numR t m p 2 9 with
  | .inl s => .inl s
  | .inr q => match numR t m q.2 2 9 with
    | .inl s => .inl s
    | .inr r => .inr (P0 q.1 r.1, r.2)
def wallM (t : Nat → Nat) (m : Nat) (P : Pl) (u p : Nat) : Nat ⊕ (Pl × Nat) := match numR t m p 0 (if u = 1 then P.W else P.W - 1) with
  | .inl s => .inl s
  | .inr q => match numR t m q.2 0 (if u = 1 then P.H - 1 else P.H) with
    | .inl s => .inl s
    | .inr r => match numR t m r.2 1 (if u = 1 then P.H - r.1 else P.W - q.1) with
      | .inl s => .inl s
      | .inr z => .inr (P.addW q.1 r.1 z.1 u, z.2)
def lampM (t : Nat → Nat) (m : Nat) (P : Pl) (p : Nat) : Nat ⊕ (Pl × Nat) := match numR t m p 0 (P.W - 1) with
  | .inl s => .inl s
  | .inr q => match numR t m q.2 0 (P.H - 1) with
    | .inl s => .inl s
    | .inr r => if P.at q.1 r.1 = true then .inl (tkS t m q.2) else .inr (P.addL q.1 r.1, r.2)
def itemM (t : Nat → Nat) (m : Nat) (P : Pl) (items c s p : Nat) : Nat ⊕ (Pl × Nat) :=
  if c = 98 then (if items = 0 then sizeM t m p else .inl s)
  else if c = 114 then (if P.nw < 14 then wallM t m P 0 p else .inl s)
  else if c = 117 then (if P.nw < 14 then wallM t m P 1 p else .inl s)
  else if c = 108 then (if P.nl < 8 then lampM t m P p else .inl s)
  else .inl s
def thenE (t : Nat → Nat) (m : Nat) (r : Nat ⊕ (Pl × Nat)) : Nat ⊕ (Pl × Nat) := match r with
  | .inl s => .inl s
  | .inr q => endR t m q.2 q.1
theorem sizeR_M (t : Nat → Nat) (m p : Nat) : sizeR t m p = thenE t m (sizeM t m p) := by
  unfold sizeR sizeM
  rcases numR t m p 2 9 with s | q
  · rfl
  · dsimp only
    rcases numR t m q.2 2 9 with s | r
    · rfl
    · rfl
theorem wallR_M (t : Nat → Nat) (m : Nat) (P : Pl) (u p : Nat) : wallR t m P u p = thenE t m (wallM t m P u p) := by
  unfold wallR wallM
  rcases numR t m p 0 (if u = 1 then P.W else P.W - 1) with s | q
  · rfl
  · dsimp only
    rcases numR t m q.2 0 (if u = 1 then P.H - 1 else P.H) with s | r
    · rfl
    · dsimp only
      rcases numR t m r.2 1 (if u = 1 then P.H - r.1 else P.W - q.1) with s | z
      · rfl
      · rfl
theorem lampR_M (t : Nat → Nat) (m : Nat) (P : Pl) (p : Nat) : lampR t m P p = thenE t m (lampM t m P p) := by
  unfold lampR lampM
  rcases numR t m p 0 (P.W - 1) with s | q
  · rfl
  · dsimp only
    rcases numR t m q.2 0 (P.H - 1) with s | r
    · rfl
    · dsimp only
      by_cases h : P.at q.1 r.1 = true
      · rw [if_pos h, if_pos h]; rfl
      · rw [if_neg h, if_neg h]; rfl
theorem itemR_M (t : Nat → Nat) (m : Nat) (P : Pl) (items c s p : Nat) : itemR t m P items c s p = thenE t m (itemM t m P items c s p) := by
  unfold itemR itemM
  rw [sizeR_M, wallR_M, wallR_M, lampR_M]
  repeat' split
  all_goals rfl
theorem numR_l {t : Nat → Nat} {m p lo hi : Nat} (h : okN (tkC t m p) lo hi = false) : numR t m p lo hi = .inl (tkS t m p) := if_neg (by rw [h]; decide)
theorem numR_r {t : Nat → Nat} {m p lo hi : Nat} (h : okN (tkC t m p) lo hi = true) : numR t m p lo hi = .inr (tkC t m p - 1000, tkE t m p) := if_pos h
def RdP (σ : St) (t : Nat → Nat) (m p : Nat) (r : Nat ⊕ (Nat × Nat)) : Option Value → St → Prop := fun v σ' => F5 σ σ' 14 18 ∧ σ' 55 15 = nI (tkS t m p) ∧ match r with
  | .inl s => v = some (.int (nI 0)) ∧ s = tkS t m p
  | .inr q => v = some (.int (nI 1)) ∧ σ' 55 14 = nI q.2 ∧ σ' 55 17 = nI q.1
theorem RdM_P0 {σ : St} {w h : Nat} (h1 : σ 55 18 = nI w) (h2 : σ 55 19 = nI h) (h3 : σ 55 20 = nI 0) (h4 : σ 55 22 = nI 0) : RdM σ (P0 w h) := by
  refine ⟨h1, h2, h3, h4, fun x p q => ?_, fun x p q => ?_⟩
  · have q' : x + 4 < 4 := q
    omega
  · have q' : x < 0 := q
    omega
theorem RdM_addW {σ' : St} {f g : Nat → Int32} {P : Pl} {x y len u : Nat} (h4 : 4 ≤ P.nw) (h18 : σ' 55 18 = nI P.W) (h19 : σ' 55 19 = nI P.H) (h20 : σ' 55 20 = nI (P.nw - 4 + 1)) (h22 : σ' 55 22 = nI P.nl) (h64 : σ' 64 = upd (upd (upd (upd f (4 * (P.nw - 4)) (nI x)) (4 * (P.nw - 4) + 1) (nI y)) (4 * (P.nw - 4) + 2) (nI len)) (4 * (P.nw - 4) + 3) (nI u)) (h65 : σ' 65 = g) (hf : ∀ w p, w + 4 < P.nw → p < 4 → f (4 * w + p) = nI (P.wl (w + 4) p)) (hg : ∀ l p, l < P.nl → p < 2 → g (2 * l + p) = nI (P.lp l p)) : RdM σ' (P.addW x y len u) := by
  refine ⟨h18, h19, h20.trans (congrArg nI (show P.nw - 4 + 1 = P.nw + 1 - 4 by omega)), h22, fun w p q r => ?_, fun l p q r => by rw [h65]; exact hg l p q r⟩
  have q' : w + 4 < P.nw + 1 := q
  rw [h64, addW_wl]
  by_cases e : w + 4 = P.nw
  · rw [if_pos e, show 4 * w = 4 * (P.nw - 4) by omega]
    rcases (show p = 0 ∨ p = 1 ∨ p = 2 ∨ p = 3 by omega) with rfl | rfl | rfl | rfl
    · rw [upd_n _ _ (by omega), upd_n _ _ (by omega), upd_n _ _ (by omega)]; exact upd_s _ _ _
    · rw [upd_n _ _ (by omega), upd_n _ _ (by omega), upd_s]; rfl
    · rw [upd_n _ _ (by omega), upd_s]; rfl
    · rw [upd_s]; rfl
  · rw [if_neg e, upd_n _ _ (by omega), upd_n _ _ (by omega), upd_n _ _ (by omega), upd_n _ _ (by omega)]
    exact hf w p (by omega) r
theorem RdM_addL {σ' : St} {f g : Nat → Int32} {P : Pl} {x y : Nat} (h18 : σ' 55 18 = nI P.W) (h19 : σ' 55 19 = nI P.H) (h20 : σ' 55 20 = nI (P.nw - 4)) (h22 : σ' 55 22 = nI (P.nl + 1)) (h64 : σ' 64 = f) (h65 : σ' 65 = upd (upd g (2 * P.nl) (nI x)) (2 * P.nl + 1) (nI y)) (hf : ∀ w p, w + 4 < P.nw → p < 4 → f (4 * w + p) = nI (P.wl (w + 4) p)) (hg : ∀ l p, l < P.nl → p < 2 → g (2 * l + p) = nI (P.lp l p)) : RdM σ' (P.addL x y) := by
  refine ⟨h18, h19, h20, h22, fun w p q r => by rw [h64]; exact hf w p q r, fun l p q r => ?_⟩
  have q' : l < P.nl + 1 := q
  rw [h65, addL_lp]
  by_cases e : l = P.nl
  · subst e
    rw [if_pos rfl]
    rcases (show p = 0 ∨ p = 1 by omega) with rfl | rfl
    · rw [upd_n _ _ (by omega)]; exact upd_s _ _ _
    · rw [upd_s]; rfl
  · rw [if_neg e, upd_n _ _ (by omega), upd_n _ _ (by omega)]
    exact hg l p (by omega) r
