/-! ===== the text ===== -/
def isF (c : Nat) : Bool := decide (48 ≤ c ∧ c ≤ 57)
def rnd (c : Nat → Bool) (m : Nat) : Nat → Nat
  | 0 => m
  | d + 1 => if c (m - (d + 1)) = true then rnd c m d else m - (d + 1)
def rn (c : Nat → Bool) (m p : Nat) : Nat := rnd c m (m - p)
theorem rn_s {c : Nat → Bool} {m p : Nat} (h : p < m) (hc : c p = true) : rn c m p = rn c m (p + 1) := by
  unfold rn
  rw [show m - p = (m - (p + 1)) + 1 by omega, rnd, show m - (m - (p + 1) + 1) = p by omega, if_pos hc]
theorem rn_e {c : Nat → Bool} {m p : Nat} (h : p < m) (hc : c p = false) : rn c m p = p := by
  unfold rn
  rw [show m - p = (m - (p + 1)) + 1 by omega, rnd, show m - (m - (p + 1) + 1) = p by omega, if_neg (by rw [hc]; decide)]
theorem rn_m (c : Nat → Bool) (m : Nat) : rn c m m = m := by unfold rn; rw [Nat.sub_self]; rfl
theorem rnd_le (c : Nat → Bool) (m : Nat) : ∀ d, d ≤ m → m - d ≤ rnd c m d ∧ rnd c m d ≤ m
  | 0, _ => ⟨by show m - 0 ≤ m; omega, Nat.le_refl m⟩
  | d + 1, h => by
    have ih := rnd_le c m d (by omega)
    rw [rnd]
    split
    · exact ⟨by omega, ih.2⟩
    · exact ⟨Nat.le_refl _, by omega⟩
theorem rn_le {c : Nat → Bool} {m p : Nat} (h : p ≤ m) : p ≤ rn c m p ∧ rn c m p ≤ m := by
  have z := rnd_le c m (m - p) (by omega)
  unfold rn
  exact ⟨by have := z.1; omega, z.2⟩
def blk (t : Nat → Nat) : Nat → Bool := fun i => decide (t i = 32)
def fig (t : Nat → Nat) : Nat → Bool := fun i => isF (t i)
def tkS (t : Nat → Nat) (m p : Nat) : Nat := rn (blk t) m p
def tkC (t : Nat → Nat) (m p : Nat) : Nat := if tkS t m p < m then (if isF (t (tkS t m p)) = true then (if rn (fig t) m (tkS t m p + 1) = tkS t m p + 1 then 1000 + (t (tkS t m p) - 48) else 2000) else t (tkS t m p)) else 3000
def tkE (t : Nat → Nat) (m p : Nat) : Nat := if tkS t m p < m then (if isF (t (tkS t m p)) = true then rn (fig t) m (tkS t m p + 1) else tkS t m p + 1) else m
def TxtOK (σ : St) (t : Nat → Nat) (m : Nat) : Prop := σ 7 1 = nI m ∧ m ≤ 120 ∧ ∀ i, i < m → σ 8 i = nI (t i) ∧ t i < 256
theorem TxtOK.fr {σ σ' : St} {t : Nat → Nat} {m : Nat} (h : TxtOK σ t m) (h1 : σ' 7 1 = nI m) (h8 : σ' 8 = σ 8) : TxtOK σ' t m := ⟨h1, h.2.1, fun i hi => by rw [h8]; exact h.2.2 i hi⟩
theorem tkS_le {t : Nat → Nat} {m p : Nat} (h : p ≤ m) : p ≤ tkS t m p ∧ tkS t m p ≤ m := rn_le h
theorem tkE_le {t : Nat → Nat} {m p : Nat} (h : p ≤ m) : p ≤ tkE t m p ∧ tkE t m p ≤ m := by
  have h1 := tkS_le (t := t) h
  unfold tkE
  by_cases q : tkS t m p < m
  · rw [if_pos q]
    by_cases z : isF (t (tkS t m p)) = true
    · rw [if_pos z]
      have := rn_le (c := fig t) (show tkS t m p + 1 ≤ m by omega)
      omega
    · rw [if_neg z]; omega
  · rw [if_neg q]; omega
theorem tkE_adv {t : Nat → Nat} {m p : Nat} (h : p ≤ m) (hc : ¬ tkC t m p = 3000) : p < tkE t m p := by
  have h1 := tkS_le (t := t) h
  have q : tkS t m p < m := by
    by_cases q : tkS t m p < m
    · exact q
    · exact absurd (by unfold tkC; rw [if_neg q]) hc
  unfold tkE
  rw [if_pos q]
  by_cases z : isF (t (tkS t m p)) = true
  · rw [if_pos z]
    have := rn_le (c := fig t) (show tkS t m p + 1 ≤ m by omega)
    omega
  · rw [if_neg z]; omega
theorem isF_9 {c : Nat} (h : isF c = true) : 48 ≤ c ∧ c ≤ 57 := of_decide_eq_true h
theorem tkC_lt {t : Nat → Nat} {m p : Nat} (ht : ∀ i, i < m → t i < 256) : tkC t m p < 256 ∨ (1000 ≤ tkC t m p ∧ tkC t m p ≤ 1009) ∨ tkC t m p = 2000 ∨ tkC t m p = 3000 := by
  unfold tkC
  by_cases q : tkS t m p < m
  · rw [if_pos q]
    by_cases z : isF (t (tkS t m p)) = true
    · rw [if_pos z]
      have := isF_9 z
      split
      · omega
      · omega
    · rw [if_neg z]
      exact Or.inl (ht _ q)
  · rw [if_neg q]; omega
def sgI (c : Nat) : Int32 := if c = 3000 then -1 else if 1000 ≤ c then -2 else nI c
def nuI (c : Nat) : Int32 := if c = 2000 then -1 else nI (c - 1000)
def TkOK (σ : St) (c s e : Nat) : Prop := σ 7 2 = nI s ∧ σ 7 5 = nI e ∧ σ 7 3 = sgI c ∧ (1000 ≤ c → c ≤ 2000 → σ 7 4 = nuI c)
theorem up_id {σ : St} {k i : Nat} {v : Int32} (h : σ k i = v) : up σ k i v = σ := by
  funext a
  by_cases q : a = k
  · subst q
    simp only [up, upR_s]
    funext j
    by_cases z : j = i
    · subst z; rw [upd_s, h]
    · rw [upd_n _ _ z]
  · simp only [up, upR_n _ _ q]
theorem up_up (σ : St) (k i : Nat) (v w : Int32) : up (up σ k i v) k i w = up σ k i w := by
  funext a
  by_cases q : a = k
  · subst q
    simp only [up, upR_s]
    exact fa_upd_twice _ _ _ _
  · simp only [up, upR_n _ _ q]
def okN (c lo hi : Nat) : Bool := decide (1000 + lo ≤ c ∧ c ≤ 1000 + hi)
theorem iI_m2 : (-2 : Int32) = iI (-2) := by decide
theorem bd_m2 : bd (-2) 2 := ⟨by decide, by decide⟩
theorem char_n {c : Nat} (h : c < 256) : narrow .char (.int (nI c)) = .int (nI c) := (pk_charN (by omega)).1
/-! what is read -/
def numR (t : Nat → Nat) (m p lo hi : Nat) : Nat ⊕ (Nat × Nat) := if okN (tkC t m p) lo hi = true then .inr (tkC t m p - 1000, tkE t m p) else .inl (tkS t m p)
def endR (t : Nat → Nat) (m p : Nat) (P : Pl) : Nat ⊕ (Pl × Nat) := if tkC t m p = 59 then .inr (P, tkE t m p) else .inl (tkS t m p)
def sizeR (t : Nat → Nat) (m p : Nat) : Nat ⊕ (Pl × Nat) := match numR t m p 2 9 with
  | .inl s => .inl s
  | .inr q => match numR t m q.2 2 9 with
    | .inl s => .inl s
    | .inr r => endR t m r.2 (P0 q.1 r.1)
def wallR (t : Nat → Nat) (m : Nat) (P : Pl) (u p : Nat) : Nat ⊕ (Pl × Nat) := match numR t m p 0 (if u = 1 then P.W else P.W - 1) with
  | .inl s => .inl s
  | .inr q => match numR t m q.2 0 (if u = 1 then P.H - 1 else P.H) with
    | .inl s => .inl s
    | .inr r => match numR t m r.2 1 (if u = 1 then P.H - r.1 else P.W - q.1) with
      | .inl s => .inl s
      | .inr z => endR t m z.2 (P.addW q.1 r.1 z.1 u)
def lampR (t : Nat → Nat) (m : Nat) (P : Pl) (p : Nat) : Nat ⊕ (Pl × Nat) := match numR t m p 0 (P.W - 1) with
  | .inl s => .inl s
  | .inr q => match numR t m q.2 0 (P.H - 1) with
    | .inl s => .inl s
    | .inr r => if P.at q.1 r.1 = true then .inl (tkS t m q.2) else endR t m r.2 (P.addL q.1 r.1)
def itemR (t : Nat → Nat) (m : Nat) (P : Pl) (items c s p : Nat) : Nat ⊕ (Pl × Nat) :=
  if c = 98 then (if items = 0 then sizeR t m p else .inl s)
  else if c = 114 then (if P.nw < 14 then wallR t m P 0 p else .inl s)
  else if c = 117 then (if P.nw < 14 then wallR t m P 1 p else .inl s)
  else if c = 108 then (if P.nl < 8 then lampR t m P p else .inl s)
  else .inl s
def tlR (t : Nat → Nat) (m : Nat) : Nat → Pl → Nat → Nat → Nat ⊕ (Nat × Pl)
  | 0, _, _, _ => .inl 0
  | f + 1, P, p, items => if tkC t m p = 3000 then .inr (items, P) else match itemR t m P items (tkC t m p) (tkS t m p) (tkE t m p) with
    | .inl s => .inl s
    | .inr q => tlR t m f q.1 q.2 (items + 1)
def PRo (σ : St) (m : Nat) (r : Nat ⊕ (Pl × Nat)) : Option Value → St → Prop := fun v σ' => σ' 7 1 = nI m ∧ Fr [4, 5, 6, 7] σ σ' ∧ match r with
  | .inl s => v = some (.int (nI 0)) ∧ σ' 7 2 = nI s
  | .inr q => v = some (.int (nI 1)) ∧ PlanOK σ' 4 q.1 ∧ σ' 7 5 = nI q.2
/-! plans that are told -/
def PGt (P : Pl) : Prop := PG P ∧ ∀ l, l < P.nl → P.lp l 2 = 1
theorem PG_P0 {w h : Nat} (h1 : 2 ≤ w) (h2 : w ≤ 9) (h3 : 2 ≤ h) (h4 : h ≤ 9) : PGt (P0 w h) := by
  refine ⟨⟨⟨h1, h2, h3, h4, by show 4 ≤ 4; omega, by show 4 ≤ 14; omega, by show 0 ≤ 8; omega⟩, fun k hk => ?_, fun l hl => absurd hl (Nat.not_lt_zero l), ?_⟩, fun l hl => absurd hl (Nat.not_lt_zero l)⟩
  · have hk4 : k < 4 := hk
    rcases (show k = 0 ∨ k = 1 ∨ k = 2 ∨ k = 3 by omega) with rfl | rfl | rfl | rfl
    · exact ⟨by show 0 ≤ 1; omega, by show 0 ≤ w; omega, by show 0 ≤ h; omega, by show 1 ≤ w; omega, fun _ => by show 0 + w ≤ w; omega, fun q => absurd (show (0 : Nat) = 1 from q) (by decide)⟩
    · exact ⟨by show 1 ≤ 1; omega, by show w ≤ w; omega, by show 0 ≤ h; omega, by show 1 ≤ h; omega, fun q => absurd (show (1 : Nat) = 0 from q) (by decide), fun _ => by show 0 + h ≤ h; omega⟩
    · exact ⟨by show 0 ≤ 1; omega, by show 0 ≤ w; omega, by show h ≤ h; omega, by show 1 ≤ w; omega, fun _ => by show 0 + w ≤ w; omega, fun q => absurd (show (0 : Nat) = 1 from q) (by decide)⟩
    · exact ⟨by show 1 ≤ 1; omega, by show 0 ≤ w; omega, by show 0 ≤ h; omega, by show 1 ≤ h; omega, fun q => absurd (show (1 : Nat) = 0 from q) (by decide), fun _ => by show 0 + h ≤ h; omega⟩
  · exact ⟨⟨rfl, rfl, rfl, rfl⟩, ⟨rfl, rfl, rfl, rfl⟩, ⟨rfl, rfl, rfl, rfl⟩, ⟨rfl, rfl, rfl, rfl⟩⟩
theorem addW_wl (P : Pl) (x y len u w p : Nat) : (P.addW x y len u).wl w p = if w = P.nw then (if p = 0 then x else if p = 1 then y else if p = 2 then len else u) else P.wl w p := rfl
theorem addL_lp (P : Pl) (x y l p : Nat) : (P.addL x y).lp l p = if l = P.nl then (if p = 0 then x else if p = 1 then y else 1) else P.lp l p := rfl
theorem PG_addW {P : Pl} (h : PG P) {x y len u : Nat} (hn : P.nw < 14) (hu : u ≤ 1) (hx : x ≤ P.W) (hy : y ≤ P.H) (hl : 1 ≤ len) (h0 : u = 0 → x + len ≤ P.W) (h1 : u = 1 → y + len ≤ P.H) : PG (P.addW x y len u) := by
  obtain ⟨⟨b1, b2, b3, b4, b5, b6, b7⟩, hw, hlm, hs⟩ := h
  refine ⟨⟨b1, b2, b3, b4, by show 4 ≤ P.nw + 1; omega, by show P.nw + 1 ≤ 14; omega, b7⟩, fun w hw2 => ?_, hlm, ?_⟩
  · have hw3 : w < P.nw + 1 := hw2
    unfold WallOK
    simp only [addW_wl]
    by_cases q : w = P.nw
    · simp only [if_pos q]
      exact ⟨hu, hx, hy, hl, h0, h1⟩
    · simp only [if_neg q]
      exact hw w (by omega)
  · unfold Sides
    simp only [addW_wl, if_neg (show ¬ 0 = P.nw by omega), if_neg (show ¬ 1 = P.nw by omega), if_neg (show ¬ 2 = P.nw by omega), if_neg (show ¬ 3 = P.nw by omega)]
    exact hs
theorem PG_addL {P : Pl} (h : PG P) {x y : Nat} (hn : P.nl < 8) (hx : x < P.W) (hy : y < P.H) : PG (P.addL x y) := by
  obtain ⟨⟨b1, b2, b3, b4, b5, b6, b7⟩, hw, hlm, hs⟩ := h
  refine ⟨⟨b1, b2, b3, b4, b5, b6, by show P.nl + 1 ≤ 8; omega⟩, hw, fun l hl => ?_, hs⟩
  have hl3 : l < P.nl + 1 := hl
  unfold LampOK
  simp only [addL_lp]
  by_cases q : l = P.nl
  · simp only [if_pos q]
    exact ⟨hx, hy, Nat.le_refl 1⟩
  · simp only [if_neg q]
    exact hlm l (by omega)
theorem PGt_addW {P : Pl} (h : PGt P) {x y len u : Nat} (hn : P.nw < 14) (hu : u ≤ 1) (hx : x ≤ P.W) (hy : y ≤ P.H) (hl : 1 ≤ len) (h0 : u = 0 → x + len ≤ P.W) (h1 : u = 1 → y + len ≤ P.H) : PGt (P.addW x y len u) := ⟨PG_addW h.1 hn hu hx hy hl h0 h1, h.2⟩
theorem PGt_addL {P : Pl} (h : PGt P) {x y : Nat} (hn : P.nl < 8) (hx : x < P.W) (hy : y < P.H) : PGt (P.addL x y) := ⟨PG_addL h.1 hn hx hy, fun l hl => by
  have hl3 : l < P.nl + 1 := hl
  rw [addL_lp]
  by_cases q : l = P.nl
  · rw [if_pos q]; rfl
  · rw [if_neg q]; exact h.2 l (by omega)⟩
theorem numR_b {t : Nat → Nat} {m p lo hi : Nat} {q : Nat × Nat} (hp : p ≤ m) (h : numR t m p lo hi = .inr q) : lo ≤ q.1 ∧ q.1 ≤ hi ∧ p ≤ q.2 ∧ q.2 ≤ m := by
  unfold numR at h
  by_cases z : okN (tkC t m p) lo hi = true
  · rw [if_pos z] at h
    rw [← Sum.inr.inj h]
    have := of_decide_eq_true z
    have := tkE_le (t := t) hp
    exact ⟨by show lo ≤ tkC t m p - 1000; omega, by show tkC t m p - 1000 ≤ hi; omega, by show p ≤ tkE t m p; omega, by show tkE t m p ≤ m; omega⟩
  · rw [if_neg z] at h; cases h
theorem endR_b {t : Nat → Nat} {m p : Nat} {P : Pl} {q : Pl × Nat} (hp : p ≤ m) (h : endR t m p P = .inr q) : q.1 = P ∧ p ≤ q.2 ∧ q.2 ≤ m := by
  unfold endR at h
  split at h
  · rw [← Sum.inr.inj h]
    have := tkE_le (t := t) hp
    exact ⟨rfl, this.1, this.2⟩
  · cases h
theorem sizeR_b {t : Nat → Nat} {m p : Nat} {q : Pl × Nat} (hp : p ≤ m) (h : sizeR t m p = .inr q) : PGt q.1 ∧ p ≤ q.2 ∧ q.2 ≤ m := by
  unfold sizeR at h
  split at h
  · cases h
  · next a ha =>
    have h1 := numR_b hp ha
    split at h
    · cases h
    · next b hb =>
      have h2 := numR_b h1.2.2.2 hb
      have h3 := endR_b h2.2.2.2 h
      rw [h3.1]
      exact ⟨PG_P0 h1.1 h1.2.1 h2.1 h2.2.1, by omega, h3.2.2⟩
theorem wallR_b {t : Nat → Nat} {m p u : Nat} {P : Pl} {q : Pl × Nat} (hG : PGt P) (hn : P.nw < 14) (hu : u ≤ 1) (hp : p ≤ m) (h : wallR t m P u p = .inr q) : PGt q.1 ∧ p ≤ q.2 ∧ q.2 ≤ m := by
  have hB := hG.1.1
  obtain ⟨b1, b2, b3, b4, b5, b6, b7⟩ := hB
  unfold wallR at h
  split at h
  · cases h
  · next a ha =>
    have h1 := numR_b hp ha
    split at h
    · cases h
    · next b hb =>
      have h2 := numR_b h1.2.2.2 hb
      split at h
      · cases h
      · next c hc =>
        have h3 := numR_b h2.2.2.2 hc
        have h4 := endR_b h3.2.2.2 h
        rw [h4.1]
        rcases (show u = 0 ∨ u = 1 by omega) with rfl | rfl
        · rw [if_neg (by decide)] at h1 h2 h3
          exact ⟨PGt_addW hG hn (by decide) (by omega) (by omega) h3.1 (fun _ => by omega) (fun q => by omega), by omega, h4.2.2⟩
        · rw [if_pos rfl] at h1 h2 h3
          exact ⟨PGt_addW hG hn (by decide) (by omega) (by omega) h3.1 (fun q => by omega) (fun _ => by omega), by omega, h4.2.2⟩
theorem lampR_b {t : Nat → Nat} {m p : Nat} {P : Pl} {q : Pl × Nat} (hG : PGt P) (hn : P.nl < 8) (hp : p ≤ m) (h : lampR t m P p = .inr q) : PGt q.1 ∧ p ≤ q.2 ∧ q.2 ≤ m := by
  have hB := hG.1.1
  obtain ⟨b1, b2, b3, b4, b5, b6, b7⟩ := hB
  unfold lampR at h
  split at h
  · cases h
  · next a ha =>
    have h1 := numR_b hp ha
    split at h
    · cases h
    · next b hb =>
      have h2 := numR_b h1.2.2.2 hb
      split at h
      · cases h
      · have h4 := endR_b h2.2.2.2 h
        rw [h4.1]
        exact ⟨PGt_addL hG hn (by omega) (by omega), by omega, h4.2.2⟩
theorem itemR_b {t : Nat → Nat} {m p items c s : Nat} {P : Pl} {q : Pl × Nat} (hG : PGt P) (hp : p ≤ m) (h : itemR t m P items c s p = .inr q) : PGt q.1 ∧ p ≤ q.2 ∧ q.2 ≤ m := by
  unfold itemR at h
  split at h
  · split at h
    · exact sizeR_b hp h
    · cases h
  · split at h
    · split at h
      · next z => exact wallR_b hG z (by decide) hp h
      · cases h
    · split at h
      · split at h
        · next z => exact wallR_b hG z (by decide) hp h
        · cases h
      · split at h
        · split at h
          · next z => exact lampR_b hG z hp h
          · cases h
        · cases h
