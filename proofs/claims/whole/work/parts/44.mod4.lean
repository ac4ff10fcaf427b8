/-! ===== the model's changes ===== -/
theorem RwM_c {f g : Nat → Int32} {P : Pl} (h : RwM f P) (hw : P.nw ≤ 14) (hl : P.nl ≤ 8) (he : ∀ k, k < 82 → g k = f k) : RwM g P := by
  obtain ⟨h1, h2, h3, h4⟩ := h
  exact ⟨by rw [he 0 (by decide)]; exact h1, by rw [he 1 (by decide)]; exact h2, fun w p q r => by rw [he _ (by omega)]; exact h3 w p q r, fun l p q r => by rw [he _ (by omega)]; exact h4 l p q r⟩
def mvR (f : Nat → Int32) (d a k : Nat) : Nat → Int32 := fun z => if a ≤ z ∧ z < k then f (z + d) else f z
theorem mvR_0 (f : Nat → Int32) (d a : Nat) : mvR f d a a = f := by
  funext z
  exact if_neg (by omega)
theorem mvR_s {f : Nat → Int32} {d a k : Nat} (ha : a ≤ k) : upd (mvR f d a k) k (mvR f d a k (k + d)) = mvR f d a (k + 1) := by
  funext z
  by_cases q : z = k
  · subst q
    rw [upd_s]
    show (if a ≤ z + d ∧ z + d < z then _ else _) = (if a ≤ z ∧ z < z + 1 then _ else _)
    rw [if_neg (by omega), if_pos (by omega)]
  · rw [upd_n _ _ q]
    show (if a ≤ z ∧ z < k then _ else _) = (if a ≤ z ∧ z < k + 1 then _ else _)
    by_cases r : a ≤ z ∧ z < k
    · rw [if_pos r, if_pos (by omega)]
    · rw [if_neg r, if_neg (by omega)]
def cpR (g s : Nat → Int32) (b k : Nat) : Nat → Int32 := fun z => if b ≤ z ∧ z < b + k then s (z - b) else g z
theorem cpR_0 (g s : Nat → Int32) (b : Nat) : cpR g s b 0 = g := by
  funext z
  exact if_neg (by omega)
theorem cpR_s (g s : Nat → Int32) (b k : Nat) : upd (cpR g s b k) (b + k) (s k) = cpR g s b (k + 1) := by
  funext z
  by_cases q : z = b + k
  · subst q
    rw [upd_s]
    show _ = (if b ≤ b + k ∧ b + k < b + (k + 1) then s (b + k - b) else _)
    rw [if_pos (by omega), Nat.add_sub_cancel_left]
  · rw [upd_n _ _ q]
    show (if b ≤ z ∧ z < b + k then _ else _) = (if b ≤ z ∧ z < b + (k + 1) then _ else _)
    by_cases r : b ≤ z ∧ z < b + k
    · rw [if_pos r, if_pos (by omega)]
    · rw [if_neg r, if_neg (by omega)]
theorem cpR_in {g s : Nat → Int32} {b k z : Nat} (h : z < k) : cpR g s b k (b + z) = s z := by
  show (if b ≤ b + z ∧ b + z < b + k then s (b + z - b) else _) = _
  rw [if_pos (by omega), Nat.add_sub_cancel_left]
theorem cpR_out {g s : Nat → Int32} {b k z : Nat} (h : ¬ (b ≤ z ∧ z < b + k)) : cpR g s b k z = g z := if_neg h
theorem rev_getD (l : List Pl) (d : Pl) {i : Nat} (h : i < l.length) : l.reverse.getD i d = l.getD (l.length - 1 - i) d := by
  rw [List.getD_eq_getElem?_getD, List.getD_eq_getElem?_getD, List.getElem?_reverse h]
theorem rev_cons (Q : Pl) (r : List Pl) (d : Pl) {i : Nat} (h : i < r.length) : (Q :: r).reverse.getD i d = r.reverse.getD i d := by
  rw [List.reverse_cons, List.getD_eq_getElem?_getD, List.getD_eq_getElem?_getD, List.getElem?_append_left (by rw [List.length_reverse]; exact h)]
theorem rev_last (Q : Pl) (r : List Pl) (d : Pl) : (Q :: r).reverse.getD r.length d = Q := by
  rw [List.reverse_cons, List.getD_eq_getElem?_getD, List.getElem?_append_right (by rw [List.length_reverse]; exact Nat.le_refl _), List.length_reverse, Nat.sub_self]
  rfl
theorem take_lt (P : Pl) (hs : List Pl) (h : hs.length < 10) : (P :: hs).take 10 = P :: hs := List.take_of_length_le (by rw [List.length_cons]; omega)
theorem take_len (P : Pl) (hs : List Pl) : ((P :: hs).take 10).length = min 10 (hs.length + 1) := by rw [List.length_take, List.length_cons]
theorem take_10 (P : Pl) (hs : List Pl) (d : Pl) (h : hs.length = 10) {i : Nat} (hi : i < 9) : ((P :: hs).take 10).reverse.getD i d = hs.reverse.getD (i + 1) d := by
  have hl : ((P :: hs).take 10).length = 10 := by rw [take_len, h]; rfl
  rw [rev_getD _ _ (by omega), rev_getD _ _ (by omega), hl, h]
  rw [List.getD_eq_getElem?_getD, List.getD_eq_getElem?_getD, List.getElem?_take, if_pos (by omega)]
  rw [show 10 - 1 - i = (10 - 1 - (i + 1)) + 1 by omega, List.getElem?_cons_succ]
theorem take_last (P : Pl) (hs : List Pl) (d : Pl) {u : Nat} (h : ((P :: hs).take 10).length = u + 1) : ((P :: hs).take 10).reverse.getD u d = P := by
  rw [rev_getD _ _ (by omega), h, show u + 1 - 1 - u = 0 by omega]
  rfl
theorem MR_P {σ σ' : St} {A : Ab} {P' : Pl} (h : MR σ A) (he : ∀ a, a ≠ 56 → σ' a = σ a) (hw : P'.W = A.P.W) (hh : P'.H = A.P.H) (hr : RwM (σ' 56) P') : MR σ' (P', A.t, A.m, A.hs, A.im, A.sn) := by
  obtain ⟨h1, ⟨h2, h3, -⟩, h5, h8, h11, h12⟩ := h
  refine ⟨by rw [he 55 (by decide)]; exact h1, ⟨by rw [he 55 (by decide), h2]; exact congrArg nI hw.symm, by rw [he 55 (by decide), h3]; exact congrArg nI hh.symm, hr⟩, ?_, ?_, ?_, ?_⟩
  · unfold MTx
    rw [he 55 (by decide), he 63 (by decide)]
    exact h5
  · unfold MHs
    rw [he 55 (by decide), he 57 (by decide)]
    exact h8
  · unfold MIm
    rw [he 59 (by decide), he 58 (by decide)]
    exact h11
  · unfold MSn
    rw [he 55 (by decide), he 60 (by decide), he 61 (by decide), he 62 (by decide)]
    exact h12
theorem MR_H {σ σ' : St} {A : Ab} {P' : Pl} {hs' : List Pl} (h : MR σ A) (h0 : ∀ i, i ≠ 5 → σ' 55 i = σ 55 i) (he : ∀ a, a ≠ 55 → a ≠ 56 → a ≠ 57 → σ' a = σ a) (hw : P'.W = A.P.W) (hh : P'.H = A.P.H) (hr : RwM (σ' 56) P') (hH : MHs σ' hs') : MR σ' (P', A.t, A.m, hs', A.im, A.sn) := by
  obtain ⟨h1, ⟨h2, h3, -⟩, h5, -, h11, h12⟩ := h
  refine ⟨by rw [h0 0 (by decide)]; exact h1, ⟨by rw [h0 1 (by decide), h2]; exact congrArg nI hw.symm, by rw [h0 2 (by decide), h3]; exact congrArg nI hh.symm, hr⟩, ?_, hH, ?_, ?_⟩
  · unfold MTx
    rw [h0 12 (by decide), he 63 (by decide) (by decide) (by decide)]
    exact h5
  · unfold MIm
    rw [he 59 (by decide) (by decide) (by decide), he 58 (by decide) (by decide) (by decide)]
    exact h11
  · unfold MSn
    rw [h0 8 (by decide), he 60 (by decide) (by decide) (by decide), he 61 (by decide) (by decide) (by decide), he 62 (by decide) (by decide) (by decide)]
    exact h12
theorem notes_end {σ τ : St} {A : Ab} {u : Nat} (hR : MR σ A) (hA : AI A) (h0 : ∀ i, i ≠ 5 → τ 55 i = σ 55 i) (he : ∀ a, a ≠ 55 → a ≠ 57 → τ a = σ a) (hl : ((A.P :: A.hs).take 10).length = u + 1) (hq : ∀ i, i < u → RwM (fun k => τ 57 (82 * i + k)) (((A.P :: A.hs).take 10).reverse.getD i (P0 6 6))) : MR (up (upR τ 57 (cpR (τ 57) (τ 56) (82 * u) 82)) 55 5 (nI (u + 1))) (A.P, A.t, A.m, (A.P :: A.hs).take 10, A.im, A.sn) := by
  have e55 : up (upR τ 57 (cpR (τ 57) (τ 56) (82 * u) 82)) 55 5 (nI (u + 1)) 55 = upd (τ 55) 5 (nI (u + 1)) := by rw [up, upR_s, upR_n _ _ (by decide)]
  have e57 : up (upR τ 57 (cpR (τ 57) (τ 56) (82 * u) 82)) 55 5 (nI (u + 1)) 57 = cpR (τ 57) (τ 56) (82 * u) 82 := by rw [up, upR_n _ _ (by decide), upR_s]
  have eo : ∀ a, a ≠ 55 → a ≠ 57 → up (upR τ 57 (cpR (τ 57) (τ 56) (82 * u) 82)) 55 5 (nI (u + 1)) a = σ a := fun a h1 h2 => by rw [up, upR_n _ _ h1, upR_n _ _ h2, he a h1 h2]
  have ht := take_len A.P A.hs
  refine MR_H hR (fun i hi => by rw [e55, upd_n _ _ hi, h0 i hi]) (fun a h1 _ h3 => eo a h1 h3) rfl rfl (by rw [eo 56 (by decide) (by decide)]; exact hR.2.1.2.2) ⟨by rw [e55, upd_s, hl], by omega, fun i hi => ?_⟩
  rw [e57]
  by_cases q : i = u
  · subst q
    rw [take_last _ _ _ hl]
    refine RwM_c (f := σ 56) hR.2.1.2.2 hA.1.1.2.2.2.2.2.1 hA.1.1.2.2.2.2.2.2 (fun k hk => ?_)
    rw [cpR_in hk, he 56 (by decide) (by decide)]
  · have hb : PB (((A.P :: A.hs).take 10).reverse.getD i (P0 6 6)) := by
      have hm : ((A.P :: A.hs).take 10).reverse.getD i (P0 6 6) ∈ A.P :: A.hs := by
        rw [List.getD_eq_getElem?_getD, List.getElem?_eq_getElem (by rw [List.length_reverse]; omega)]
        exact List.mem_of_mem_take (List.mem_reverse.mp (List.getElem_mem _))
      rcases List.mem_cons.mp hm with z | z
      · rw [z]; exact hA.1.1
      · exact (hA.2.1 _ z).1.1
    refine RwM_c (hq i (by omega)) hb.2.2.2.2.2.1 hb.2.2.2.2.2.2 (fun k hk => ?_)
    exact cpR_out (by omega)
theorem RwM_addL {f : Nat → Int32} {P : Pl} {x y : Nat} (h : RwM f P) (hl : P.nl < 8) : RwM (upd (upd (upd (upd f (2 + 3 * P.nl) (nI x)) (2 + 3 * P.nl + 1) (nI y)) (2 + 3 * P.nl + 2) (nI 1)) 0 (nI (P.nl + 1))) (P.addL x y) := by
  obtain ⟨h1, h2, h3, h4⟩ := h
  refine ⟨upd_s _ _ _, ?_, fun w p q r => ?_, fun l p q r => ?_⟩
  · rw [upd_n _ _ (by omega), upd_n _ _ (by omega), upd_n _ _ (by omega), upd_n _ _ (by omega)]
    exact h2
  · rw [upd_n _ _ (by omega), upd_n _ _ (by omega), upd_n _ _ (by omega), upd_n _ _ (by omega)]
    exact h3 w p q r
  · have q' : l < P.nl + 1 := q
    rw [addL_lp, upd_n _ _ (by omega)]
    by_cases e : l = P.nl
    · subst e
      rw [if_pos rfl]
      rcases (show p = 0 ∨ p = 1 ∨ p = 2 by omega) with rfl | rfl | rfl
      · rw [upd_n _ _ (by omega), upd_n _ _ (by omega)]; exact upd_s _ _ _
      · rw [upd_n _ _ (by omega), upd_s]; rfl
      · rw [upd_s]; rfl
    · rw [if_neg e, upd_n _ _ (by omega), upd_n _ _ (by omega), upd_n _ _ (by omega)]
      exact h4 l p (by omega) r
theorem RwM_addW {f : Nat → Int32} {P : Pl} {x y len u : Nat} (h : RwM f P) (hl : P.nl ≤ 8) : RwM (upd (upd (upd (upd (upd f (26 + 4 * P.nw) (nI x)) (26 + 4 * P.nw + 1) (nI y)) (26 + 4 * P.nw + 2) (nI len)) (26 + 4 * P.nw + 3) (nI u)) 1 (nI (P.nw + 1))) (P.addW x y len u) := by
  obtain ⟨h1, h2, h3, h4⟩ := h
  refine ⟨?_, upd_s _ _ _, fun w p q r => ?_, fun l p q r => ?_⟩
  · rw [upd_n _ _ (by omega), upd_n _ _ (by omega), upd_n _ _ (by omega), upd_n _ _ (by omega), upd_n _ _ (by omega)]
    exact h1
  · have q' : w < P.nw + 1 := q
    rw [addW_wl, upd_n _ _ (by omega)]
    by_cases e : w = P.nw
    · subst e
      rw [if_pos rfl]
      rcases (show p = 0 ∨ p = 1 ∨ p = 2 ∨ p = 3 by omega) with rfl | rfl | rfl | rfl
      · rw [upd_n _ _ (by omega), upd_n _ _ (by omega), upd_n _ _ (by omega)]; exact upd_s _ _ _
      · rw [upd_n _ _ (by omega), upd_n _ _ (by omega), upd_s]; rfl
      · rw [upd_n _ _ (by omega), upd_s]; rfl
      · rw [upd_s]; rfl
    · rw [if_neg e, upd_n _ _ (by omega), upd_n _ _ (by omega), upd_n _ _ (by omega), upd_n _ _ (by omega)]
      exact h3 w p (by omega) r
  · have q' : l < P.nl := q
    rw [upd_n _ _ (by omega), upd_n _ _ (by omega), upd_n _ _ (by omega), upd_n _ _ (by omega), upd_n _ _ (by omega)]
    exact h4 l p q r
theorem RwM_remL {f : Nat → Int32} {P : Pl} {l : Nat} (h : RwM f P) (hl : l < P.nl) (h8 : P.nl ≤ 8) : RwM (mvR (upd f 0 (nI (P.nl - 1))) 3 (2 + 3 * l) (2 + 3 * (P.nl - 1))) (P.remL l) := by
  obtain ⟨h1, h2, h3, h4⟩ := h
  refine ⟨?_, ?_, fun w p q r => ?_, fun k p q r => ?_⟩
  · exact (if_neg (by omega)).trans (upd_s _ _ _)
  · exact (if_neg (by omega)).trans ((upd_n _ _ (by decide)).trans h2)
  · exact (if_neg (by omega)).trans ((upd_n _ _ (by omega)).trans (h3 w p q r))
  · have q' : k < P.nl - 1 := q
    show (if 2 + 3 * l ≤ 2 + 3 * k + p ∧ 2 + 3 * k + p < 2 + 3 * (P.nl - 1) then _ else _) = nI (P.lp (if k < l then k else k + 1) p)
    by_cases e : k < l
    · rw [if_neg (by omega), if_pos e, upd_n _ _ (by omega)]
      exact h4 k p (by omega) r
    · rw [if_pos (by omega), if_neg e, upd_n _ _ (by omega), show 2 + 3 * k + p + 3 = 2 + 3 * (k + 1) + p by omega]
      exact h4 (k + 1) p (by omega) r
theorem RwM_remW {f : Nat → Int32} {P : Pl} {w : Nat} (h : RwM f P) (hw : w < P.nw) (h8 : P.nl ≤ 8) : RwM (mvR (upd f 1 (nI (P.nw - 1))) 4 (26 + 4 * w) (26 + 4 * (P.nw - 1))) (P.remW w) := by
  obtain ⟨h1, h2, h3, h4⟩ := h
  refine ⟨?_, ?_, fun k p q r => ?_, fun l p q r => ?_⟩
  · exact (if_neg (by omega)).trans ((upd_n _ _ (by decide)).trans h1)
  · exact (if_neg (by omega)).trans (upd_s _ _ _)
  · have q' : k < P.nw - 1 := q
    show (if 26 + 4 * w ≤ 26 + 4 * k + p ∧ 26 + 4 * k + p < 26 + 4 * (P.nw - 1) then _ else _) = nI (P.wl (if k < w then k else k + 1) p)
    by_cases e : k < w
    · rw [if_neg (by omega), if_pos e, upd_n _ _ (by omega)]
      exact h3 k p (by omega) r
    · rw [if_pos (by omega), if_neg e, upd_n _ _ (by omega), show 26 + 4 * k + p + 4 = 26 + 4 * (k + 1) + p by omega]
      exact h3 (k + 1) p (by omega) r
  · have q' : l < P.nl := q
    exact (if_neg (by omega)).trans ((upd_n _ _ (by omega)).trans (h4 l p q r))
theorem RwM_swL {f : Nat → Int32} {P : Pl} {l : Nat} (h : RwM f P) (hl : l < P.nl) (h8 : P.nl ≤ 8) : RwM (upd f (2 + 3 * l + 2) (nI (1 - P.lp l 2))) (P.swL l) := by
  obtain ⟨h1, h2, h3, h4⟩ := h
  refine ⟨?_, ?_, fun w p q r => ?_, fun k p q r => ?_⟩
  · rw [upd_n _ _ (by omega)]; exact h1
  · rw [upd_n _ _ (by omega)]; exact h2
  · rw [upd_n _ _ (by omega)]; exact h3 w p q r
  · show _ = nI (if k = l ∧ p = 2 then 1 - P.lp l 2 else P.lp k p)
    by_cases e : k = l ∧ p = 2
    · obtain ⟨rfl, rfl⟩ := e
      rw [if_pos ⟨rfl, rfl⟩, upd_s]
    · rw [if_neg e, upd_n _ _ (by omega)]
      exact h4 k p q r
theorem nI_inj {a b : Nat} (h : nI a = nI b) (ha : a < 2147483648) (hb : b < 2147483648) : a = b := by
  have z := congrArg tn h
  rw [tn_n ha, tn_n hb] at z
  exact z
theorem sub_t {a : Nat} {x : Int32} (ha : a ≤ 1000) (h0 : ¬ x < nI 0) (h1 : ¬ nI a < x) : (nI a - x).toInt = (a : Int) - x.toInt := by
  obtain ⟨j, hj, rfl⟩ := rg_le (k := a) (by rw [← nI_0]; exact h0) (Int32.not_lt.mp h1) (by omega)
  rw [pk_sub hj, nI_toInt (by omega), nI_toInt (by omega)]
  omega
theorem canW_0 {P : Pl} (hB : PB P) {x y len : Int32} : canW P x y len (nI 0) = decide ((¬ x < nI 0 ∧ ¬ nI (P.W - 1 + 0) < x) ∧ (¬ y < nI 0 ∧ ¬ nI (P.H - 0) < y) ∧ ¬ len < nI 1 ∧ ¬ (nI P.W - x) < len) := by
  obtain ⟨b1, b2, b3, b4, -⟩ := hB
  unfold canW
  rw [decide_eq_decide]
  rw [nI_0]
  constructor
  · rintro ⟨h1, h2, h3, h4, h5, h6⟩
    rcases h6 with ⟨h6, -⟩ | ⟨-, -, h6⟩
    · exact absurd h6 (by decide)
    · have st := sub_t (a := P.W) (by omega) (by rw [nI_0]; exact h1) h2
      rw [fa_lt] at h1 h2 h3 h4 h6
      rw [fa_le] at h5
      rw [nI_toInt (by omega)] at h2 h4 h5
      rw [st] at h6
      refine ⟨⟨by rw [fa_lt]; exact h1, ?_⟩, ⟨by rw [fa_lt]; exact h3, ?_⟩, ?_, ?_⟩
      · rw [fa_lt, nI_toInt (by omega)]; omega
      · rw [fa_lt, nI_toInt (by omega)]; omega
      · rw [fa_lt, nI_toInt (by omega)]; omega
      · rw [fa_lt, st]; omega
  · rintro ⟨⟨h1, h2⟩, ⟨h3, h4⟩, h5, h6⟩
    refine ⟨h1, ?_, h3, h4, Int32.not_lt.mp h5, Or.inr ⟨by decide, rfl, h6⟩⟩
    rw [fa_lt, nI_toInt (by omega)] at h2 ⊢
    omega
theorem canW_1 {P : Pl} (hB : PB P) {x y len : Int32} : canW P x y len (nI 1) = decide ((¬ x < nI 0 ∧ ¬ nI (P.W - 1 + 1) < x) ∧ (¬ y < nI 0 ∧ ¬ nI (P.H - 1) < y) ∧ ¬ len < nI 1 ∧ ¬ (nI P.H - y) < len) := by
  obtain ⟨b1, b2, b3, b4, -⟩ := hB
  unfold canW
  rw [decide_eq_decide]
  rw [show P.W - 1 + 1 = P.W by omega, show nI 0 = (0 : Int32) from nI_0]
  constructor
  · rintro ⟨h1, h2, h3, h4, h5, h6⟩
    rcases h6 with ⟨-, h6⟩ | ⟨h6, -⟩
    · have st := sub_t (a := P.H) (by omega) (by rw [nI_0]; exact h3) h4
      rw [fa_lt] at h3 h4 h6
      rw [fa_le] at h5
      rw [nI_toInt (by omega)] at h4 h5
      rw [st] at h6
      refine ⟨⟨h1, h2⟩, ⟨by rw [fa_lt]; exact h3, ?_⟩, ?_, ?_⟩
      · rw [fa_lt, nI_toInt (by omega)]; omega
      · rw [fa_lt, nI_toInt (by omega)]; omega
      · rw [fa_lt, st]; omega
    · exact absurd rfl h6
  · rintro ⟨⟨h1, h2⟩, ⟨h3, h4⟩, h5, h6⟩
    refine ⟨h1, h2, h3, ?_, Int32.not_lt.mp h5, Or.inl ⟨rfl, h6⟩⟩
    rw [fa_lt, nI_toInt (by omega)] at h4 ⊢
    omega
theorem canW_n {P : Pl} {x y len u : Int32} (h : ¬ (¬ u < nI 0 ∧ ¬ nI 1 < u)) : canW P x y len u = false := by
  refine decide_eq_false (fun q => h ?_)
  rcases q.2.2.2.2.2 with ⟨rfl, -⟩ | ⟨-, rfl, -⟩
  · exact ⟨by decide, by decide⟩
  · exact ⟨by decide, by decide⟩
theorem up_01 {u : Int32} (h : ¬ u < nI 0 ∧ ¬ nI 1 < u) : u = nI 0 ∨ u = nI 1 := by
  obtain ⟨j, hj, rfl⟩ := rg_le (k := 1) (by rw [← nI_0]; exact h.1) (Int32.not_lt.mp h.2) (by decide)
  rcases (show j = 0 ∨ j = 1 by omega) with rfl | rfl
  · exact Or.inl rfl
  · exact Or.inr rfl
theorem MSn_push {σ : St} {sn : List (Nat × Nat × Nat)} {x y z : Nat} (h : MSn σ sn) : MSn (up (up (up (up σ 60 sn.length (nI x)) 61 sn.length (nI y)) 62 sn.length (nI z)) 55 8 (nI (sn.length + 1))) (sn ++ [(x, y, z)]) := by
  have e0 : (up (up (up (up σ 60 sn.length (nI x)) 61 sn.length (nI y)) 62 sn.length (nI z)) 55 8 (nI (sn.length + 1))) 55 = upd (σ 55) 8 (nI (sn.length + 1)) := by
    simp only [up, upR_s, upR_n _ _ (show (55 : Nat) ≠ 60 by decide), upR_n _ _ (show (55 : Nat) ≠ 61 by decide), upR_n _ _ (show (55 : Nat) ≠ 62 by decide)]
  have e1 : (up (up (up (up σ 60 sn.length (nI x)) 61 sn.length (nI y)) 62 sn.length (nI z)) 55 8 (nI (sn.length + 1))) 60 = upd (σ 60) sn.length (nI x) := by
    simp only [up, upR_s, upR_n _ _ (show (60 : Nat) ≠ 55 by decide), upR_n _ _ (show (60 : Nat) ≠ 61 by decide), upR_n _ _ (show (60 : Nat) ≠ 62 by decide)]
  have e2 : (up (up (up (up σ 60 sn.length (nI x)) 61 sn.length (nI y)) 62 sn.length (nI z)) 55 8 (nI (sn.length + 1))) 61 = upd (σ 61) sn.length (nI y) := by
    simp only [up, upR_s, upR_n _ _ (show (61 : Nat) ≠ 55 by decide), upR_n _ _ (show (61 : Nat) ≠ 60 by decide), upR_n _ _ (show (61 : Nat) ≠ 62 by decide)]
  have e3 : (up (up (up (up σ 60 sn.length (nI x)) 61 sn.length (nI y)) 62 sn.length (nI z)) 55 8 (nI (sn.length + 1))) 62 = upd (σ 62) sn.length (nI z) := by
    simp only [up, upR_s, upR_n _ _ (show (62 : Nat) ≠ 55 by decide), upR_n _ _ (show (62 : Nat) ≠ 60 by decide), upR_n _ _ (show (62 : Nat) ≠ 61 by decide)]
  unfold MSn
  rw [e0, e1, e2, e3, upd_s, List.length_append, List.length_singleton]
  refine ⟨rfl, fun i hi => ?_⟩
  rw [List.getD_eq_getElem?_getD]
  by_cases q : i = sn.length
  · subst q
    rw [List.getElem?_append_right (Nat.le_refl _), Nat.sub_self, upd_s, upd_s, upd_s]
    exact ⟨rfl, rfl, rfl⟩
  · rw [List.getElem?_append_left (by omega), ← List.getD_eq_getElem?_getD, upd_n _ _ q, upd_n _ _ q, upd_n _ _ q]
    exact h.2 i (by omega)
theorem MR_keep {σ : St} {A : Ab} {j : Nat} (hR : MR σ A) (hA : AI A) (hj : j < 2) : MR (up (upR σ 58 (cpR (σ 58) (σ 56) (82 * j) 82)) 59 j (nI 1)) (A.P, A.t, A.m, A.hs, fun i => if i = j then some A.P else A.im i, A.sn) := by
  have e58 : up (upR σ 58 (cpR (σ 58) (σ 56) (82 * j) 82)) 59 j (nI 1) 58 = cpR (σ 58) (σ 56) (82 * j) 82 := by rw [up, upR_n _ _ (by decide), upR_s]
  have e59 : up (upR σ 58 (cpR (σ 58) (σ 56) (82 * j) 82)) 59 j (nI 1) 59 = upd (σ 59) j (nI 1) := by rw [up, upR_s, upR_n _ _ (by decide)]
  have eo : ∀ a, a ≠ 58 → a ≠ 59 → up (upR σ 58 (cpR (σ 58) (σ 56) (82 * j) 82)) 59 j (nI 1) a = σ a := fun a h1 h2 => by rw [up, upR_n _ _ h2, upR_n _ _ h1]
  obtain ⟨h1, h2, h5, h8, h11, h12⟩ := hR
  refine ⟨by rw [eo 55 (by decide) (by decide)]; exact h1, MP_eq h2 (eo 55 (by decide) (by decide)) (eo 56 (by decide) (by decide)), ?_, ?_, fun i hi => ?_, ?_⟩
  · unfold MTx
    rw [eo 55 (by decide) (by decide), eo 63 (by decide) (by decide)]
    exact h5
  · unfold MHs
    rw [eo 55 (by decide) (by decide), eo 57 (by decide) (by decide)]
    exact h8
  · rw [e58, e59]
    by_cases q : i = j
    · subst q
      refine ⟨fun r => ?_, fun Q r => ?_⟩
      · change (if i = i then some A.P else A.im i) = none at r
        rw [if_pos rfl] at r
        cases r
      · change (if i = i then some A.P else A.im i) = some Q at r
        rw [if_pos rfl] at r
        cases r
        exact ⟨upd_s _ _ _, RwM_c (f := σ 56) h2.2.2 hA.1.1.2.2.2.2.2.1 hA.1.1.2.2.2.2.2.2 (fun k hk => cpR_in hk)⟩
    · rw [upd_n _ _ q]
      refine ⟨fun r => ?_, fun Q r => ?_⟩
      · change (if i = j then some A.P else A.im i) = none at r
        rw [if_neg q] at r
        exact (h11 i hi).1 r
      · change (if i = j then some A.P else A.im i) = some Q at r
        rw [if_neg q] at r
        have z := (h11 i hi).2 Q r
        have hb := (hA.2.2.1 i Q r).1.1
        exact ⟨z.1, RwM_c z.2 hb.2.2.2.2.2.1 hb.2.2.2.2.2.2 (fun k hk => cpR_out (by omega))⟩
  · unfold MSn
    rw [eo 55 (by decide) (by decide), eo 60 (by decide) (by decide), eo 61 (by decide) (by decide), eo 62 (by decide) (by decide)]
    exact h12
