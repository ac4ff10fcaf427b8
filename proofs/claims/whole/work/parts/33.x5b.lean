theorem wk_265 : Cond.constant RJ6 265 1431655765 ∈ UW := uw_i 502 (by decide +kernel) (by decide +kernel)
theorem wk_266 : Cond.constant RJ6 266 858993459 ∈ UW := uw_i 503 (by decide +kernel) (by decide +kernel)
theorem wk_267 : Cond.constant RJ6 267 252645135 ∈ UW := uw_i 504 (by decide +kernel) (by decide +kernel)
/-! ===== the class's calls, second half ===== -/
def bc1 (a : Nat) : Nat := a - ((a / 2) &&& 1431655765)
def bc2 (a : Nat) : Nat := (bc1 a &&& 858993459) + ((bc1 a / 4) &&& 858993459)
def bc3 (a : Nat) : Nat := (bc2 a + bc2 a / 16) &&& 252645135
def bc4 (a : Nat) : Nat := bc3 a + bc3 a / 256
def bc5 (a : Nat) : Nat := bc4 a + bc4 a / 65536
theorem bc1_ok : ∀ a, a < 256 → nI a - ((Int32.toUInt32 (nI a) >>> (Int32.toUInt32 (nI 1) &&& Int32.toUInt32 31)).toInt32 &&& (1431655765 : Int32)) = nI (bc1 a) := by decide +kernel
theorem bc2_ok : ∀ a, a < 256 → (nI (bc1 a) &&& (858993459 : Int32)) + ((Int32.toUInt32 (nI (bc1 a)) >>> (Int32.toUInt32 (nI 2) &&& Int32.toUInt32 31)).toInt32 &&& (858993459 : Int32)) = nI (bc2 a) := by decide +kernel
theorem bc3_ok : ∀ a, a < 256 → (nI (bc2 a) + (Int32.toUInt32 (nI (bc2 a)) >>> (Int32.toUInt32 (nI 4) &&& Int32.toUInt32 31)).toInt32) &&& (252645135 : Int32) = nI (bc3 a) := by decide +kernel
theorem bc4_ok : ∀ a, a < 256 → nI (bc3 a) + (Int32.toUInt32 (nI (bc3 a)) >>> (Int32.toUInt32 (nI 8) &&& Int32.toUInt32 31)).toInt32 = nI (bc4 a) := by decide +kernel
theorem bc5_ok : ∀ a, a < 256 → nI (bc4 a) + (Int32.toUInt32 (nI (bc4 a)) >>> (Int32.toUInt32 (nI 16) &&& Int32.toUInt32 31)).toInt32 = nI (bc5 a) := by decide +kernel
theorem bc6_ok : ∀ a, a < 256 → nI (bc5 a) &&& nI 63 = nI (pop8 a) := by decide +kernel
theorem pop8_le (a : Nat) : pop8 a ≤ 8 := fa_cnt_le _ 8
theorem fw_lt {P : Pl} {lx ly : Nat} {dx dy : Int} : ∀ {i : Nat} {q : Nat × Int × Int}, P.fw lx ly dx dy i = some q → q.1 < i
  | 0, q, h => by cases h
  | i + 1, q, h => by
    rw [Pl.fw] at h
    split at h
    · split at h
      · cases h; exact Nat.lt_succ_self i
      · cases h
    · next r hr =>
      split at h
      · cases h; exact Nat.lt_succ_self i
      · cases h
        have := fw_lt hr
        omega
theorem EC_len {P : Pl} (hB : PB P) (l : Nat) : (P.EC l).length ≤ 100 := by
  obtain ⟨b1, b2, b3, b4, -⟩ := hB
  exact Nat.le_trans (EVc_len P _ _ _) (Nat.mul_le_mul (show P.W + 1 ≤ 10 by omega) (show P.H + 1 ≤ 10 by omega))
theorem EC_RB {P : Pl} (hB : PB P) {l : Nat} (hl : LampOK P l) : RB (P.EC l) := by
  obtain ⟨b1, b2, b3, b4, -⟩ := hB
  obtain ⟨o1, o2, -⟩ := hl
  exact EVc_RB P (by omega) (by omega) b2 b4 _ (Nat.le_refl _)
theorem fewC_le {L : Nat → Nat} {N ev : Nat} : ∀ {s : Nat}, s ≤ ev + 1 → fewC L N ev s ≤ ev
  | 0, _ => Nat.le_refl ev
  | s + 1, h => by
    rw [fewC]
    split
    · omega
    · exact fewC_le (by omega)
theorem LS_lt {P : Pl} (h : P.nl ≤ 8) (q : Nat) (wo : Int32) (s : Nat) : P.LS q wo s < 256 := Bt_le h
def bI3 (P : Pl) (o : Option (Nat × Nat)) (a b c : Int32) : Prop := (o = none ∧ a = -9 ∧ b = -9 ∧ c = -9) ∨ ∃ s d : Nat, o = some (s, d) ∧ a = nI (s % P.W) ∧ b = nI (s / P.W) ∧ c = nI d ∧ d ≤ 81
theorem bI3_m {P : Pl} {o : Option (Nat × Nat)} {a b c : Int32} (h : bI3 P o a b c) : (-9 : Int32) ≤ c := by
  rcases h with ⟨-, -, -, rfl⟩ | ⟨s, d, -, -, -, rfl, hd⟩
  · decide
  · rw [fa_le, nI_toInt (by omega)]
    have : (-9 : Int32).toInt = -9 := by decide
    omega
theorem m9_lt {d : Nat} (h : d < 2147483648) : ¬ nI d ≤ (-9 : Int32) := by
  rw [fa_le, nI_toInt h]
  have : (-9 : Int32).toInt = -9 := by decide
  omega
theorem bI3_le {P : Pl} {s dk : Nat} {a b c : Int32} (h : bI3 P (bstC P s) a b c) (hn : P.at (s % P.W) (s / P.W) = false) (hd : dk = P.dark (P.LS P.on (-9)) (s % P.W) (s / P.W)) (h81 : dk ≤ 81) (hc : nI dk ≤ c) : bI3 P (bstC P (s + 1)) a b c := by
  rw [bstC, if_neg (by rw [hn]; decide)]
  rcases h with ⟨h1, h2, h3, h4⟩ | ⟨s', d', h1, h2, h3, h4, h5⟩
  · rw [h4] at hc
    exact absurd hc (m9_lt (by omega))
  · rw [h1]
    rw [h4] at hc
    have := (nI_leI (by omega) (by omega)).mp hc
    refine Or.inr ⟨s', d', ?_, h2, h3, h4, h5⟩
    show (if d' < _ then _ else _) = _
    rw [if_neg (by rw [← hd]; omega)]
theorem bI3_gt {P : Pl} {s dk : Nat} {a b c : Int32} (h : bI3 P (bstC P s) a b c) (hn : P.at (s % P.W) (s / P.W) = false) (hd : dk = P.dark (P.LS P.on (-9)) (s % P.W) (s / P.W)) (h81 : dk ≤ 81) (hc : ¬ nI dk ≤ c) : bI3 P (bstC P (s + 1)) (nI (s % P.W)) (nI (s / P.W)) (nI dk) := by
  rw [bstC, if_neg (by rw [hn]; decide)]
  refine Or.inr ⟨s, dk, ?_, rfl, rfl, rfl, h81⟩
  rcases h with ⟨h1, h2, h3, h4⟩ | ⟨s', d', h1, h2, h3, h4, h5⟩
  · rw [h1, hd]
  · rw [h1]
    rw [h4] at hc
    have : ¬ dk ≤ d' := fun q => hc ((nI_leI (by omega) (by omega)).mpr q)
    show (if d' < _ then _ else _) = _
    rw [if_pos (by rw [← hd]; omega), hd]
theorem bI3_at {P : Pl} {s : Nat} {a b c : Int32} (h : bI3 P (bstC P s) a b c) (hn : P.at (s % P.W) (s / P.W) = true) : bI3 P (bstC P (s + 1)) a b c := by
  rw [bstC, if_pos hn]
  exact h
theorem dark_le {P : Pl} (hB : PB P) (L : Nat → Nat) (x y : Nat) : P.dark L x y ≤ 81 := by
  obtain ⟨b1, b2, b3, b4, -⟩ := hB
  exact Nat.le_trans (fa_cnt_le _ _) (ar_le b2 b4)
theorem cL_le {P : Pl} (hB : PB P) (q : Nat) (wo : Int32) : P.cL q wo ≤ 81 := by
  obtain ⟨b1, b2, b3, b4, -⟩ := hB
  exact Nat.le_trans (fa_cnt_le _ _) (ar_le b2 b4)
def wI2 (o : Option (Nat × Nat)) (a b : Int32) : Prop := (o = none ∧ a = -9) ∨ ∃ w d : Nat, o = some (w, d) ∧ a = nI w ∧ b = nI d ∧ w < 14 ∧ d ≤ 81
theorem wI2_new {P : Pl} {w : Nat} {a b : Int32} (h : wI2 (wrsC P w) a b) (h4 : 4 ≤ w) (h14 : w < 14) (hB : PB P) (hc : a = -9) : wI2 (wrsC P (w + 1)) (nI w) (nI (P.cL P.on (nI w))) := by
  rw [wrsC, if_neg (by omega)]
  refine Or.inr ⟨w, P.cL P.on (nI w), ?_, rfl, rfl, h14, cL_le hB _ _⟩
  rcases h with ⟨h1, h2⟩ | ⟨w', d', h1, h2, h3, h4, h5⟩
  · rw [h1]
  · exact absurd (h2.symm.trans hc) (nI_m9 (by omega))
theorem wI2_gt {P : Pl} {w : Nat} {a b : Int32} (h : wI2 (wrsC P w) a b) (h4 : 4 ≤ w) (h14 : w < 14) (hB : PB P) (ha : ¬ a = -9) (hc : ¬ nI (P.cL P.on (nI w)) ≤ b) : wI2 (wrsC P (w + 1)) (nI w) (nI (P.cL P.on (nI w))) := by
  rw [wrsC, if_neg (by omega)]
  refine Or.inr ⟨w, P.cL P.on (nI w), ?_, rfl, rfl, h14, cL_le hB _ _⟩
  rcases h with ⟨h1, h2⟩ | ⟨w', d', h1, h2, h3, h4, h5⟩
  · exact absurd h2 ha
  · rw [h1]
    rw [h3] at hc
    have hcl := cL_le hB P.on (nI w)
    have : ¬ P.cL P.on (nI w) ≤ d' := fun q => hc ((nI_leI (by omega) (by omega)).mpr q)
    show (if d' < _ then _ else _) = _
    rw [if_pos (by omega)]
theorem wI2_le {P : Pl} {w : Nat} {a b : Int32} (h : wI2 (wrsC P w) a b) (h4 : 4 ≤ w) (hB : PB P) (ha : ¬ a = -9) (hc : nI (P.cL P.on (nI w)) ≤ b) : wI2 (wrsC P (w + 1)) a b := by
  rw [wrsC, if_neg (by omega)]
  rcases h with ⟨h1, h2⟩ | ⟨w', d', h1, h2, h3, h4, h5⟩
  · exact absurd h2 ha
  · refine Or.inr ⟨w', d', ?_, h2, h3, h4, h5⟩
    rw [h1]
    rw [h3] at hc
    have hcl := cL_le hB P.on (nI w)
    have := (nI_leI (by omega) (by omega)).mp hc
    show (if d' < _ then _ else _) = _
    rw [if_neg (by omega)]
theorem wI2_end {P : Pl} {w : Nat} {a b : Int32} (h : wI2 (wrsC P w) a b) : (match wrsC P w with | none => (-9 : Int32) | some q => nI q.1) = a := by
  rcases h with ⟨h1, h2⟩ | ⟨w', d', h1, h2, -⟩
  · rw [h1, h2]
  · rw [h1, h2]
theorem bI3_end {P : Pl} {s : Nat} {a b c : Int32} (h : bI3 P (bstC P s) a b c) (hs : s = P.W * P.H) (x : Int32) : bstA P x = if x = 0 then a else if x = nI 1 then b else c := by
  unfold bstA
  subst hs
  rcases h with ⟨h1, rfl, rfl, rfl⟩ | ⟨s', d', h1, rfl, rfl, rfl, -⟩
  · rw [h1]
    simp only [ite_self]
  · rw [h1]
theorem sn_push {σ : St} {sn : List (Nat × Nat × Nat)} {x y z : Nat} (h : SnOK σ sn) : SnOK (up (up (up (up σ 48 (sn.length * 3 + 0) (nI x)) 48 (sn.length * 3 + 1) (nI y)) 48 (sn.length * 3 + 2) (nI z)) 0 9 (nI (sn.length + 1))) (sn ++ [(x, y, z)]) := by
  have e0 : (up (up (up (up σ 48 (sn.length * 3 + 0) (nI x)) 48 (sn.length * 3 + 1) (nI y)) 48 (sn.length * 3 + 2) (nI z)) 0 9 (nI (sn.length + 1))) 0 = upd (σ 0) 9 (nI (sn.length + 1)) := by
    simp only [up, upR_s, upR_n _ _ (show (0 : Nat) ≠ 48 by decide)]
  have e1 : (up (up (up (up σ 48 (sn.length * 3 + 0) (nI x)) 48 (sn.length * 3 + 1) (nI y)) 48 (sn.length * 3 + 2) (nI z)) 0 9 (nI (sn.length + 1))) 48 = upd (upd (upd (σ 48) (sn.length * 3 + 0) (nI x)) (sn.length * 3 + 1) (nI y)) (sn.length * 3 + 2) (nI z) := by
    simp only [up, upR_s, upR_n _ _ (show (48 : Nat) ≠ 0 by decide)]
  unfold SnOK
  rw [e0, e1, upd_s, List.length_append, List.length_singleton]
  refine ⟨rfl, fun i hi => ?_⟩
  rw [List.getD_eq_getElem?_getD]
  by_cases q : i = sn.length
  · subst q
    rw [List.getElem?_append_right (Nat.le_refl _), Nat.sub_self]
    refine ⟨?_, ?_, ?_⟩
    · rw [upd_n _ _ (by omega), upd_n _ _ (by omega), upd_s]; rfl
    · rw [upd_n _ _ (by omega), upd_s]; rfl
    · rw [upd_s]; rfl
  · rw [List.getElem?_append_left (by omega), ← List.getD_eq_getElem?_getD]
    rw [upd_n _ _ (by omega), upd_n _ _ (by omega), upd_n _ _ (by omega), upd_n _ _ (by omega), upd_n _ _ (by omega), upd_n _ _ (by omega), upd_n _ _ (by omega), upd_n _ _ (by omega), upd_n _ _ (by omega)]
    exact h.2 i (by omega)
theorem m1_n : (-1 : Int32) = nI 4294967295 := by decide
theorem numR_s {t : Nat → Nat} {m p lo hi s : Nat} (hm : m ≤ 120) (hp : p ≤ m) (h : numR t m p lo hi = .inl s) : s ≤ 120 := by
  unfold numR at h
  have := tkS_le (t := t) hp
  split at h
  · cases h
  · rw [← Sum.inl.inj h]; omega
theorem endR_s {t : Nat → Nat} {m p s : Nat} {P : Pl} (hm : m ≤ 120) (hp : p ≤ m) (h : endR t m p P = .inl s) : s ≤ 120 := by
  unfold endR at h
  have := tkS_le (t := t) hp
  split at h
  · cases h
  · rw [← Sum.inl.inj h]; omega
theorem sizeR_s {t : Nat → Nat} {m p s : Nat} (hm : m ≤ 120) (hp : p ≤ m) (h : sizeR t m p = .inl s) : s ≤ 120 := by
  unfold sizeR at h
  split at h
  · next a ha => rw [← Sum.inl.inj h]; exact numR_s hm hp ha
  · next a ha =>
    have h1 := (numR_b hp ha).2.2.2
    split at h
    · next b hb => rw [← Sum.inl.inj h]; exact numR_s hm h1 hb
    · next b hb => exact endR_s hm (numR_b h1 hb).2.2.2 h
theorem wallR_s {t : Nat → Nat} {m p u s : Nat} {P : Pl} (hm : m ≤ 120) (hp : p ≤ m) (h : wallR t m P u p = .inl s) : s ≤ 120 := by
  unfold wallR at h
  split at h
  · next a ha => rw [← Sum.inl.inj h]; exact numR_s hm hp ha
  · next a ha =>
    have h1 := (numR_b hp ha).2.2.2
    split at h
    · next b hb => rw [← Sum.inl.inj h]; exact numR_s hm h1 hb
    · next b hb =>
      have h2 := (numR_b h1 hb).2.2.2
      split at h
      · next c hc => rw [← Sum.inl.inj h]; exact numR_s hm h2 hc
      · next c hc => exact endR_s hm (numR_b h2 hc).2.2.2 h
theorem lampR_s {t : Nat → Nat} {m p s : Nat} {P : Pl} (hm : m ≤ 120) (hp : p ≤ m) (h : lampR t m P p = .inl s) : s ≤ 120 := by
  unfold lampR at h
  split at h
  · next a ha => rw [← Sum.inl.inj h]; exact numR_s hm hp ha
  · next a ha =>
    have h1 := (numR_b hp ha).2.2.2
    have h3 := tkS_le (t := t) h1
    split at h
    · next b hb => rw [← Sum.inl.inj h]; exact numR_s hm h1 hb
    · next b hb =>
      split at h
      · rw [← Sum.inl.inj h]; omega
      · exact endR_s hm (numR_b h1 hb).2.2.2 h
theorem itemR_s {t : Nat → Nat} {m p i s : Nat} {P : Pl} (hm : m ≤ 120) (hp : p ≤ m) (h : itemR t m P i (tkC t m p) (tkS t m p) (tkE t m p) = .inl s) : s ≤ 120 := by
  have a1 := tkS_le (t := t) hp
  have a2 := tkE_le (t := t) hp
  have hs : ∀ {s' : Nat}, (Sum.inl (tkS t m p) : Nat ⊕ (Pl × Nat)) = .inl s' → s' ≤ 120 := fun q => by rw [← Sum.inl.inj q]; omega
  unfold itemR at h
  split at h
  · split at h
    · exact sizeR_s hm a2.2 h
    · exact hs h
  · split at h
    · split at h
      · exact wallR_s hm a2.2 h
      · exact hs h
    · split at h
      · split at h
        · exact wallR_s hm a2.2 h
        · exact hs h
      · split at h
        · split at h
          · exact lampR_s hm a2.2 h
          · exact hs h
        · exact hs h
theorem tlR_le {t : Nat → Nat} {m : Nat} (hm : m ≤ 120) : ∀ (f : Nat) (P : Pl) (p i : Nat) (s : Nat), p ≤ m → PGt P → tlR t m f P p i = .inl s → s ≤ 120
  | 0, P, p, i, s, hp, hG, h => by rw [tlR] at h; cases h; omega
  | f + 1, P, p, i, s, hp, hG, h => by
    rw [tlR] at h
    have a1 := tkS_le (t := t) hp
    have a2 := tkE_le (t := t) hp
    split at h
    · cases h
    · split at h
      · next s' hs =>
        cases h
        exact itemR_s hm hp hs
      · next q hq =>
        have z := itemR_b hG a2.2 hq
        exact tlR_le hm f q.1 q.2 (i + 1) s z.2.2 z.1 h
