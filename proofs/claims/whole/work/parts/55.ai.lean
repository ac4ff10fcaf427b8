/-! ===== what is always so stays so ===== -/
theorem PG_remL {P : Pl} (h : PG P) {l : Nat} (hl : l < P.nl) : PG (P.remL l) := by
  obtain ⟨⟨b1, b2, b3, b4, b5, b6, b7⟩, hw, hlm, hs⟩ := h
  refine ⟨⟨b1, b2, b3, b4, b5, b6, by show P.nl - 1 ≤ 8; omega⟩, hw, fun k hk => ?_, hs⟩
  have hk' : k < P.nl - 1 := hk
  exact hlm (if k < l then k else k + 1) (by split <;> omega)
theorem PG_swL {P : Pl} (h : PG P) {l : Nat} : PG (P.swL l) := by
  obtain ⟨hb, hw, hlm, hs⟩ := h
  refine ⟨hb, hw, fun k hk => ?_, hs⟩
  obtain ⟨o1, o2, o3⟩ := hlm k hk
  refine ⟨?_, ?_, ?_⟩
  · show (if k = l ∧ 0 = 2 then _ else P.lp k 0) < P.W
    rw [if_neg (by omega)]; exact o1
  · show (if k = l ∧ 1 = 2 then _ else P.lp k 1) < P.H
    rw [if_neg (by omega)]; exact o2
  · show (if k = l ∧ 2 = 2 then 1 - P.lp l 2 else P.lp k 2) ≤ 1
    split
    · omega
    · exact o3
theorem PG_remW {P : Pl} (h : PG P) {w : Nat} (h4 : 4 ≤ w) (hw : w < P.nw) : PG (P.remW w) := by
  obtain ⟨⟨b1, b2, b3, b4, b5, b6, b7⟩, hwl, hlm, s0, s1, s2, s3⟩ := h
  refine ⟨⟨b1, b2, b3, b4, by show 4 ≤ P.nw - 1; omega, by show P.nw - 1 ≤ 14; omega, b7⟩, fun k hk => ?_, hlm, ?_⟩
  · have hk' : k < P.nw - 1 := hk
    exact hwl (if k < w then k else k + 1) (by split <;> omega)
  · have e : ∀ k p, k < 4 → (P.remW w).wl k p = P.wl k p := fun k p hk => by
      show P.wl (if k < w then k else k + 1) p = _
      rw [if_pos (by omega)]
    unfold Sides
    rw [e 0 0 (by decide), e 0 1 (by decide), e 0 2 (by decide), e 0 3 (by decide), e 1 0 (by decide), e 1 1 (by decide), e 1 2 (by decide), e 1 3 (by decide), e 2 0 (by decide), e 2 1 (by decide), e 2 2 (by decide), e 2 3 (by decide), e 3 0 (by decide), e 3 1 (by decide), e 3 2 (by decide), e 3 3 (by decide)]
    exact ⟨s0, s1, s2, s3⟩
theorem AI_to {A : Ab} {Q : Pl} {t : Nat → Nat} {m : Nat} {hs : List Pl} {im : Nat → Option Pl} {sn : List (Nat × Nat × Nat)} (h : AI A) (hQ : PG Q) (hd : dim A.P Q) (hh : ∀ R ∈ hs, R = A.P ∨ R ∈ A.hs) (hi : ∀ i R, im i = some R → R = A.P ∨ A.im i = some R) (hn : sn.length ≤ 6) (hq : ∀ q ∈ sn, q.1 < A.P.W ∧ q.2.1 < A.P.H ∧ q.2.2 ≤ 1) : AI (Q, t, m, hs, im, sn) := by
  obtain ⟨d1, d2⟩ := hd
  have hdd : ∀ {R : Pl}, dim A.P R → dim Q R := fun r => ⟨r.1.trans d1.symm, r.2.trans d2.symm⟩
  refine ⟨hQ, fun R hR => ?_, fun i R hR => ?_, hn, fun q r => ?_⟩
  · rcases hh R hR with z | z
    · rw [z]; exact ⟨h.1, hdd ⟨rfl, rfl⟩⟩
    · exact ⟨(h.2.1 R z).1, hdd (h.2.1 R z).2⟩
  · rcases hi i R hR with z | z
    · rw [z]; exact ⟨h.1, hdd ⟨rfl, rfl⟩⟩
    · exact ⟨(h.2.2.1 i R z).1, hdd (h.2.2.1 i R z).2⟩
  · have z := hq q r
    exact ⟨by show q.1 < Q.W; rw [d1]; exact z.1, by show q.2.1 < Q.H; rw [d2]; exact z.2.1, z.2.2⟩
theorem AI_setP {A : Ab} {Q : Pl} (h : AI A) (hQ : PG Q) (hd : dim A.P Q) : AI (A.setP Q) :=
  AI_to h hQ hd (fun R hR => List.mem_cons.mp (List.mem_of_mem_take hR)) (fun i R hR => Or.inr hR) h.2.2.2.1 h.2.2.2.2
theorem inR_tn {x : Int32} {k : Nat} (h : inR x k = true) (hk : k < 2147483648) : tn x < k := by
  obtain ⟨j, hj, rfl⟩ := inR_t h hk
  rw [tn_n (by omega)]
  exact hj
theorem AI_type {A : Ab} (h : AI A) (x : Int32) : AI (o_type A x).2 := by
  unfold o_type
  split
  · exact h
  · split
    · exact h
    · exact h
theorem AI_clear {A : Ab} (h : AI A) : AI (o_clear A).2 := h
theorem tlR_G {t : Nat → Nat} {m : Nat} : ∀ (f : Nat) (P : Pl) (p i : Nat) (q : Nat × Pl), p ≤ m → PGt P → tlR t m f P p i = .inr q → PGt q.2
  | 0, P, p, i, q, hp, hG, h => by rw [tlR] at h; cases h
  | f + 1, P, p, i, q, hp, hG, h => by
    rw [tlR] at h
    have a2 := tkE_le (t := t) hp
    split at h
    · cases h; exact hG
    · split at h
      · cases h
      · next r hr =>
        have z := itemR_b hG a2.2 hr
        exact tlR_G f r.1 r.2 (i + 1) q z.2.2 z.1 h
theorem AI_plan {A : Ab} (h : AI A) : AI (o_plan A).2 := by
  unfold o_plan
  split
  · exact h
  · next q hq =>
    have z := tlR_G 121 (P0 6 6) 0 0 q (Nat.zero_le _) (PG_P0 (by decide) (by decide) (by decide) (by decide)) hq
    exact ⟨z.1, fun R hR => (by cases hR), fun i R hR => (by cases hR), Nat.zero_le _, fun q r => (by cases r)⟩
theorem AI_puts {A : Ab} (h : AI A) (x y : Int32) : AI (o_puts A x y).2 := by
  have hb := h.1.1
  obtain ⟨b1, b2, b3, b4, b5, b6, b7⟩ := hb
  unfold o_puts
  split
  · exact h
  · next q =>
    have q' : (inR x A.P.W && inR y A.P.H) = true := by
      cases r : (inR x A.P.W && inR y A.P.H)
      · exact absurd r q
      · rfl
    split
    · exact h
    · split
      · exact h
      · exact AI_setP h (PG_addL h.1 (by omega) (inR_tn (and_t q').1 (by omega)) (inR_tn (and_t q').2 (by omega))) ⟨rfl, rfl⟩
theorem bo_t {b : Bool} (h : ¬ b = false) : b = true := by
  cases b
  · exact absurd rfl h
  · rfl
theorem AI_takes {A : Ab} (h : AI A) (x : Int32) : AI (o_takes A x).2 := by
  have b7 := h.1.1.2.2.2.2.2.2
  unfold o_takes
  split
  · exact h
  · next q => exact AI_setP h (PG_remL h.1 (inR_tn (bo_t q) (by omega))) ⟨rfl, rfl⟩
theorem AI_switches {A : Ab} (h : AI A) (x : Int32) : AI (o_switches A x).2 := by
  unfold o_switches
  split
  · exact h
  · exact AI_setP h (PG_swL h.1) ⟨rfl, rfl⟩
theorem AI_builds {A : Ab} (h : AI A) (x y len u : Int32) : AI (o_builds A x y len u).2 := by
  have hb := h.1.1
  unfold o_builds
  split
  · exact h
  · next q =>
    split
    · exact h
    · next r =>
      obtain ⟨jx, jy, jl, ju, rfl, rfl, rfl, rfl, hw1, hw2, hw3, hw4, hw5, hw6⟩ := canW_t (bo_t q) hb
      obtain ⟨b1, b2, b3, b4, b5, b6, b7⟩ := hb
      have hl9 : jl ≤ 9 := by omega
      show AI (A.setP _)
      rw [tn_n (by omega), tn_n (by omega), tn_n (by omega), tn_n (by omega)]
      exact AI_setP h (PG_addW h.1 (by omega) hw1 hw3 hw4 hw2 (fun z => by have := hw6 z; omega) (fun z => by have := hw5 z; omega)) ⟨rfl, rfl⟩
theorem AI_breaks {A : Ab} (h : AI A) (x : Int32) : AI (o_breaks A x).2 := by
  have b6 := h.1.1.2.2.2.2.2.1
  unfold o_breaks
  split
  · exact h
  · next q =>
    obtain ⟨k, h4, hk, rfl⟩ := in4_t (bo_t q) (by omega)
    show AI (A.setP _)
    rw [tn_n (by omega)]
    exact AI_setP h (PG_remW h.1 h4 hk) ⟨rfl, rfl⟩
theorem AI_undo {A : Ab} (h : AI A) : AI (o_undo A).2 := by
  unfold o_undo
  split
  · exact h
  · next Q r hq =>
    have z := h.2.1 Q (by rw [hq]; exact List.mem_cons_self)
    exact AI_to h z.1 z.2 (fun R hR => Or.inr (by rw [hq]; exact List.mem_cons_of_mem _ hR)) (fun i R hR => Or.inr hR) h.2.2.2.1 h.2.2.2.2
theorem AI_sees {A : Ab} (h : AI A) (x y z : Int32) : AI (o_sees A x y z).2 := by
  have hb := h.1.1
  obtain ⟨b1, b2, b3, b4, b5, b6, b7⟩ := hb
  unfold o_sees
  split
  · exact h
  · next q =>
    have q' : (inR x A.P.W && inR y A.P.H) = true ∧ ¬ z < 0 ∧ z ≤ nI 1 := Classical.byContradiction q
    split
    · exact h
    · next r =>
      refine AI_to h h.1 ⟨rfl, rfl⟩ (fun R hR => Or.inr hR) (fun i R hR => Or.inr hR) (by rw [List.length_append, List.length_singleton]; omega) (fun v hv => ?_)
      rcases List.mem_append.mp hv with w | w
      · exact h.2.2.2.2 v w
      · rw [List.mem_singleton.mp w]
        obtain ⟨k, hk, rfl⟩ := rg_le q'.2.1 q'.2.2 (by decide)
        exact ⟨inR_tn (and_t q'.1).1 (by omega), inR_tn (and_t q'.1).2 (by omega), by show tn (nI k) ≤ 1; rw [tn_n (by omega)]; exact hk⟩
theorem AI_forget {A : Ab} (h : AI A) : AI (o_forget A).2 := AI_to h h.1 ⟨rfl, rfl⟩ (fun R hR => Or.inr hR) (fun i R hR => Or.inr hR) (Nat.zero_le _) (fun q r => by cases r)
theorem AI_keep {A : Ab} (h : AI A) (x : Int32) : AI (o_keep A x).2 := by
  unfold o_keep
  split
  · exact h
  · refine AI_to h h.1 ⟨rfl, rfl⟩ (fun R hR => Or.inr hR) (fun i R hR => ?_) h.2.2.2.1 h.2.2.2.2
    by_cases q : i = tn x
    · rw [if_pos q] at hR
      exact Or.inl (Option.some.inj hR).symm
    · rw [if_neg q] at hR
      exact Or.inr hR
theorem AI_back {A : Ab} (h : AI A) (x : Int32) : AI (o_back A x).2 := by
  unfold o_back
  split
  · exact h
  · split
    · exact h
    · next Q hq =>
      have z := h.2.2.1 _ Q hq
      exact AI_to h z.1 z.2 (fun R hR => by cases hR) (fun i R hR => Or.inr hR) h.2.2.2.1 h.2.2.2.2
/-! the two halves leave each other alone -/
theorem CR_M {σ σ' : St} {A : Ab} (h : CR σ A) (hf : FrM σ σ') : CR σ' A :=
  ⟨h.1.frame (hf 1 (by decide)) (hf 2 (by decide)) (hf 3 (by decide)), h.2.1.eq (hf 7 (by decide)) (hf 8 (by decide)), h.2.2.1.eq (fun a ha => hf a (by omega)), h.2.2.2.1.eq (hf 47 (by decide)) (fun a h1 h2 => hf a (by omega)), h.2.2.2.2.eq (hf 0 (by decide)) (hf 48 (by decide))⟩
theorem MR_C {σ σ' : St} {A : Ab} (h : MR σ A) (hf : FrC σ σ') : MR σ' A := MR_eq h (fun i _ => by rw [hf 55 (by decide)]) (fun a h1 _ => hf a (by omega))
