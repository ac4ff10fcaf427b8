/-! ===== what an object is, and what each call answers ===== -/
abbrev Ab : Type := Pl × (Nat → Nat) × Nat × List Pl × (Nat → Option Pl) × List (Nat × Nat × Nat)
def Ab.P (A : Ab) : Pl := A.1
def Ab.t (A : Ab) : Nat → Nat := A.2.1
def Ab.m (A : Ab) : Nat := A.2.2.1
def Ab.hs (A : Ab) : List Pl := A.2.2.2.1
def Ab.im (A : Ab) : Nat → Option Pl := A.2.2.2.2.1
def Ab.sn (A : Ab) : List (Nat × Nat × Nat) := A.2.2.2.2.2
def ImOK (σ : St) (im : Nat → Option Pl) : Prop := ∀ i, i < 2 → (im i = none → σ 47 i = nI 0) ∧ ∀ Q, im i = some Q → σ 47 i = nI 1 ∧ PlanOK σ (49 + 3 * i) Q
def SnOK (σ : St) (sn : List (Nat × Nat × Nat)) : Prop := σ 0 9 = nI sn.length ∧ ∀ i, i < sn.length → σ 48 (i * 3 + 0) = nI (sn.getD i (0, 0, 0)).1 ∧ σ 48 (i * 3 + 1) = nI (sn.getD i (0, 0, 0)).2.1 ∧ σ 48 (i * 3 + 2) = nI (sn.getD i (0, 0, 0)).2.2
/-- the class's cells hold the object -/
def CR (σ : St) (A : Ab) : Prop := PlanOK σ 1 A.P ∧ TxtOK σ A.t A.m ∧ PastOK σ A.hs ∧ ImOK σ A.im ∧ SnOK σ A.sn
def dim (P Q : Pl) : Prop := Q.W = P.W ∧ Q.H = P.H
/-- what is always so -/
def AI (A : Ab) : Prop := PG A.P ∧ (∀ Q ∈ A.hs, PG Q ∧ dim A.P Q) ∧ (∀ i Q, A.im i = some Q → PG Q ∧ dim A.P Q) ∧ A.sn.length ≤ 6 ∧ ∀ q ∈ A.sn, q.1 < A.P.W ∧ q.2.1 < A.P.H ∧ q.2.2 ≤ 1
def FrC (σ σ' : St) : Prop := ∀ a, 55 ≤ a → σ' a = σ a
theorem FrC.rf {σ : St} : FrC σ σ := fun _ _ => rfl
theorem FrC.tr {σ σ' σ'' : St} (h : FrC σ σ') (h2 : FrC σ' σ'') : FrC σ σ'' := fun a ha => (h2 a ha).trans (h a ha)
theorem FrC.of {S : List Nat} {σ σ' : St} (h : Fr S σ σ') (hs : ∀ a ∈ S, a < 55) : FrC σ σ' := fun a ha => h a (fun q => by have := hs a q; omega)
theorem FrC.put {σ σ' : St} (h : FrC σ σ') {k i : Nat} {v : Int32} (hk : k < 55) : FrC σ (up σ' k i v) := fun a ha => by
  rw [show up σ' k i v a = σ' a from upR_n _ _ (by omega)]
  exact h a ha
theorem TxtOK.eq {σ σ' : St} {t : Nat → Nat} {m : Nat} (h : TxtOK σ t m) (h7 : σ' 7 = σ 7) (h8 : σ' 8 = σ 8) : TxtOK σ' t m := h.fr (by rw [h7]; exact h.1) h8
theorem PastOK.eq {σ σ' : St} {hs : List Pl} (h : PastOK σ hs) (he : ∀ a, a = 9 ∨ (11 ≤ a ∧ a ≤ 40) → σ' a = σ a) : PastOK σ' hs := by
  obtain ⟨nx, h1, h2, h3, h4, h5⟩ := h
  refine ⟨nx, h1, by rw [he 9 (Or.inl rfl)]; exact h2, by rw [he 9 (Or.inl rfl)]; exact h3, h4, fun i hi => ?_⟩
  have hm : (nx + 9 - i) % 10 < 10 := Nat.mod_lt _ (by decide)
  exact (h5 i hi).frame (he _ (by omega)) (he _ (by omega)) (he _ (by omega))
theorem ImOK.eq {σ σ' : St} {im : Nat → Option Pl} (h : ImOK σ im) (h1 : σ' 47 = σ 47) (he : ∀ a, 49 ≤ a → a ≤ 54 → σ' a = σ a) : ImOK σ' im := fun i hi => ⟨fun q => by rw [h1]; exact (h i hi).1 q, fun Q q => ⟨by rw [h1]; exact ((h i hi).2 Q q).1, ((h i hi).2 Q q).2.frame (he _ (by omega) (by omega)) (he _ (by omega) (by omega)) (he _ (by omega) (by omega))⟩⟩
theorem SnOK.eq {σ σ' : St} {sn : List (Nat × Nat × Nat)} (h : SnOK σ sn) (h0 : σ' 0 = σ 0) (h1 : σ' 48 = σ 48) : SnOK σ' sn := by
  unfold SnOK
  rw [h0, h1]
  exact h
def scr : List Nat := [4, 5, 6, 41, 42, 43, 44, 45]
theorem CR_scr {σ σ' : St} {A : Ab} (h : CR σ A) (hf : Fr scr σ σ') : CR σ' A :=
  ⟨h.1.frame (hf 1 (by decide)) (hf 2 (by decide)) (hf 3 (by decide)), h.2.1.eq (hf 7 (by decide)) (hf 8 (by decide)), h.2.2.1.eq (fun a ha => hf a (by unfold scr; simp only [List.mem_cons, List.not_mem_nil, or_false]; omega)), h.2.2.2.1.eq (hf 47 (by decide)) (fun a h1 h2 => hf a (by unfold scr; simp only [List.mem_cons, List.not_mem_nil, or_false]; omega)), h.2.2.2.2.eq (hf 0 (by decide)) (hf 48 (by decide))⟩
theorem CR_P {σ σ' : St} {A : Ab} {P' : Pl} (h : CR σ A) (hf : Fr [1, 2, 3] σ σ') (hP : PlanOK σ' 1 P') : CR σ' (P', A.t, A.m, A.hs, A.im, A.sn) :=
  ⟨hP, h.2.1.eq (hf 7 (by decide)) (hf 8 (by decide)), h.2.2.1.eq (fun a ha => hf a (by simp only [List.mem_cons, List.not_mem_nil, or_false]; omega)), h.2.2.2.1.eq (hf 47 (by decide)) (fun a h1 h2 => hf a (by simp only [List.mem_cons, List.not_mem_nil, or_false]; omega)), h.2.2.2.2.eq (hf 0 (by decide)) (hf 48 (by decide))⟩
theorem ringL_not {a : Nat} (h : a = 0 ∨ a = 1 ∨ a = 2 ∨ a = 3 ∨ a = 7 ∨ a = 8 ∨ 47 ≤ a) : a ∉ ringL := by
  unfold ringL
  simp only [List.mem_cons, List.not_mem_nil, or_false]
  omega
theorem CR_H {σ σ' : St} {A : Ab} {hs' : List Pl} (h : CR σ A) (hf : Fr ringL σ σ') (hH : PastOK σ' hs') : CR σ' (A.P, A.t, A.m, hs', A.im, A.sn) :=
  ⟨h.1.frame (hf 1 (ringL_not (by omega))) (hf 2 (ringL_not (by omega))) (hf 3 (ringL_not (by omega))), h.2.1.eq (hf 7 (ringL_not (by omega))) (hf 8 (ringL_not (by omega))), hH, h.2.2.2.1.eq (hf 47 (ringL_not (by omega))) (fun a h1 h2 => hf a (ringL_not (by omega))), h.2.2.2.2.eq (hf 0 (ringL_not (by omega))) (hf 48 (ringL_not (by omega)))⟩
def tn (x : Int32) : Nat := x.toNatClampNeg
theorem tn_n {j : Nat} (h : j < 2147483648) : tn (nI j) = j := nI_clamp h
/-! the calls -/
def Ab.setP (A : Ab) (P' : Pl) : Ab := (P', A.t, A.m, (A.P :: A.hs).take 10, A.im, A.sn)
def o_type (A : Ab) (x : Int32) : Int32 × Ab := if x < 0 ∨ ¬ x ≤ nI 255 then (-1, A) else if ¬ A.m < 120 then (-3, A) else (nI (A.m + 1), (A.P, fun i => if i = A.m then tn x else A.t i, A.m + 1, A.hs, A.im, A.sn))
def o_clear (A : Ab) : Int32 × Ab := (nI A.m, (A.P, A.t, 0, A.hs, A.im, A.sn))
def o_plan (A : Ab) : Int32 × Ab := match tlR A.t A.m 121 (P0 6 6) 0 0 with
  | .inl s => ((-10 : Int32) - nI s, A)
  | .inr q => (nI q.1, (q.2, A.t, 0, [], fun _ => none, []))
def o_wall (A : Ab) (w x : Int32) : Int32 × Ab := (if inR w A.P.nw = true ∧ ¬ x < 0 ∧ x < nI 4 then nI (A.P.wl (tn w) (tn x)) else -1, A)
def o_lamp (A : Ab) (w x : Int32) : Int32 × Ab := (if inR w A.P.nl = true ∧ ¬ x < 0 ∧ x < nI 3 then nI (A.P.lp (tn w) (tn x)) else -1, A)
def o_puts (A : Ab) (x y : Int32) : Int32 × Ab := if (inR x A.P.W && inR y A.P.H) = false then (-1, A) else if A.P.at (tn x) (tn y) = true then (-2, A) else if ¬ A.P.nl < 8 then (-3, A) else (nI (A.P.nl + 1), A.setP (A.P.addL (tn x) (tn y)))
def o_takes (A : Ab) (l : Int32) : Int32 × Ab := if inR l A.P.nl = false then (-1, A) else (nI (A.P.nl - 1), A.setP (A.P.remL (tn l)))
def o_switches (A : Ab) (l : Int32) : Int32 × Ab := if inR l A.P.nl = false then (-1, A) else (nI (1 - A.P.lp (tn l) 2), A.setP (A.P.swL (tn l)))
def o_builds (A : Ab) (x y len u : Int32) : Int32 × Ab := if canW A.P x y len u = false then (-1, A) else if ¬ A.P.nw < 14 then (-3, A) else (nI (A.P.nw + 1), A.setP (A.P.addW (tn x) (tn y) (tn len) (tn u)))
def o_breaks (A : Ab) (w : Int32) : Int32 × Ab := if in4 w A.P.nw = false then (-1, A) else (nI (A.P.nw - 1), A.setP (A.P.remW (tn w)))
def o_undo (A : Ab) : Int32 × Ab := match A.hs with
  | [] => (-2, A)
  | Q :: r => (nI r.length, (Q, A.t, A.m, r, A.im, A.sn))
def o_lit (A : Ab) (l x y : Int32) : Int32 × Ab := (if inR l A.P.nl = true ∧ (inR x A.P.W && inR y A.P.H) = true then bI (A.P.free (A.P.lp (tn l) 0) (A.P.lp (tn l) 1) (tn x) (tn y) (-9)) else -1, A)
def o_by (A : Ab) (x y : Int32) : Int32 × Ab := (if (inR x A.P.W && inR y A.P.H) = true then nI (A.P.LA (tn x) (tn y) A.P.on (-9)) else -1, A)
def o_lights (A : Ab) (l : Int32) : Int32 × Ab := (if inR l A.P.nl = true then nI (A.P.cL (2 ^ tn l) (-9)) else -1, A)
def o_all (A : Ab) : Int32 × Ab := (nI (A.P.cL A.P.on (-9)), A)
noncomputable def o_events (A : Ab) (l : Int32) : Int32 × Ab := (if inR l A.P.nl = true then nI (A.P.EC (tn l)).length else -1, A)
noncomputable def o_event (A : Ab) (l k x : Int32) : Int32 × Ab := (if inR l A.P.nl = true ∧ ¬ k < 0 ∧ ¬ x < 0 ∧ x ≤ nI 1 ∧ k < nI (A.P.EC (tn l)).length then (if x = 0 then iI ((A.P.EC (tn l)).getD (tn k) (0, 0)).1 else iI ((A.P.EC (tn l)).getD (tn k) (0, 0)).2) else -1000, A)
noncomputable def Pl.wsl (P : Pl) (l k : Nat) : Option (Nat × Int × Int) := P.ws (P.lp l 0) (P.lp l 1) (P.EC l) k
noncomputable def secA (P : Pl) (l k : Nat) (x : Int32) : Int32 := match P.wsl l k with
  | none => -9
  | some q => if x = 0 then nI q.1 else if x = nI 1 then iI (P.arU (P.lp l 0) (P.lp l 1) (P.EC l) k q.1) else iI (P.arL (P.lp l 0) (P.lp l 1) (P.EC l) k q.1)
noncomputable def o_sector (A : Ab) (l k x : Int32) : Int32 × Ab := (if inR l A.P.nl = true ∧ ¬ k < 0 ∧ ¬ x < 0 ∧ x ≤ nI 2 then (if k < nI (A.P.EC (tn l)).length then secA A.P (tn l) (tn k) x else -9) else -1, A)
noncomputable def wbit (P : Pl) (l k : Nat) : Nat := match P.wsl l k with
  | none => 0
  | some q => 2 ^ q.1
noncomputable def wbits (P : Pl) (l : Nat) : Nat → Nat
  | 0 => 0
  | k + 1 => wbits P l k ||| wbit P l k
noncomputable def o_walls (A : Ab) (l : Int32) : Int32 × Ab := (if inR l A.P.nl = true then nI (wbits A.P (tn l) (A.P.EC (tn l)).length) else -1, A)
def pop8 (k : Nat) : Nat := fa_cnt (fun i => k.testBit i) 8
def fewC (L : Nat → Nat) (N ev : Nat) : Nat → Nat
  | 0 => ev
  | s + 1 => if pop8 s < pop8 (fewC L N ev s) ∧ enoughL L N s = true then s else fewC L N ev s
def Pl.few (P : Pl) : Nat := fewC (P.LS (2 ^ P.nl - 1) (-9)) (P.W * P.H) (2 ^ P.nl - 1) (2 ^ P.nl - 1)
def o_fewest (A : Ab) : Int32 × Ab := (nI A.P.few, A)
/-- the best spot so far: none, or its place and how many more -/
def bstC (P : Pl) : Nat → Option (Nat × Nat)
  | 0 => none
  | s + 1 => if P.at (s % P.W) (s / P.W) = true then bstC P s else match bstC P s with
    | none => some (s, P.dark (P.LS P.on (-9)) (s % P.W) (s / P.W))
    | some q => if q.2 < P.dark (P.LS P.on (-9)) (s % P.W) (s / P.W) then some (s, P.dark (P.LS P.on (-9)) (s % P.W) (s / P.W)) else some q
def bstA (P : Pl) (x : Int32) : Int32 := match bstC P (P.W * P.H) with
  | none => -9
  | some q => if x = 0 then nI (q.1 % P.W) else if x = nI 1 then nI (q.1 / P.W) else nI q.2
def o_best (A : Ab) (x : Int32) : Int32 × Ab := (if ¬ x < 0 ∧ x ≤ nI 2 then bstA A.P x else -1, A)
def o_gain (A : Ab) (w : Int32) : Int32 × Ab := (if in4 w A.P.nw = true then nI (A.P.cL A.P.on w) - nI (A.P.cL A.P.on (-9)) else -1, A)
def wrsC (P : Pl) : Nat → Option (Nat × Nat)
  | 0 => none
  | w + 1 => if w < 4 then none else match wrsC P w with
    | none => some (w, P.cL P.on (nI w))
    | some q => if q.2 < P.cL P.on (nI w) then some (w, P.cL P.on (nI w)) else some q
def o_worst (A : Ab) : Int32 × Ab := (match wrsC A.P A.P.nw with
  | none => -9
  | some q => nI q.1, A)
def o_sees (A : Ab) (x y i : Int32) : Int32 × Ab := if ¬ ((inR x A.P.W && inR y A.P.H) = true ∧ ¬ i < 0 ∧ i ≤ nI 1) then (-1, A) else if ¬ A.sn.length < 6 then (-3, A) else (nI (A.sn.length + 1), (A.P, A.t, A.m, A.hs, A.im, A.sn ++ [(tn x, tn y, tn i)]))
def o_forget (A : Ab) : Int32 × Ab := (nI A.sn.length, (A.P, A.t, A.m, A.hs, A.im, []))
def outB (P : Pl) (q : Nat × Nat × Nat) : Nat := Bt (fun l => (decide (¬ (P.LA q.1 q.2.1 P.on (-9) &&& (2 ^ l ^^^ 4294967295)) = 0)).toNat == q.2.2) P.nl
def unsC (P : Pl) (sn : List (Nat × Nat × Nat)) : Nat → Nat
  | 0 => P.on
  | s + 1 => unsC P sn s &&& outB P (sn.getD s (0, 0, 0))
def o_unseen (A : Ab) : Int32 × Ab := (nI (unsC A.P A.sn A.sn.length), A)
def o_keep (A : Ab) (i : Int32) : Int32 × Ab := if ¬ (¬ i < 0 ∧ i < nI 2) then (-1, A) else (nI A.P.nl, (A.P, A.t, A.m, A.hs, fun j => if j = tn i then some A.P else A.im j, A.sn))
def o_back (A : Ab) (i : Int32) : Int32 × Ab := if ¬ (¬ i < 0 ∧ i < nI 2) then (-1, A) else match A.im (tn i) with
  | none => (-2, A)
  | some Q => (nI Q.nl, (Q, A.t, A.m, [], A.im, A.sn))
def o_count (A : Ab) (x : Int32) : Int32 × Ab := (if x = 0 then nI A.P.W else if x = nI 1 then nI A.P.H else if x = nI 2 then nI A.P.nw else if x = nI 3 then nI A.P.nl else if x = nI 4 then nI A.sn.length else if x = nI 5 then nI A.m else if x = nI 6 then nI A.hs.length else -1, A)
/-- a call's end in the class -/
def oC (σ : St) (r : Int32 × Ab) : Option Value → St → Prop := fun v σ' => v = some (.int r.1) ∧ CR σ' r.2 ∧ FrC σ σ'
theorem oC_e {σ σ' : St} {r : Int32 × Ab} {x : Int32} {A : Ab} (h : r = (x, A)) (hC : CR σ' A) (hf : FrC σ σ') : oC σ r (some (.int x)) σ' := by
  subst h
  exact ⟨rfl, hC, hf⟩
theorem oC_q {σ σ' : St} {y : Int32} {A : Ab} {x : Int32} (h : y = x) (hC : CR σ' A) (hf : FrC σ σ') : oC σ (y, A) (some (.int x)) σ' := oC_e (by rw [h]) hC hf
