def arQ (E : Ev) (N : Nat) (f : Nat → Option Nat) : va_E := .inl (E.2.2.2 3, N, .inr (.inr (.inr (.inr f))))
section JN4
variable {X : Cx} {cc : ByteArray} {own : String} {D kc ks pc pc' n : Nat} {lv : List (Option Value)} {st : List Value} {ct : Cn}
theorem jn_anew (F : Fx X cc own D) {index : Nat} (hcl : Cond.classLink own index "LampPlans$Plan" ∈ UW) (hov : (Cond.arrayOver (.object "LampPlans$Plan")).before X.args X.s = true) {v : Int32} {N : Nat} (hn : ¬ v < 0) (hN : v.toNatClampNeg = N) (hbytes : N * 4 ≤ 536870912) (hcells : kc + 1 ≤ X.R.cells) (hslots : ks + N ≤ X.R.slots) (d : decode cc pc = .ok (.anewarray index, 3)) (hp : pc + 3 = pc') (k : JN X (kc + 1) (ks + N) pc' lv (.ref (X.E.1 + n) :: st) (n + 1) (cset ct n (arQ X.E N (fun _ => none)))) : JN X kc ks pc lv (.int v :: st) n ct := by
  intro H locs ls a b h
  subst hp hN
  refine W.anew F.1.1 F.1.2.1 F.1.2.2.2.1 (F.1.2.2.2.2 _ hcl) hov rfl d rfl hn hbytes hcells hslots fun cA kA comp f1 f2 f3 f4 => ?_
  have hcA : cA = X.E.2.2.2 3 := by
    obtain ⟨-, -, -, -, -, hq⟩ := (F.2.1.2 3 (by decide)).2
    exact Option.some.inj (f1.symm.trans hq)
  generalize hH1 : H.push ({ cls := cA, slots := Array.replicate v.toNatClampNeg .null, vm := .none } : Cell) = H1
  have z1 : H1.size = X.E.1 + n + 1 := by rw [← hH1, Array.size_push, a.1]
  have e1 : H1[X.E.1 + n]? = some (arrV cA v.toNatClampNeg (fun _ => .null)) := by rw [← hH1, ← a.1, Array.getElem?_push_size, ← arrV_new]
  have o1 : ∀ q : Nat, q < X.E.1 + n → H1[q]? = H[q]? := fun q hq => by rw [← hH1, Array.getElem?_push, if_neg (by rw [a.1]; omega)]
  have kz := k H1 locs ls (a.push z1 o1 (by
    show H1[X.E.1 + n]? = some (vp_cell (X.E.2.2.2 3) (v.toNatClampNeg, .inr (.inr (.inr (.inr (fun _ => none))))))
    rw [vp_cell_q, ← hcA]
    exact e1)) (va_S_push a b z1 o1) h
  rw [a.1]
  exact kz
theorem jn_aast (F : Fx X cc own D) {j w N i : Nat} {vs : List Value} {f : Nat → Option Nat} {T : u_T} (hj : j < n) (hct : ct j = arQ X.E N f) (hw : w < n) (hcw : ct w = .inr (2, vs)) (hc : vwCl[2]? = some ("LampPlans$Plan", T, 6)) (hi : i < N) (hN : N < 2147483648) (d : decode cc pc = .ok (.aastore, 1)) (hp : pc + 1 = pc') (k : JN X kc ks pc' lv st n (cset ct j (arQ X.E N (va_up f i (some (X.E.1 + w)))))) : JN X kc ks pc lv (.ref (X.E.1 + w) :: .int (nI i) :: .ref (X.E.1 + j) :: st) n ct := by
  intro H locs ls a b h
  subst hp
  have hcl : (nI i).toNatClampNeg = i := nI_clamp (by omega)
  have hcj := a.2 j hj
  rw [hct] at hcj
  have hcv := a.2 w hw
  rw [hcw] at hcv
  obtain ⟨r', hr', cellV, g1, g2, g3, -⟩ := hcv
  have hcls := (F.2.1.1.1 2 _ hc).2
  obtain ⟨kA, comp, k1, k2, k3, -⟩ := (F.2.1.2 3 (by decide)).2
  have hcomp : comp = X.E.2.1 2 := Option.some.inj (k3.symm.trans hcls.1)
  subst hcomp
  obtain ⟨kC, hkC, -⟩ := hcls.2
  refine W.aast F.1.1 F.1.2.1 hcj (fun q h => by cases h) (fun h => by cases h) k1 k2 rfl hkC ⟨nI_pos (by omega), by show _ < (arrV _ _ _).slots.size; rw [arrV_size, hcl]; exact hi⟩ g1 (fun q h => by rw [g3] at h; cases h) (by rw [g2]; exact hkC) (by rw [g2]; exact va_assign hcls) rfl rfl d fun H1 e z oq => ?_
  refine k H1 _ ls (a.set z oq ?_) (b.put z oq (Nat.le_add_right _ _)) h
  show H1[X.E.1 + j]? = some (vp_cell _ _)
  rw [e, hcl]
  rw [vp_cell_q, vp_cell_q, arrV_store]
  congr 2
  funext q
  by_cases hq : q = i
  · subst hq
    simp [updV, va_up, va_rf]
  · simp [updV, va_up, hq]
end JN4
