/-! ===== calls while cells are made; walks behind the making ===== -/
def JL (X : Cx) (kc ks pc : Nat) (lv : List (Option Value)) (st : List Value) (σ : St) : Prop := ∀ (H : Heap) (locs : List Loc) (ls : Array Slot), Rep X.n X.E σ H → va_S (fun q => X.E.1 ≤ q) X.s.heap H locs → lv_has ls X.nL (asL 0 lv) → WN X kc ks H locs pc ls st
theorem mk_blind {n : Nat} {E : Ev} {av : List Value} {ct : Cn} : FrameBlind (va_Pc av (fun U => RpN n E ct U.heap ∧ KK E U)) := fun a U g mk q => ⟨q.1, q.2.1, KK.moved (u := U) (U := U.calling g mk a) (Vm.Alike.refl U.vm) q.2.2⟩
section JN3
variable {X : Cx} {cc : ByteArray} {own : String} {D kc ks pc pc' n n' : Nat} {lv : List (Option Value)} {st : List Value} {ct ct' : Cn} {σ : St}
theorem jn_run {st0 rest : List Value} {mc ms : Nat} {a : Array Value} {H : Heap} {locs : List Loc} {ls : Array Slot} (hr : va_Run X.p X.l X.e X.R X.s X.m X.args X.below X.meth X.c H locs kc ks mc ms (F0 X.m pc ls st0) rest (QpN n' X.E ct' a) (fun q => X.E.1 ≤ q)) (hS : va_S (fun q => X.E.1 ≤ q) X.s.heap H locs) (hl : lv_has ls X.nL (asL 0 lv))
    (kk : JN X (kc + mc) (ks + ms) (pc + 3) lv rest n' ct') : WN X kc ks H locs pc ls st0 := by
  intro T hT Y
  obtain ⟨v, st₀, t, T', L, h0, Y', hL, e1, e2, ⟨⟨hv, hp, hw⟩, hz, hk⟩, st⟩ := hr T hT Y
  cases hv
  rw [h0] at hz hk
  obtain ⟨t2, a1, b1⟩ := kk T'.heap (locs ++ L) ls (by rw [e1]; exact hp)
    ⟨Nat.le_trans hS.1 (by rw [e1]; exact hz), fun q h1 h2 => by rw [e1, hk q (Nat.lt_of_lt_of_le h1 hS.1) h2]; exact hS.2.1 q h1 h2, fun q hq => by
      rcases List.mem_append.mp hq with h | h
      · exact hS.2.2 q h
      · exact hL q h⟩ hl T' rfl Y'
  exact ⟨t2, st t2 a1, b1⟩
theorem cb_n {R : Room} {s : State} {args : Array Value} {index nn maxL d mc ms : Nat} {y : MethodName} {bytes : ByteArray} (hts : ∀ w ∈ UW, w.before args s = true) (hcode : Cond.code y bytes maxL none ∈ UW) (hini : Cond.initialized y.cls ∈ UW) (hl : Cond.methodLink own index y ∈ UW)
    (hd : y.cls ≠ "java/lang/invoke/MethodHandle" ∧ y.cls ≠ "java/lang/invoke/VarHandle" ∧ (parseMethodDescriptor y.desc).map (fun d => d.parameters.length) = some nn) (hm : maxL ≤ 17) (hD : d < D) (h1 : D ≤ R.frames) (h2 : 36 * D ≤ R.locals) : CallB R s args own index y bytes maxL none (Cond.code y bytes maxL none :: UW) (rmN d mc ms) mc ms nn :=
  callB_of nn hts (uw_good hcode) rfl rfl rfl (hts _ hini) (hts _ hl) hd ⟨by show d + 1 ≤ _; omega, by show 8 + (maxL + 11) + 36 * d ≤ _; omega⟩
theorem jn_callI (F : Fx X cc own D) {index maxL d k mc ms : Nat} {y : MethodName} {bytes : ByteArray} {rest : List Value}
    (hM : CtN X.l y bytes maxL d mc ms n X.E [.ref (X.E.1 + k)] ct n' ct') (hcode : Cond.code y bytes maxL none ∈ UW) (hini : Cond.initialized y.cls ∈ UW) (hl : Cond.methodLink own index y ∈ UW) (hin : Cond.instanceMethod y ∈ UW) (hyn : y.name = "<init>")
    (hd : y.cls ≠ "java/lang/invoke/MethodHandle" ∧ y.cls ≠ "java/lang/invoke/VarHandle" ∧ (parseMethodDescriptor y.desc).map (fun d => d.parameters.length) = some 0) (hm : maxL ≤ 17) (hD : d < D) (hrm : (rest.map fun v => v.category).sum ≤ 8) (hcs : kc + mc ≤ X.R.cells ∧ ks + ms ≤ X.R.slots) (dd : decode cc pc = .ok (.invokespecial index, 3)) (hp : pc + 3 = pc')
    (kk : JN X (kc + mc) (ks + ms) pc' lv rest n' ct') : JN X kc ks pc lv (.ref (X.E.1 + k) :: rest) n ct := by
  intro H locs ls h1 h2 h3
  subst hp
  exact jn_run (va_runI (b := X.E.1 + k) (As := []) (rest := rest) F.1 hM ⟨cb_n F.1.2.2.2.2 hcode hini hl hd hm hD F.2.2.1 F.2.2.2, hyn, F.1.2.2.2.2 _ hin⟩ ⟨mk_blind, fun U hU hW => ⟨rfl, by rw [hU]; exact h1, KK.moved hW.alike F.2.1⟩⟩ rfl rfl h3.1 rfl (lv_room hrm) dd hcs) h2 h3 kk
theorem jl_run {st0 rest : List Value} {Po : Option Value → St → Prop} {a : Array Value} {H : Heap} {locs : List Loc} {ls : Array Slot} (hr : va_Run X.p X.l X.e X.R X.s X.m X.args X.below X.meth X.c H locs kc ks 0 0 (F0 X.m pc ls st0) rest (Qp X.n X.E Po a) (fun q => X.E.1 ≤ q)) (hS : va_S (fun q => X.E.1 ≤ q) X.s.heap H locs) (hl : lv_has ls X.nL (asL 0 lv))
    (kk : ∀ (v : Option Value) (σ' : St), Po v σ' → JL X kc ks (pc + 3) lv (v.toList ++ rest) σ') : WN X kc ks H locs pc ls st0 := by
  intro T hT Y
  obtain ⟨v, st₀, t, T', L, h0, Y', hL, e1, e2, ⟨⟨v', σ', hv, hp, hw⟩, hz, hk⟩, st⟩ := hr T hT Y
  cases hv
  rw [h0] at hz hk
  obtain ⟨t2, a1, b1⟩ := kk v σ' hp T'.heap (locs ++ L) ls (by rw [e1]; exact hw.1)
    ⟨Nat.le_trans hS.1 (by rw [e1]; exact hz), fun q h1 h2 => by rw [e1, hk q (Nat.lt_of_lt_of_le h1 hS.1) h2]; exact hS.2.1 q h1 h2, fun q hq => by
      rcases List.mem_append.mp hq with h | h
      · exact hS.2.2 q h
      · exact hL q h⟩ hl T' rfl Y'
  exact ⟨t2, st t2 a1, b1⟩
theorem jl_callV (F : Fx X cc own D) {C : String} {index nn maxL d k : Nat} {y : MethodName} {bytes : ByteArray} {ret : Option FieldType} {As rest : List Value} {Po : Option Value → St → Prop} {ci : Nat} {T : u_T} {N : Nat} {ds : List (Option Nat)}
    (hM : Ct X.l y bytes maxL ret d X.n X.E (.ref (X.E.1 + k) :: As) σ Po) (hcode : Cond.code y bytes maxL ret ∈ UW) (hini : Cond.initialized y.cls ∈ UW) (hl : Cond.methodLink own index y ∈ UW) (hin : Cond.instanceMethod y ∈ UW) (hse : Cond.selects C y y ∈ UW)
    (hd : y.cls ≠ "java/lang/invoke/MethodHandle" ∧ y.cls ≠ "java/lang/invoke/VarHandle" ∧ (parseMethodDescriptor y.desc).map (fun d => d.parameters.length) = some nn) (hm : maxL ≤ 17) (hc : vwCl[ci]? = some (C, T, N)) (hD : d < D) (hk : k < X.n) (hs : shpL[k]? = some (.inr (ci, ds))) (hn : As.length = nn) (hst : st = As.reverse ++ .ref (X.E.1 + k) :: rest) (hrm : (rest.map fun v => v.category).sum ≤ 8) (hcs : kc ≤ X.R.cells ∧ ks ≤ X.R.slots) (dd : decode cc pc = .ok (.invokevirtual index, 3)) (hp : pc + 3 = pc')
    (kk : ∀ (v : Option Value) (σ' : St), Po v σ' → JL X kc ks pc' lv (v.toList ++ rest) σ') : JL X kc ks pc lv st σ := by
  intro H locs ls h1 h2 h3
  subst hp hst
  refine jl_run (va_runV (C := C) (b := X.E.1 + k) (As := As) (rest := rest) F.1 hM ⟨cb_u F.1.2.2.2.2 hcode hini hl hd hm hD F.2.2.1 F.2.2.2, F.1.2.2.2.2 _ hin, F.1.2.2.2.2 _ hse⟩ ⟨wd_blind, ?_, fun U hU hW => ⟨rfl, by rw [hU]; exact h1, KK.moved hW.alike F.2.1⟩⟩ rfl hn h3.1 rfl (lv_room hrm) dd hcs) h2 h3 kk
  obtain ⟨r, g0, cell, g1, g2, g3, -⟩ := h1 k _ hk hs
  have hr : r = (C, T, N) := Option.some.inj (g0.symm.trans hc)
  subst hr
  exact ⟨cell, g1, by rw [g3]; rfl, by rw [g2]; exact (F.2.1.1.1 ci _ hc).2.1⟩
/-- behind the making: the contents are the shapes' -/
theorem jn_jl (h : ∀ (H : Heap), RpN n X.E ct H → Rep X.n X.E σ H) (kk : JL X kc ks pc lv st σ) : JN X kc ks pc lv st n ct := fun H locs ls a b c => kk H locs ls (h H a) b c
end JN3
theorem rep_of {n : Nat} {E : Ev} {ct : Cn} {σ : St} {H : Heap} (h : RpN n E ct H) (hc : ∀ k s, k < n → shpL[k]? = some s → ct k = contS E s (σ k)) : Rep n E σ H := fun k s hk hs => by
  show va_at _ _ _ _
  rw [← hc k s hk hs]
  exact h.2 k hk
