theorem jn_callIN {X : Cx} {cc : ByteArray} {own : String} {D kc ks pc pc' n n' : Nat} {lv : List (Option Value)} {ct ct' : Cn} (F : Fx X cc own D) {index maxL d k mc ms : Nat} {y : MethodName} {host : String} {bytes : ByteArray} {rest : List Value}
    (hM : CtN X.l y bytes maxL d mc ms n X.E [.ref (X.E.1 + k)] ct n' ct') (hcode : Cond.code y bytes maxL none ∈ UW) (hini : Cond.initialized y.cls ∈ UW) (hl : va_Nw (.methodLinkNest own index y host) X.s) (hin : Cond.instanceMethod y ∈ UW) (hyn : y.name = "<init>")
    (hd : y.cls ≠ "java/lang/invoke/MethodHandle" ∧ y.cls ≠ "java/lang/invoke/VarHandle" ∧ (parseMethodDescriptor y.desc).map (fun d => d.parameters.length) = some 0) (hm : maxL ≤ 17) (hD : d < D) (hrm : (rest.map fun v => v.category).sum ≤ 8) (hcs : kc + mc ≤ X.R.cells ∧ ks + ms ≤ X.R.slots) (dd : decode cc pc = .ok (.invokespecial index, 3)) (hp : pc + 3 = pc')
    (kk : JN X (kc + mc) (ks + ms) pc' lv rest n' ct') : JN X kc ks pc lv (.ref (X.E.1 + k) :: rest) n ct := by
  intro H locs ls h1 h2 h3
  subst hp
  have h1f := F.2.2.1
  have h2f := F.2.2.2
  exact jn_run (va_runIN (b := X.E.1 + k) (As := []) (rest := rest) F.1 hM ⟨va_cnB 0 F.1.2.2.2.2 (uw_good hcode) rfl rfl rfl hl (F.1.2.2.2.2 _ hini) hd ⟨by show d + 1 ≤ _; omega, by show 8 + (maxL + 11) + 36 * d ≤ _; omega⟩, hyn, F.1.2.2.2.2 _ hin⟩ ⟨mk_blind, fun U hU hW => ⟨rfl, by rw [hU]; exact h1, KK.moved hW.alike F.2.1⟩⟩ rfl rfl h3.1 rfl (lv_room hrm) dd hcs) h2 h3 kk
