/-- words of the tables that do not go with UW: the array over plans, the nest's private constructors -/
def NN (U : State) : Prop := va_AO "LampPlans$Plan" U ∧ va_Nw (.methodLinkNest RX5 11 yX2_init "LampPlans") U ∧ va_Nw (.methodLinkNest RX5 21 yX4_init "LampPlans") U ∧ va_Nw (.methodLinkNest RX1 17 yX2_init "LampPlans") U ∧ va_Nw (.methodLinkNest RX5 35 yX0_init "LampPlans") U ∧ va_Nw (.methodLinkNest RX5 42 yX3_init "LampPlans") U
theorem NN.warm {s U : State} (hW : s.WarmedH U.vm) (h : NN s) : NN U := ⟨va_AO.moved hW.alike h.1, va_Nw.warmM hW h.2.1, va_Nw.warmM hW h.2.2.1, va_Nw.warmM hW h.2.2.2.1, va_Nw.warmM hW h.2.2.2.2.1, va_Nw.warmM hW h.2.2.2.2.2⟩
theorem NN.same {u U : State} (hv : u.vm = U.vm) (h : NN u) : NN U := ⟨va_AO.moved (by rw [hv]; exact Vm.Alike.refl U.vm) h.1, va_Nw.same rfl hv h.2.1, va_Nw.same rfl hv h.2.2.1, va_Nw.same rfl hv h.2.2.2.1, va_Nw.same rfl hv h.2.2.2.2.1, va_Nw.same rfl hv h.2.2.2.2.2⟩
def CtG (l : Launch) (y : MethodName) (cc : ByteArray) (maxL d kc ks n : Nat) (E : Ev) (av : List Value) (ct : Cn) (n' : Nat) (ct' : Cn) : Prop :=
  Met l y (Cond.code y cc maxL none :: UW) (rmN d kc ks) (va_Pc av (fun U => RpN n E ct U.heap ∧ KK E U ∧ NN U)) (QpN n' E ct') kc ks (fun q => E.1 ≤ q)
theorem CtG.of {l : Launch} {y : MethodName} {cc : ByteArray} {maxL d kc ks n n' : Nat} {E : Ev} {av : List Value} {ct ct' : Cn} {lv0 : List (Option Value)} (hy : plainName y.cls = true) (hyn : y.name = "<init>") (hlen : (lg_sl av).length ≤ maxL) (hlv : asL 0 lv0 = lv_args 0 av)
    (body : ∀ X : Cx, X.E = E → X.l = l → X.nL = maxL → Fx X cc y.cls d → RtN X kc ks n' ct' → NN X.s → JN X 0 0 0 lv0 [] n ct) : CtG l y cc maxL d kc ks n E av ct n' ct' := by
  refine Met.ofW (cc := cc) (maxL := maxL) (ret := none) hy rfl ?_
  intro p e s m args below meth c s₁ B hml hv
  obtain ⟨rfl, hR, hK, hN⟩ := hv
  have hts := atoms_spec (ws := Cond.code y cc maxL none :: UW) B.pre
  have hl := lv_entry av (n := maxL) hlen
  rw [lg_entry_eq]
  rw [← hlv] at hl
  have hin : meth.name = "<init>" := (name_of_methodNamed B.named B.method).1.trans hyn
  exact body (p, l, e, rmN d kc ks, s, m, av.toArray, below, meth, c, MQ below (QpN n' E ct') av.toArray s kc ks (fun q => E.1 ≤ q), 0, E, maxL) rfl rfl rfl ⟨⟨B.exec, B.bytes, hml, findClass_of_methodNamed B.named, fun w hw => hts w (List.mem_cons_of_mem _ hw)⟩, hK, Nat.le_refl _, Nat.le_refl _⟩ ⟨B.returns, B.notSynchronized, hin, rfl, rfl, rfl⟩ hN _ _ _ hR va_S.rf hl
theorem mg_blind {n : Nat} {E : Ev} {av : List Value} {ct : Cn} : FrameBlind (va_Pc av (fun U => RpN n E ct U.heap ∧ KK E U ∧ NN U)) := fun a U g mk q => ⟨q.1, q.2.1, KK.moved (u := U) (U := U.calling g mk a) (Vm.Alike.refl U.vm) q.2.2.1, NN.same (u := U) (U := U.calling g mk a) rfl q.2.2.2⟩
theorem jn_callG {X : Cx} {cc : ByteArray} {own : String} {D kc ks pc pc' n n' : Nat} {lv : List (Option Value)} {ct ct' : Cn} (F : Fx X cc own D) (hN : NN X.s) {index maxL d k mc ms : Nat} {y : MethodName} {bytes : ByteArray} {rest : List Value}
    (hM : CtG X.l y bytes maxL d mc ms n X.E [.ref (X.E.1 + k)] ct n' ct') (hcode : Cond.code y bytes maxL none ∈ UW) (hini : Cond.initialized y.cls ∈ UW) (hl : Cond.methodLink own index y ∈ UW) (hin : Cond.instanceMethod y ∈ UW) (hyn : y.name = "<init>")
    (hd : y.cls ≠ "java/lang/invoke/MethodHandle" ∧ y.cls ≠ "java/lang/invoke/VarHandle" ∧ (parseMethodDescriptor y.desc).map (fun d => d.parameters.length) = some 0) (hm : maxL ≤ 17) (hD : d < D) (hrm : (rest.map fun v => v.category).sum ≤ 8) (hcs : kc + mc ≤ X.R.cells ∧ ks + ms ≤ X.R.slots) (dd : decode cc pc = .ok (.invokespecial index, 3)) (hp : pc + 3 = pc')
    (kk : JN X (kc + mc) (ks + ms) pc' lv rest n' ct') : JN X kc ks pc lv (.ref (X.E.1 + k) :: rest) n ct := by
  intro H locs ls h1 h2 h3
  subst hp
  exact jn_run (va_runI (b := X.E.1 + k) (As := []) (rest := rest) F.1 hM ⟨cb_n F.1.2.2.2.2 hcode hini hl hd hm hD F.2.2.1 F.2.2.2, hyn, F.1.2.2.2.2 _ hin⟩ ⟨mg_blind, fun U hU hW => ⟨rfl, by rw [hU]; exact h1, KK.moved hW.alike F.2.1, NN.warm hW hN⟩⟩ rfl rfl h3.1 rfl (lv_room hrm) dd hcs) h2 h3 kk
def ringF (E : Ev) (n i : Nat) : Nat → Option Nat := fun q => if q < i then some (E.1 + (n + 1 + 3 * q)) else none
theorem ringF_s (E : Ev) (n i : Nat) : va_up (ringF E n i) i (some (E.1 + (n + 1 + 3 * i))) = ringF E n (i + 1) := by
  funext q
  unfold ringF va_up
  by_cases h : q = i
  · subst h
    simp
  · by_cases h2 : q < i
    · simp [h, h2]; omega
    · simp [h, h2]; omega
def pastC (E : Ev) (ct : Cn) (k n : Nat) : Nat → Cn
  | 0 => cset (cset ct n (arQ E 10 (fun _ => none))) k (.inr (1, [.ref (E.1 + n), .int 0, .int 0]))
  | i + 1 => cset (mkPl E (cset (pastC E ct k n i) (n + 1 + 3 * i) (.inr (2, plV))) (n + 1 + 3 * i) (n + 1 + 3 * i + 1)) n (arQ E 10 (ringF E n (i + 1)))
