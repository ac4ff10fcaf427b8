def rmN (d kc ks : Nat) : Room := { frames := d, cells := kc, slots := ks, locals := 36 * d }
def QpN (n : Nat) (E : Ev) (ct : Cn) : Array Value → State → Outcome → State → Prop := fun _ st o t => (o = .returned none ∧ RpN n E ct t.heap ∧ KK E t) ∧ va_F (fun q => E.1 ≤ q) st t
/-- a constructor's contract: n cells with contents ct before, n' with ct' behind, kc new cells with ks slots -/
def CtN (l : Launch) (y : MethodName) (cc : ByteArray) (maxL d kc ks n : Nat) (E : Ev) (av : List Value) (ct : Cn) (n' : Nat) (ct' : Cn) : Prop :=
  Met l y (Cond.code y cc maxL none :: UW) (rmN d kc ks) (va_Pc av (fun U => RpN n E ct U.heap ∧ KK E U)) (QpN n' E ct') kc ks (fun q => E.1 ≤ q)
def RtN (X : Cx) (kc ks n : Nat) (ct : Cn) : Prop := X.meth.sig.returnType = none ∧ X.meth.locks = false ∧ X.meth.name = "<init>" ∧ X.R.cells = kc ∧ X.R.slots = ks ∧ X.Q = MQ X.below (QpN n X.E ct) X.args X.s kc ks (fun q => X.E.1 ≤ q)
theorem CtN.of {l : Launch} {y : MethodName} {cc : ByteArray} {maxL d kc ks n n' : Nat} {E : Ev} {av : List Value} {ct ct' : Cn} {lv0 : List (Option Value)} (hy : plainName y.cls = true) (hyn : y.name = "<init>") (hlen : (lg_sl av).length ≤ maxL) (hlv : asL 0 lv0 = lv_args 0 av)
    (body : ∀ X : Cx, X.E = E → X.l = l → X.nL = maxL → Fx X cc y.cls d → RtN X kc ks n' ct' → JN X 0 0 0 lv0 [] n ct) : CtN l y cc maxL d kc ks n E av ct n' ct' := by
  refine Met.ofW (cc := cc) (maxL := maxL) (ret := none) hy rfl ?_
  intro p e s m args below meth c s₁ B hml hv
  obtain ⟨rfl, hR, hK⟩ := hv
  have hts := atoms_spec (ws := Cond.code y cc maxL none :: UW) B.pre
  have hl := lv_entry av (n := maxL) hlen
  rw [lg_entry_eq]
  rw [← hlv] at hl
  have hin : meth.name = "<init>" := (name_of_methodNamed B.named B.method).1.trans hyn
  exact body (p, l, e, rmN d kc ks, s, m, av.toArray, below, meth, c, MQ below (QpN n' E ct') av.toArray s kc ks (fun q => E.1 ≤ q), 0, E, maxL) rfl rfl rfl ⟨⟨B.exec, B.bytes, hml, findClass_of_methodNamed B.named, fun w hw => hts w (List.mem_cons_of_mem _ hw)⟩, hK, Nat.le_refl _, Nat.le_refl _⟩ ⟨B.returns, B.notSynchronized, hin, rfl, rfl, rfl⟩ _ _ _ hR va_S.rf hl
section JN2
variable {X : Cx} {cc : ByteArray} {own : String} {D kc ks pc pc' n : Nat} {lv : List (Option Value)} {st : List Value} {ct : Cn}
theorem jn_obj (F : Fx X cc own D) {idx k : Nat} (hw : Cond.methodLink own idx Lib.objectInit ∈ UW) (hw2 : Cond.instanceMethod Lib.objectInit ∈ UW) (hw3 : Cond.code Lib.objectInit ⟨#[0xb1]⟩ 1 none ∈ UW) (hD : 1 ≤ D) (d : decode cc pc = .ok (.invokespecial idx, 3)) (hp : pc + 3 = pc') (kk : JN X kc ks pc' lv [] n ct) : JN X kc ks pc lv [.ref k] n ct := by
  intro H locs ls a b h
  subst hp
  refine W.objInit F.1.1 F.1.2.1 F.1.2.2.2.1 (F.1.2.2.2.2 _ hw) (F.1.2.2.2.2 _ hw2) (F.1.2.2.2.2 _ hw3) rfl (by rw [F.1.2.2.1]; exact h.1) rfl d (Nat.le_trans hD F.2.2.1) (Nat.le_trans (show 2 * 0 + 0 + 12 ≤ 36 * D by omega) F.2.2.2) ?_
  exact kk H locs ls a b h
theorem jn_vret (F : Fx X cc own D) {kc' ks' : Nat} (hR : RtN X kc' ks' n ct) (hc : kc = kc') (hs : ks = ks') (d : decode cc pc = .ok (.return_, 1)) : JN X kc ks pc lv [] n ct := by
  intro H locs ls h1 h2 h3
  subst hc hs
  unfold WN
  rw [hR.2.2.2.2.2]
  exact W.vret F.1.1 F.1.2.1 hR.1 (fun t ht hW => ⟨⟨rfl, by rw [ht]; exact h1, KK.moved hW.alike F.2.1⟩, h2.F ht⟩) h2.2.2 d hR.2.1
end JN2
