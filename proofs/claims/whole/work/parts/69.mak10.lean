/-- a constructor that ends with a whole object: contents before, a store behind -/
def CtS (l : Launch) (y : MethodName) (cc : ByteArray) (maxL d kc ks n : Nat) (E : Ev) (av : List Value) (ct : Cn) (nn : Nat) (Po : Option Value → St → Prop) : Prop :=
  Met l y (Cond.code y cc maxL none :: UW) (rmN d kc ks) (va_Pc av (fun U => RpN n E ct U.heap ∧ KK E U ∧ NN U)) (Qp nn E Po) kc ks (fun q => E.1 ≤ q)
def RtS (X : Cx) (kc ks : Nat) (Po : Option Value → St → Prop) : Prop := X.meth.sig.returnType = none ∧ X.meth.locks = false ∧ X.meth.name = "<init>" ∧ X.R.cells = kc ∧ X.R.slots = ks ∧ X.Q = MQ X.below (Qp X.n X.E Po) X.args X.s kc ks (fun q => X.E.1 ≤ q)
theorem CtS.of {l : Launch} {y : MethodName} {cc : ByteArray} {maxL d kc ks n nn : Nat} {E : Ev} {av : List Value} {ct : Cn} {Po : Option Value → St → Prop} {lv0 : List (Option Value)} (hy : plainName y.cls = true) (hyn : y.name = "<init>") (hlen : (lg_sl av).length ≤ maxL) (hlv : asL 0 lv0 = lv_args 0 av)
    (body : ∀ X : Cx, X.n = nn → X.E = E → X.l = l → X.nL = maxL → Fx X cc y.cls d → RtS X kc ks Po → NN X.s → JN X 0 0 0 lv0 [] n ct) : CtS l y cc maxL d kc ks n E av ct nn Po := by
  refine Met.ofW (cc := cc) (maxL := maxL) (ret := none) hy rfl ?_
  intro p e s m args below meth c s₁ B hml hv
  obtain ⟨rfl, hR, hK, hN⟩ := hv
  have hts := atoms_spec (ws := Cond.code y cc maxL none :: UW) B.pre
  have hl := lv_entry av (n := maxL) hlen
  rw [lg_entry_eq]
  rw [← hlv] at hl
  have hin : meth.name = "<init>" := (name_of_methodNamed B.named B.method).1.trans hyn
  exact body (p, l, e, rmN d kc ks, s, m, av.toArray, below, meth, c, MQ below (Qp nn E Po) av.toArray s kc ks (fun q => E.1 ≤ q), nn, E, maxL) rfl rfl rfl rfl ⟨⟨B.exec, B.bytes, hml, findClass_of_methodNamed B.named, fun w hw => hts w (List.mem_cons_of_mem _ hw)⟩, hK, Nat.le_refl _, Nat.le_refl _⟩ ⟨B.returns, B.notSynchronized, hin, rfl, rfl, rfl⟩ hN _ _ _ hR va_S.rf hl
section JL2
variable {X : Cx} {cc : ByteArray} {own : String} {D kc ks pc pc' : Nat} {lv lv' : List (Option Value)} {st : List Value} {σ : St}
theorem jl_vret (F : Fx X cc own D) {kc' ks' : Nat} {Po : Option Value → St → Prop} (hR : RtS X kc' ks' Po) (hc : kc = kc') (hs : ks = ks') (hv : Po none σ) (d : decode cc pc = .ok (.return_, 1)) : JL X kc ks pc lv [] σ := by
  intro H locs ls h1 h2 h3
  subst hc hs
  unfold WN
  rw [hR.2.2.2.2.2]
  exact W.vret F.1.1 F.1.2.1 hR.1 (fun t ht hW => ⟨⟨_, _, rfl, hv, by rw [ht]; exact h1, KK.moved hW.alike F.2.1⟩, h2.F ht⟩) h2.2.2 d hR.2.1
theorem jl_aload_n (F : Fx X cc own D) {i : Fin 4} {x : Nat} (d : decode cc pc = .ok (.aload_n i, 1)) (hp : pc + 1 = pc') (hi : lv[(i : Nat)]? = some (some (.ref x))) (k : JL X kc ks pc' lv (.ref x :: st) σ) : JL X kc ks pc lv st σ :=
  fun H locs ls a b h => lv_aload_n F.1.1 F.1.2.1 d rfl (has_at h hi) (by subst hp; exact k H locs ls a b h)
theorem jl_iload_n (F : Fx X cc own D) {i : Fin 4} {x : Int32} (d : decode cc pc = .ok (.iload_n i, 1)) (hp : pc + 1 = pc') (hi : lv[(i : Nat)]? = some (some (.int x))) (k : JL X kc ks pc' lv (.int x :: st) σ) : JL X kc ks pc lv st σ :=
  fun H locs ls a b h => lv_iload_n F.1.1 F.1.2.1 d rfl (has_at h hi) (by subst hp; exact k H locs ls a b h)
theorem jl_iconst (F : Fx X cc own D) {z : Int} {v : Int32} (d : decode cc pc = .ok (.iconst z, 1)) (hp : pc + 1 = pc') (hv : Int32.ofInt z = v) (k : JL X kc ks pc' lv (.int v :: st) σ) : JL X kc ks pc lv st σ :=
  fun H locs ls a b h => lv_iconst F.1.1 F.1.2.1 d hv (by subst hp; exact k H locs ls a b h)
theorem jl_bipush (F : Fx X cc own D) {z : Int} {v : Int32} (d : decode cc pc = .ok (.bipush z, 2)) (hp : pc + 2 = pc') (hv : (Int8.ofInt z).toInt32 = v) (k : JL X kc ks pc' lv (.int v :: st) σ) : JL X kc ks pc lv st σ :=
  fun H locs ls a b h => lv_bipush F.1.1 F.1.2.1 d hv (by subst hp; exact k H locs ls a b h)
theorem jl_iadd (F : Fx X cc own D) {x y : Int32} (d : decode cc pc = .ok (.iadd, 1)) (hp : pc + 1 = pc') (k : JL X kc ks pc' lv (.int (x + y) :: st) σ) : JL X kc ks pc lv (.int y :: .int x :: st) σ :=
  fun H locs ls a b h => lv_iadd F.1.1 F.1.2.1 d (by subst hp; exact k H locs ls a b h)
theorem jl_isub (F : Fx X cc own D) {x y : Int32} (d : decode cc pc = .ok (.isub, 1)) (hp : pc + 1 = pc') (k : JL X kc ks pc' lv (.int (x - y) :: st) σ) : JL X kc ks pc lv (.int y :: .int x :: st) σ :=
  fun H locs ls a b h => lv_isub F.1.1 F.1.2.1 d (by subst hp; exact k H locs ls a b h)
theorem jl_iand (F : Fx X cc own D) {x y : Int32} (d : decode cc pc = .ok (.iand, 1)) (hp : pc + 1 = pc') (k : JL X kc ks pc' lv (.int (x &&& y) :: st) σ) : JL X kc ks pc lv (.int y :: .int x :: st) σ :=
  fun H locs ls a b h => lv_iand F.1.1 F.1.2.1 d (by subst hp; exact k H locs ls a b h)
theorem jl_goto (F : Fx X cc own D) {off : Int} (d : decode cc pc = .ok (.goto off, 3)) (ht : (pc : Int) + off = (pc' : Int)) (k : JL X kc ks pc' lv st σ) : JL X kc ks pc lv st σ :=
  fun H locs ls a b h => lv_goto F.1.1 F.1.2.1 d ht (k H locs ls a b h)
theorem jl_icmp_eq (F : Fx X cc own D) {x y : Int32} {off : Int} {tgt : Nat} (d : decode cc pc = .ok (.if_icmp .eq off, 3)) (ht : (pc : Int) + off = (tgt : Int)) (hp : pc + 3 = pc') (kt : x = y → JL X kc ks tgt lv st σ) (kf : ¬ x = y → JL X kc ks pc' lv st σ) : JL X kc ks pc lv (.int y :: .int x :: st) σ :=
  fun H locs ls a b h => lv_icmp_eq F.1.1 F.1.2.1 d ht (fun q => kt q H locs ls a b h) (fun q => by subst hp; exact kf q H locs ls a b h)
theorem jl_icmp_gt (F : Fx X cc own D) {x y : Int32} {off : Int} {tgt : Nat} (d : decode cc pc = .ok (.if_icmp .gt off, 3)) (ht : (pc : Int) + off = (tgt : Int)) (hp : pc + 3 = pc') (kt : y < x → JL X kc ks tgt lv st σ) (kf : ¬ y < x → JL X kc ks pc' lv st σ) : JL X kc ks pc lv (.int y :: .int x :: st) σ :=
  fun H locs ls a b h => lv_icmp_gt F.1.1 F.1.2.1 d ht (fun q => kt q H locs ls a b h) (fun q => by subst hp; exact kf q H locs ls a b h)
end JL2
