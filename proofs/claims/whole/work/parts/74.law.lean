def R_law : String := "LampPlansLaw"
def lw_P (b : Addr) (xs : List Int32) (args : Array Value) (s : State) : Prop := args = #[.ref b] ∧ s.IntsAt b xs ∧ xs.length ≤ 2560 ∧ (Jvm.Cond.and given_1 narrow_1).before args s = true
def lw_Q (_ : Array Value) (s : State) (o : Outcome) (t : State) : Prop := o = .returned (some (.int 1)) ∧ Framed s o t [] 600000 7302250
def lw_Z (below : List Frame) (a : Array Value) (s : State) : State → Prop := fun t => ∃ o, t.status = .running ∧ Ended t below o ∧ lw_Q a s o t
/-- the law's own end, with 1 on the stack, nothing written that was there before, its room as the claim has it -/
theorem lw_ret {p : Program} {l : Launch} {e : Env} {s : State} {m : MethodId} {below : List Frame} {meth : Method} {c : Code} {b : Nat} (hx : p.tables.exec = Jvm.exec) (hb : c.code = code) (hr : meth.sig.returnType = ret) (hlocks : meth.locks = false) {pc : Nat} {H : Heap} {ls : Array Slot} (hdg : decode code pc = .ok (.ireturn, 1)) : W p l e room_1 s m #[Value.ref b] below meth c H [] 600000 7302250 (lw_Z below #[Value.ref b] s) (F0 m pc ls [.int 1]) := by
  intro T hT X
  obtain ⟨fs, hret, hrun, hended, hW, hframe⟩ := X.leave (v := some (.int 1)) (hlocks := hlocks) (fun h => by rw [hr] at h; cases h)
  have hmeth' : T.vm.method? m = some meth := X.method'
  refine ⟨T.setFrames fs, ?_, .returned (some (.int 1)), hrun, hended, rfl, ⟨_, rfl⟩, hW, hframe⟩
  jvm_step X.here [X.here.top, hx, hb, hdg, hmeth', hr, ret, narrow_b1]
  (try refine ⟨rfl, ?_⟩); (try refine ⟨rfl, ?_⟩)
  first | (intro acts; rw [hret _ acts rfl rfl rfl]) | rw [hret _ _ rfl rfl rfl]
  exact Steps.refl _
/-- what holds at the law's entry: the machine, the code, the tables' words (any of lw_tbl by 'hts w (by decide +kernel)'), the script of L ints xs at the cell b, what the Statement gives of the start (any of its parts by flat_of_before) -/
def lw_At (p : Program) (s : State) (m : MethodId) (meth : Method) (c : Code) (b L : Nat) (xs : Nat → Int32) : Prop :=
  p.tables.exec = Jvm.exec ∧ c.code = code ∧ meth.sig.returnType = ret ∧ c.maxLocals = 4 ∧ s.vm.findClass R_law = some m.cls ∧ (∀ w ∈ lw_tbl, w.before #[Value.ref b] s = true) ∧ va_X b L xs s s.heap ∧ b < s.heap.size ∧ meth.locks = false ∧ (Jvm.Cond.and given_1 narrow_1).before #[Value.ref b] s = true
/-- contents that a store stands for -/
def ctS (E : Ev) (σ : St) : Cn := fun k => match shpL[k]? with
  | some s => contS E s (σ k)
  | none => .inr (0, [])
theorem ctS_eq {E : Ev} {σ : St} {k : Nat} {s : Shp} (h : shpL[k]? = some s) : ctS E σ k = contS E s (σ k) := by
  unfold ctS
  rw [h]
theorem shp_some {k : Nat} (h : k < 69) : ∃ s, shpL[k]? = some s := ⟨_, List.getElem?_eq_getElem (show k < shpL.length from h)⟩
section JLW
variable {X : Cx} {cc : ByteArray} {own : String} {D kc ks pc pc' n : Nat} {lv lv' : List (Option Value)} {st : List Value} {σ : St} {ct : Cn}
theorem jn_runS {st0 rest : List Value} {mc ms nn : Nat} {Po : Option Value → St → Prop} {a : Array Value} {H : Heap} {locs : List Loc} {ls : Array Slot} (hr : va_Run X.p X.l X.e X.R X.s X.m X.args X.below X.meth X.c H locs kc ks mc ms (F0 X.m pc ls st0) rest (Qp nn X.E Po a) (fun q => X.E.1 ≤ q)) (h2 : va_S (fun q => X.E.1 ≤ q) X.s.heap H locs) (h3 : lv_has ls X.nL (asL 0 lv))
    (hsz : X.s.heap.size = X.E.1) (hnn : kc + mc = nn) (h00 : 0 < nn) (h69 : nn ≤ 69) (hpo : ∀ v σ', Po v σ' → v = none)
    (kk : ∀ σ', Po none σ' → JN X (kc + mc) (ks + ms) (pc + 3) lv rest nn (ctS X.E σ')) : WN X kc ks H locs pc ls st0 := by
  intro T hT Y
  obtain ⟨v, st₀, t, T', L, h0, Y', hL, e1, e2, ⟨⟨v', σ', hv, hp, hw⟩, hz, hk⟩, stz⟩ := hr T hT Y
  cases hv
  have hvn := hpo _ _ hp
  subst hvn
  rw [h0] at hz hk
  have hge : X.E.1 + (nn - 1) < t.heap.size := by
    obtain ⟨s9, hs9⟩ := shp_some (k := nn - 1) (by omega)
    exact va_at.lt (show va_at _ _ _ _ from hw.1 (nn - 1) s9 (by omega) hs9)
  have hle := Y'.heapSize
  have hsize : T'.heap.size = X.E.1 + nn := by
    rw [e1] at hle ⊢
    omega
  obtain ⟨t2, a1, b1⟩ := kk σ' hp T'.heap (locs ++ L) ls ⟨hsize, fun j hj => by
      obtain ⟨s9, hs9⟩ := shp_some (k := j) (by omega)
      rw [ctS_eq hs9, e1]
      exact hw.1 j s9 hj hs9⟩
    ⟨Nat.le_trans h2.1 (by rw [e1]; exact hz), fun q g1 g2 => by rw [e1, hk q (Nat.lt_of_lt_of_le g1 h2.1) g2]; exact h2.2.1 q g1 g2, fun q hq => by
      rcases List.mem_append.mp hq with h | h
      · exact h2.2.2 q h
      · exact hL q h⟩ h3 T' rfl Y'
  exact ⟨t2, stz t2 a1, b1⟩
/-- a constructor that ends with a whole object, called at the law: the heap's size is told by what stands -/
theorem jn_callS (F : Fx X cc own D) (hN : NN X.s) {index maxL d k mc ms nn : Nat} {y : MethodName} {bytes : ByteArray} {rest : List Value} {Po : Option Value → St → Prop}
    (hM : CtS X.l y bytes maxL d mc ms n X.E [.ref (X.E.1 + k)] ct nn Po) (hcode : Cond.code y bytes maxL none ∈ UW) (hini : Cond.initialized y.cls ∈ UW) (hl : Cond.methodLink own index y ∈ UW) (hin : Cond.instanceMethod y ∈ UW) (hyn : y.name = "<init>")
    (hd : y.cls ≠ "java/lang/invoke/MethodHandle" ∧ y.cls ≠ "java/lang/invoke/VarHandle" ∧ (parseMethodDescriptor y.desc).map (fun d => d.parameters.length) = some 0) (hm : maxL ≤ 17) (hD : d < D) (hrm : (rest.map fun v => v.category).sum ≤ 8) (hcs : kc + mc ≤ X.R.cells ∧ ks + ms ≤ X.R.slots) (dd : decode cc pc = .ok (.invokespecial index, 3)) (hp : pc + 3 = pc')
    (hsz : X.s.heap.size = X.E.1) (hnn : kc + mc = nn) (h00 : 0 < nn) (h69 : nn ≤ 69) (hpo : ∀ v σ', Po v σ' → v = none)
    (kk : ∀ σ', Po none σ' → JN X (kc + mc) (ks + ms) pc' lv rest nn (ctS X.E σ')) : JN X kc ks pc lv (.ref (X.E.1 + k) :: rest) n ct := by
  intro H locs ls h1 h2 h3
  subst hp
  exact jn_runS (va_runI (b := X.E.1 + k) (As := []) (rest := rest) F.1 hM ⟨cb_n F.1.2.2.2.2 hcode hini hl hd hm hD F.2.2.1 F.2.2.2, hyn, F.1.2.2.2.2 _ hin⟩ ⟨mg_blind, fun U hU hW => ⟨rfl, by rw [hU]; exact h1, KK.moved hW.alike F.2.1, NN.warm hW hN⟩⟩ rfl rfl h3.1 rfl (lv_room hrm) dd hcs) h2 h3 hsz hnn h00 h69 hpo kk
theorem jn_astore_n (F : Fx X cc own D) {i : Fin 4} {x : Nat} (d : decode cc pc = .ok (.astore_n i, 1)) (hp : pc + 1 = pc') (hn : (i : Nat) < X.nL) (hc : ct1 lv = true) (hl : lv.set (i : Nat) (some (.ref x)) = lv') (k : JN X kc ks pc' lv' st n ct) : JN X kc ks pc lv (.ref x :: st) n ct :=
  fun H locs ls a b h => lv_astore_n F.1.1 F.1.2.1 d rfl h hn rfl (fun ls' h' => by subst hp; exact k H locs ls' a b (has_sub h' (by rw [← hl]; exact asL_set hc)))
theorem jl_iinc (F : Fx X cc own D) {i : Nat} {z : Int} {x v : Int32} (d : decode cc pc = .ok (.iinc i z, 3)) (hp : pc + 3 = pc') (hi : lv[i]? = some (some (.int x))) (hv : x + Int32.ofInt z = v) (hn : i < X.nL) (hc : ct1 lv = true) (hl : lv.set i (some (.int v)) = lv') (k : JL X kc ks pc' lv' st σ) : JL X kc ks pc lv st σ := by
  intro H locs ls a b h
  obtain ⟨j, hj⟩ := List.getElem?_of_mem ((asL_mem lv 0 (i, .int x)).mpr ⟨Nat.zero_le _, by rw [Nat.sub_zero]; exact hi⟩)
  exact lv_iinc F.1.1 F.1.2.1 d h hj hv hn rfl (fun ls' h' => by subst hp; exact k H locs ls' a b (has_sub h' (by rw [← hl]; exact asL_set hc)))
theorem jl_tabO (F : Fx X cc own D) {dflt lo hi : Int} {offs : Array Int} {len : Nat} {x : Int32} {tgt : Nat} (d : decode cc pc = .ok (.tableswitch dflt lo hi offs, len)) (h : x.toInt < lo ∨ hi < x.toInt) (ht : (pc : Int) + dflt = (tgt : Int)) (k : JL X kc ks tgt lv st σ) : JL X kc ks pc lv (.int x :: st) σ :=
  fun H locs ls a b g => lv_tableOut F.1.1 F.1.2.1 d h ht (k H locs ls a b g)
theorem jl_tabI (F : Fx X cc own D) {dflt lo hi : Int} {offs : Array Int} {len k : Nat} {x : Int32} {off : Int} {tgt : Nat} (d : decode cc pc = .ok (.tableswitch dflt lo hi offs, len)) (hx : x.toInt = (k : Int)) (hlo : lo = 0) (hk : (k : Int) ≤ hi) (ho : offs[k]? = some off) (ht : (pc : Int) + off = (tgt : Int)) (kk : JL X kc ks tgt lv st σ) : JL X kc ks pc lv (.int x :: st) σ :=
  fun H locs ls a b g => lv_tableIn F.1.1 F.1.2.1 d (by rw [hx, hlo]; omega) (by rw [hx]; omega) (by rw [hx, hlo, Int.sub_zero, Int.toNat_natCast]; exact ho) ht (kk H locs ls a b g)
end JLW
/-- what is fixed in the law's walk -/
def LW (X : Cx) (b L : Nat) (xs : Nat → Int32) : Prop := Fx X cL_law RL 9 ∧ X.n = 69 ∧ va_X b L xs X.s X.s.heap ∧ b < X.s.heap.size ∧ X.s.heap.size = X.E.1 ∧ X.R = room_1 ∧ X.nL = 4 ∧ X.args = #[Value.ref b] ∧ X.Q = lw_Z X.below #[Value.ref b] X.s ∧ X.meth.sig.returnType = ret ∧ X.meth.locks = false
abbrev lvL (X : Cx) (b ii : Nat) : List (Option Value) := [some (.ref b), some (.ref (X.E.1 + 0)), some (.ref (X.E.1 + 55)), some (.int (nI ii))]
section LWS
variable {X : Cx} {b L : Nat} {xs : Nat → Int32} {kc ks pc pc' : Nat} {lv : List (Option Value)} {st : List Value} {σ : St}
theorem LW.F (Z : LW X b L xs) : Fx X cL_law RL 9 := Z.1
theorem LW.nz (Z : LW X b L xs) : X.n = 69 := Z.2.1
theorem LW.n5 (Z : LW X b L xs) : 55 ≤ X.n := by rw [Z.nz]; decide
theorem LW.n9 (Z : LW X b L xs) : 69 ≤ X.n := by rw [Z.nz]; decide
theorem LW.k0 (Z : LW X b L xs) : 0 < X.n := by rw [Z.nz]; decide
theorem LW.k55 (Z : LW X b L xs) : 55 < X.n := by rw [Z.nz]; decide
theorem LW.hX (Z : LW X b L xs) : va_X b L xs X.s X.s.heap := Z.2.2.1
theorem LW.hb (Z : LW X b L xs) : b < X.s.heap.size := Z.2.2.2.1
theorem LW.hE (Z : LW X b L xs) : X.s.heap.size = X.E.1 := Z.2.2.2.2.1
theorem LW.hRm (Z : LW X b L xs) : X.R = room_1 := Z.2.2.2.2.2.1
theorem LW.nL (Z : LW X b L xs) : X.nL = 4 := Z.2.2.2.2.2.2.1
theorem LW.na (Z : LW X b L xs) : ¬ X.E.1 ≤ b := by have h1 := Z.hb; have h2 := Z.hE; omega
theorem LW.rc (Z : LW X b L xs) : X.R.cells = 600000 := by rw [Z.hRm]; rfl
theorem LW.rs (Z : LW X b L xs) : X.R.slots = 7302250 := by rw [Z.hRm]; rfl
theorem LW.cs (Z : LW X b L xs) : 69 ≤ X.R.cells ∧ 3309 ≤ X.R.slots := ⟨by rw [Z.rc]; decide, by rw [Z.rs]; decide⟩
theorem jl_sld (Z : LW X b L xs) {i : Int32} {j : Nat} (hi : i = nI j) (hj : j < L) (hL : L ≤ 2560) (d : decode cL_law pc = .ok (.iaload, 1)) (hp : pc + 1 = pc') (k : JL X kc ks pc' lv (.int (xs j) :: st) σ) : JL X kc ks pc lv (.int i :: .ref b :: st) σ := by
  intro H locs ls a g h
  subst hp hi
  refine va_sld (A := fun q => X.E.1 ≤ q) (H0 := X.s.heap) Z.F.1.1 Z.F.1.2.1 Z.hX Z.hb Z.na g (vp_in_nI hj (by omega)) d ?_
  rw [nI_clamp (by omega)]
  exact k H locs ls a g h
theorem jl_slen (Z : LW X b L xs) (d : decode cL_law pc = .ok (.arraylength, 1)) (hp : pc + 1 = pc') (k : JL X kc ks pc' lv (.int (nI L) :: st) σ) : JL X kc ks pc lv (.ref b :: st) σ := by
  intro H locs ls a g h
  subst hp
  exact va_slen (A := fun q => X.E.1 ≤ q) (H0 := X.s.heap) Z.F.1.1 Z.F.1.2.1 Z.hX Z.hb Z.na g d (k H locs ls a g h)
theorem jl_arg (Z : LW X b L xs) (hL : L ≤ 2560) {ii j p : Nat} {z : Int} (hii : ii + 5 ≤ L) (hj : j < 5) (hz : Int32.ofInt z = nI j) (d0 : decode cL_law p = .ok (.aload_n 0, 1)) (d1 : decode cL_law (p + 1) = .ok (.iload_n 3, 1)) (d2 : decode cL_law (p + 1 + 1) = .ok (.iconst z, 1)) (d3 : decode cL_law (p + 1 + 1 + 1) = .ok (.iadd, 1)) (d4 : decode cL_law (p + 1 + 1 + 1 + 1) = .ok (.iaload, 1)) (hp : p + 1 + 1 + 1 + 1 + 1 = pc')
    (k : JL X kc ks pc' (lvL X b ii) (.int (xs (ii + j)) :: st) σ) : JL X kc ks p (lvL X b ii) st σ := by
  refine jl_aload_n Z.F d0 rfl rfl ?_
  refine jl_iload_n Z.F d1 rfl rfl ?_
  refine jl_iconst Z.F d2 rfl hz ?_
  refine jl_iadd Z.F d3 rfl ?_
  exact jl_sld Z (nI_add ii j) (by omega) hL d4 hp k
theorem jl_ret1 (Z : LW X b L xs) (hc : kc ≤ 600000) (hs : ks ≤ 7302250) (d : decode cL_law pc = .ok (.ireturn, 1)) : JL X kc ks pc lv [.int 1] σ := by
  intro H locs ls a g h
  obtain ⟨F, h1, h2, h3, h4, h5, h6, h7, h8, h9, h10⟩ := Z
  unfold WN
  rw [h8, h5, h7]
  refine va_forget (fun q hq => by have := g.2.2 q hq; omega) ?_
  refine W.widen (k := 600000) (n := 7302250) hc hs ?_
  exact lw_ret F.1.1 F.1.2.1 h9 h10 d
end LWS
