/-! ===== the store: relative cell, slot, int ===== -/
abbrev St : Type := Nat → Nat → Int32
abbrev Ev : Type := Nat × (Nat → ClassId) × (Nat → Nat → Nat) × (Nat → ClassId)
abbrev Shp : Type := (Nat × Nat × Nat) ⊕ (Nat × List (Option Nat))
def shpL : List Shp := [
  .inr (5, [some 1, some 4, some 7, some 9, some 41, some 43, some 46, some 47, some 48, none]),
  .inr (2, [none, none, none, none, some 2, some 3]),
  .inl (0, 56, 0),
  .inl (0, 24, 0),
  .inr (2, [none, none, none, none, some 5, some 6]),
  .inl (0, 56, 0),
  .inl (0, 24, 0),
  .inr (4, [some 8, none, none, none, none, none]),
  .inl (1, 120, 0),
  .inr (1, [some 10, none, none]),
  .inl (3, 10, 11),
  .inr (2, [none, none, none, none, some 12, some 13]),
  .inl (0, 56, 0),
  .inl (0, 24, 0),
  .inr (2, [none, none, none, none, some 15, some 16]),
  .inl (0, 56, 0),
  .inl (0, 24, 0),
  .inr (2, [none, none, none, none, some 18, some 19]),
  .inl (0, 56, 0),
  .inl (0, 24, 0),
  .inr (2, [none, none, none, none, some 21, some 22]),
  .inl (0, 56, 0),
  .inl (0, 24, 0),
  .inr (2, [none, none, none, none, some 24, some 25]),
  .inl (0, 56, 0),
  .inl (0, 24, 0),
  .inr (2, [none, none, none, none, some 27, some 28]),
  .inl (0, 56, 0),
  .inl (0, 24, 0),
  .inr (2, [none, none, none, none, some 30, some 31]),
  .inl (0, 56, 0),
  .inl (0, 24, 0),
  .inr (2, [none, none, none, none, some 33, some 34]),
  .inl (0, 56, 0),
  .inl (0, 24, 0),
  .inr (2, [none, none, none, none, some 36, some 37]),
  .inl (0, 56, 0),
  .inl (0, 24, 0),
  .inr (2, [none, none, none, none, some 39, some 40]),
  .inl (0, 56, 0),
  .inl (0, 24, 0),
  .inr (0, [some 42]),
  .inl (0, 81, 0),
  .inr (3, [some 44, some 45, none, none, none, none, none]),
  .inl (0, 100, 0),
  .inl (0, 100, 0),
  .inl (3, 2, 49),
  .inl (2, 2, 0),
  .inl (0, 18, 0),
  .inr (2, [none, none, none, none, some 50, some 51]),
  .inl (0, 56, 0),
  .inl (0, 24, 0),
  .inr (2, [none, none, none, none, some 53, some 54]),
  .inl (0, 56, 0),
  .inl (0, 24, 0),
  .inr (6, [none, none, none, some 56, some 57, none, some 58, some 59, none, some 60, some 61, some 62, none, some 63, none, none, none, none, none, none, none, some 64, none, some 65, none, some 66, some 67, none, none, some 68]),
  .inl (0, 82, 0),
  .inl (0, 820, 0),
  .inl (0, 164, 0),
  .inl (2, 2, 0),
  .inl (0, 6, 0),
  .inl (0, 6, 0),
  .inl (0, 6, 0),
  .inl (0, 120, 0),
  .inl (0, 56, 0),
  .inl (0, 16, 0),
  .inl (0, 128, 0),
  .inl (0, 128, 0),
  .inl (0, 81, 0)]
def tyK (t : Nat) : FieldType := match t with
  | 0 => .int
  | 1 => .char
  | 2 => .boolean
  | _ => .object "LampPlans$Plan"
def sl (b : Nat) (f : Nat → Int32) : Nat → List (Option Nat) → List Value
  | _, [] => []
  | i, none :: r => .int (f i) :: sl b f (i + 1) r
  | i, some a :: r => .ref (b + a) :: sl b f (i + 1) r
def contS (E : Ev) (s : Shp) (f : Nat → Int32) : va_E := match s with
  | .inl q => if q.1 < 3 then .inl (E.2.2.2 q.1, q.2.1, .inl f) else .inl (E.2.2.2 q.1, q.2.1, .inr (.inr (.inr (.inr (fun j => some (E.1 + (q.2.2 + 3 * j)))))))
  | .inr o => .inr (o.1, sl E.1 f 0 o.2)
def cellAt (E : Ev) (f : Nat → Int32) (k : Nat) (s : Shp) (H : Heap) : Prop := va_at (E.2.1, E.2.2.1) vwCl (E.1 + k, contS E s f) H
def Rep (n : Nat) (E : Ev) (σ : St) (H : Heap) : Prop := ∀ (k : Nat) (s : Shp), k < n → shpL[k]? = some s → cellAt E (σ k) k s H
def KK (E : Ev) (U : State) : Prop := va_K (E.2.1, E.2.2.1) vwCl [] U ∧ ∀ t, t < 4 → ArrOfT U (E.2.2.2 t) (tyK t) ∧ va_RA U (E.2.2.2 t) (tyK t)
theorem KK.moved {E : Ev} {u U : State} (hvm : u.vm.Alike U.vm) (h : KK E u) : KK E U := ⟨va_K.moved hvm h.1, fun t ht => ⟨arrOfT_moved hvm (h.2 t ht).1, (h.2 t ht).2.moved hvm⟩⟩
def Wd (n : Nat) (E : Ev) (σ : St) (U : State) : Prop := Rep n E σ U.heap ∧ KK E U
def rmL (d : Nat) : Room := { frames := d, cells := 0, slots := 0, locals := 36 * d }
def Qp (n : Nat) (E : Ev) (Po : Option Value → St → Prop) : Array Value → State → Outcome → State → Prop := fun _ st o t =>
  (∃ (v : Option Value) (σ' : St), o = .returned v ∧ Po v σ' ∧ Wd n E σ' t) ∧ va_F (fun q => E.1 ≤ q) st t
/-- a contract: with the store σ the method y answers and leaves a store, so that Po -/
def Ct (l : Launch) (y : MethodName) (cc : ByteArray) (maxL : Nat) (ret : Option FieldType) (d n : Nat) (E : Ev) (av : List Value) (σ : St) (Po : Option Value → St → Prop) : Prop :=
  Met l y (Cond.code y cc maxL ret :: UW) (rmL d) (va_Pc av (Wd n E σ)) (Qp n E Po) 0 0 (fun q => E.1 ≤ q)
def ro (v : Value) (σ : St) : Option Value → St → Prop := fun v' σ' => some v = v' ∧ σ = σ'
def upR (σ : St) (k : Nat) (g : Nat → Int32) : St := fun a => if a = k then g else σ a
abbrev up (σ : St) (k i : Nat) (v : Int32) : St := upR σ k (upd (σ k) i v)
theorem upR_s (σ : St) (k : Nat) (g : Nat → Int32) : upR σ k g k = g := if_pos rfl
theorem upR_n (σ : St) {k a : Nat} (g : Nat → Int32) (h : a ≠ k) : upR σ k g a = σ a := if_neg h
theorem upd_s (f : Nat → Int32) (k : Nat) (x : Int32) : upd f k x k = x := if_pos rfl
theorem upd_n (f : Nat → Int32) {k j : Nat} (x : Int32) (h : j ≠ k) : upd f k x j = f j := if_neg h
/-! locals by place -/
def asL : Nat → List (Option Value) → List (Nat × Value)
  | _, [] => []
  | i, none :: r => asL (i + 1) r
  | i, some v :: r => (i, v) :: asL (i + 1) r
theorem asL_mem : ∀ (lv : List (Option Value)) (i : Nat) (q : Nat × Value), q ∈ asL i lv ↔ i ≤ q.1 ∧ lv[q.1 - i]? = some (some q.2)
  | [], i, q => by simp [asL]
  | none :: r, i, q => by
    rw [show asL i (none :: r) = asL (i + 1) r from rfl, asL_mem r (i + 1) q]
    constructor
    · rintro ⟨h1, h2⟩
      refine ⟨by omega, ?_⟩
      rw [show q.1 - i = (q.1 - (i + 1)) + 1 by omega]
      exact h2
    · rintro ⟨h1, h2⟩
      by_cases he : q.1 = i
      · rw [he, Nat.sub_self] at h2
        simp at h2
      · refine ⟨by omega, ?_⟩
        rw [show q.1 - i = (q.1 - (i + 1)) + 1 by omega] at h2
        exact h2
  | some v :: r, i, q => by
    rw [show asL i (some v :: r) = (i, v) :: asL (i + 1) r from rfl, List.mem_cons, asL_mem r (i + 1) q]
    constructor
    · rintro (rfl | ⟨h1, h2⟩)
      · simp
      · refine ⟨by omega, ?_⟩
        rw [show q.1 - i = (q.1 - (i + 1)) + 1 by omega]
        exact h2
    · rintro ⟨h1, h2⟩
      by_cases he : q.1 = i
      · left
        rw [he, Nat.sub_self] at h2
        simp only [List.getElem?_cons_zero, Option.some.injEq] at h2
        rw [h2, ← he]
      · right
        refine ⟨by omega, ?_⟩
        rw [show q.1 - i = (q.1 - (i + 1)) + 1 by omega] at h2
        exact h2
def ct1 (lv : List (Option Value)) : Bool := lv.all (fun o => match o with | some v => v.category == 1 | none => true)
theorem asL_set {lv : List (Option Value)} {i : Nat} {v : Value} (hc : ct1 lv = true) : ∀ q ∈ asL 0 (lv.set i (some v)), q ∈ ((i, v) :: (asL 0 lv).filter (fun q => !(q.1 == i) && !(q.1 + 1 == i && q.2.category == 2))) := by
  intro q hq
  rw [asL_mem] at hq
  obtain ⟨-, h2⟩ := hq
  rw [Nat.sub_zero] at h2
  by_cases he : q.1 = i
  · rw [he, List.getElem?_set] at h2
    simp only [if_true] at h2
    split at h2
    · simp only [Option.some.injEq] at h2
      rw [List.mem_cons]; left
      rw [h2, ← he]
    · cases h2
  · rw [List.getElem?_set, if_neg (Ne.symm he)] at h2
    rw [List.mem_cons]; right
    rw [List.mem_filter]
    refine ⟨(asL_mem lv 0 q).mpr ⟨Nat.zero_le _, by rw [Nat.sub_zero]; exact h2⟩, ?_⟩
    have h3 := List.all_eq_true.mp hc _ (List.mem_of_getElem? h2)
    simp only [beq_iff_eq] at h3
    simp [he, h3]
theorem has_sub {ls : Array Slot} {nL : Nat} {l l' : List (Nat × Value)} (h : lv_has ls nL l) (hl : ∀ q ∈ l', q ∈ l) : lv_has ls nL l' := ⟨h.1, h.2.1, fun q hq => h.2.2 q (hl q hq)⟩
theorem has_at {ls : Array Slot} {nL : Nat} {lv : List (Option Value)} (h : lv_has ls nL (asL 0 lv)) {i : Nat} {v : Value} (hi : lv[i]? = some (some v)) : ls[i]? = some (.val v) := h.2.2 (i, v) ((asL_mem lv 0 (i, v)).mpr ⟨Nat.zero_le _, by rw [Nat.sub_zero]; exact hi⟩)
/-! ===== the judgement ===== -/
abbrev Cx : Type := Program × Launch × Env × Room × State × MethodId × Array Value × List Frame × Method × Code × (State → Prop) × Nat × Ev × Nat
def Cx.p (X : Cx) : Program := X.1
def Cx.l (X : Cx) : Launch := X.2.1
def Cx.e (X : Cx) : Env := X.2.2.1
def Cx.R (X : Cx) : Room := X.2.2.2.1
def Cx.s (X : Cx) : State := X.2.2.2.2.1
def Cx.m (X : Cx) : MethodId := X.2.2.2.2.2.1
def Cx.args (X : Cx) : Array Value := X.2.2.2.2.2.2.1
def Cx.below (X : Cx) : List Frame := X.2.2.2.2.2.2.2.1
def Cx.meth (X : Cx) : Method := X.2.2.2.2.2.2.2.2.1
def Cx.c (X : Cx) : Code := X.2.2.2.2.2.2.2.2.2.1
def Cx.Q (X : Cx) : State → Prop := X.2.2.2.2.2.2.2.2.2.2.1
def Cx.n (X : Cx) : Nat := X.2.2.2.2.2.2.2.2.2.2.2.1
def Cx.E (X : Cx) : Ev := X.2.2.2.2.2.2.2.2.2.2.2.2.1
def Cx.nL (X : Cx) : Nat := X.2.2.2.2.2.2.2.2.2.2.2.2.2
def WX (X : Cx) (H : Heap) (locs : List Loc) (pc : Nat) (ls : Array Slot) (st : List Value) : Prop := W X.p X.l X.e X.R X.s X.m X.args X.below X.meth X.c H locs 0 0 X.Q (F0 X.m pc ls st)
def J (X : Cx) (pc : Nat) (lv : List (Option Value)) (st : List Value) (σ : St) : Prop := ∀ (H : Heap) (locs : List Loc) (ls : Array Slot), Rep X.n X.E σ H → va_S (fun q => X.E.1 ≤ q) X.s.heap H locs → lv_has ls X.nL (asL 0 lv) → WX X H locs pc ls st
/-- what is fixed in a method's walk: the machine, the code, the words, the classes, the room of D levels -/
def Fx (X : Cx) (cc : ByteArray) (own : String) (D : Nat) : Prop := CallFix X.p X.m X.c cc X.nL X.s X.args UW own ∧ KK X.E X.s ∧ D ≤ X.R.frames ∧ 36 * D ≤ X.R.locals
def Rt (X : Cx) (ret : Option FieldType) (Po : Option Value → St → Prop) : Prop := X.meth.sig.returnType = ret ∧ X.meth.locks = false ∧ X.Q = MQ X.below (Qp X.n X.E Po) X.args X.s 0 0 (fun q => X.E.1 ≤ q)
theorem Ct.of {l : Launch} {y : MethodName} {cc : ByteArray} {maxL : Nat} {ret : Option FieldType} {d n : Nat} {E : Ev} {av : List Value} {σ : St} {Po : Option Value → St → Prop} {lv0 : List (Option Value)} (hy : plainName y.cls = true) (hlen : (lg_sl av).length ≤ maxL) (hlv : asL 0 lv0 = lv_args 0 av)
    (body : ∀ X : Cx, X.n = n → X.E = E → X.l = l → X.nL = maxL → Fx X cc y.cls d → Rt X ret Po → J X 0 lv0 [] σ) : Ct l y cc maxL ret d n E av σ Po := by
  refine Met.ofW (cc := cc) (maxL := maxL) (ret := ret) hy rfl ?_
  intro p e s m args below meth c s₁ B hml hv
  obtain ⟨rfl, hR, hK⟩ := hv
  have hts := atoms_spec (ws := Cond.code y cc maxL ret :: UW) B.pre
  have hl := lv_entry av (n := maxL) hlen
  rw [lg_entry_eq]
  rw [← hlv] at hl
  exact body (p, l, e, rmL d, s, m, av.toArray, below, meth, c, MQ below (Qp n E Po) av.toArray s 0 0 (fun q => E.1 ≤ q), n, E, maxL) rfl rfl rfl rfl ⟨⟨B.exec, B.bytes, hml, findClass_of_methodNamed B.named, fun w hw => hts w (List.mem_cons_of_mem _ hw)⟩, hK, Nat.le_refl _, Nat.le_refl _⟩ ⟨B.returns, B.notSynchronized, rfl⟩ _ _ _ hR va_S.rf hl
section JR
variable {X : Cx} {cc : ByteArray} {own : String} {D pc pc' : Nat} {lv lv' : List (Option Value)} {st : List Value} {σ : St}
theorem j_int {x y : Int32} (h : x = y) (k : J X pc lv (.int y :: st) σ) : J X pc lv (.int x :: st) σ := by rw [h]; exact k
theorem j_int2 {x y : Int32} {v : Value} (h : x = y) (k : J X pc lv (v :: .int y :: st) σ) : J X pc lv (v :: .int x :: st) σ := by rw [h]; exact k
theorem j_name {x : Int32} (k : ∀ y : Int32, y = x → J X pc lv (.int y :: st) σ) : J X pc lv (.int x :: st) σ := k x rfl
theorem j_store {σ' : St} (h : σ = σ') (k : J X pc lv st σ') : J X pc lv st σ := by rw [h]; exact k
theorem j_iconst (F : Fx X cc own D) {z : Int} {v : Int32} (d : decode cc pc = .ok (.iconst z, 1)) (hp : pc + 1 = pc') (hv : Int32.ofInt z = v) (k : J X pc' lv (.int v :: st) σ) : J X pc lv st σ :=
  fun H locs ls a b h => lv_iconst F.1.1 F.1.2.1 d hv (by subst hp; exact k H locs ls a b h)
theorem j_bipush (F : Fx X cc own D) {z : Int} {v : Int32} (d : decode cc pc = .ok (.bipush z, 2)) (hp : pc + 2 = pc') (hv : (Int8.ofInt z).toInt32 = v) (k : J X pc' lv (.int v :: st) σ) : J X pc lv st σ :=
  fun H locs ls a b h => lv_bipush F.1.1 F.1.2.1 d hv (by subst hp; exact k H locs ls a b h)
theorem j_sipush (F : Fx X cc own D) {z : Int} {v : Int32} (d : decode cc pc = .ok (.sipush z, 3)) (hp : pc + 3 = pc') (hv : (Int16.ofInt z).toInt32 = v) (k : J X pc' lv (.int v :: st) σ) : J X pc lv st σ :=
  fun H locs ls a b h => lv_sipush F.1.1 F.1.2.1 d hv (by subst hp; exact k H locs ls a b h)
theorem j_iload_n (F : Fx X cc own D) {i : Fin 4} {x : Int32} (d : decode cc pc = .ok (.iload_n i, 1)) (hp : pc + 1 = pc') (hi : lv[(i : Nat)]? = some (some (.int x))) (k : J X pc' lv (.int x :: st) σ) : J X pc lv st σ :=
  fun H locs ls a b h => lv_iload_n F.1.1 F.1.2.1 d rfl (has_at h hi) (by subst hp; exact k H locs ls a b h)
theorem j_iload (F : Fx X cc own D) {i : Nat} {x : Int32} (d : decode cc pc = .ok (.iload i, 2)) (hp : pc + 2 = pc') (hi : lv[i]? = some (some (.int x))) (k : J X pc' lv (.int x :: st) σ) : J X pc lv st σ :=
  fun H locs ls a b h => lv_iload F.1.1 F.1.2.1 d (has_at h hi) (by subst hp; exact k H locs ls a b h)
theorem j_aload_n (F : Fx X cc own D) {i : Fin 4} {x : Nat} (d : decode cc pc = .ok (.aload_n i, 1)) (hp : pc + 1 = pc') (hi : lv[(i : Nat)]? = some (some (.ref x))) (k : J X pc' lv (.ref x :: st) σ) : J X pc lv st σ :=
  fun H locs ls a b h => lv_aload_n F.1.1 F.1.2.1 d rfl (has_at h hi) (by subst hp; exact k H locs ls a b h)
theorem j_istore_n (F : Fx X cc own D) {i : Fin 4} {x : Int32} (d : decode cc pc = .ok (.istore_n i, 1)) (hp : pc + 1 = pc') (hn : (i : Nat) < X.nL) (hc : ct1 lv = true) (hl : lv.set (i : Nat) (some (.int x)) = lv') (k : J X pc' lv' st σ) : J X pc lv (.int x :: st) σ :=
  fun H locs ls a b h => lv_istore_n F.1.1 F.1.2.1 d rfl h hn rfl (fun ls' h' => by subst hp; exact k H locs ls' a b (has_sub h' (by rw [← hl]; exact asL_set hc)))
theorem j_istore (F : Fx X cc own D) {i : Nat} {x : Int32} (d : decode cc pc = .ok (.istore i, 2)) (hp : pc + 2 = pc') (hn : i < X.nL) (hc : ct1 lv = true) (hl : lv.set i (some (.int x)) = lv') (k : J X pc' lv' st σ) : J X pc lv (.int x :: st) σ :=
  fun H locs ls a b h => lv_istore F.1.1 F.1.2.1 d h hn rfl (fun ls' h' => by subst hp; exact k H locs ls' a b (has_sub h' (by rw [← hl]; exact asL_set hc)))
theorem j_iinc (F : Fx X cc own D) {i : Nat} {z : Int} {x v : Int32} (d : decode cc pc = .ok (.iinc i z, 3)) (hp : pc + 3 = pc') (hi : lv[i]? = some (some (.int x))) (hv : x + Int32.ofInt z = v) (hn : i < X.nL) (hc : ct1 lv = true) (hl : lv.set i (some (.int v)) = lv') (k : J X pc' lv' st σ) : J X pc lv st σ := by
  intro H locs ls a b h
  obtain ⟨j, hj⟩ := List.getElem?_of_mem ((asL_mem lv 0 (i, .int x)).mpr ⟨Nat.zero_le _, by rw [Nat.sub_zero]; exact hi⟩)
  exact lv_iinc F.1.1 F.1.2.1 d h hj hv hn rfl (fun ls' h' => by subst hp; exact k H locs ls' a b (has_sub h' (by rw [← hl]; exact asL_set hc)))
theorem j_iadd (F : Fx X cc own D) {x y : Int32} (d : decode cc pc = .ok (.iadd, 1)) (hp : pc + 1 = pc') (k : J X pc' lv (.int (x + y) :: st) σ) : J X pc lv (.int y :: .int x :: st) σ :=
  fun H locs ls a b h => lv_iadd F.1.1 F.1.2.1 d (by subst hp; exact k H locs ls a b h)
theorem j_isub (F : Fx X cc own D) {x y : Int32} (d : decode cc pc = .ok (.isub, 1)) (hp : pc + 1 = pc') (k : J X pc' lv (.int (x - y) :: st) σ) : J X pc lv (.int y :: .int x :: st) σ :=
  fun H locs ls a b h => lv_isub F.1.1 F.1.2.1 d (by subst hp; exact k H locs ls a b h)
theorem j_imul (F : Fx X cc own D) {x y : Int32} (d : decode cc pc = .ok (.imul, 1)) (hp : pc + 1 = pc') (k : J X pc' lv (.int (x * y) :: st) σ) : J X pc lv (.int y :: .int x :: st) σ :=
  fun H locs ls a b h => lv_imul F.1.1 F.1.2.1 d (by subst hp; exact k H locs ls a b h)
theorem j_iand (F : Fx X cc own D) {x y : Int32} (d : decode cc pc = .ok (.iand, 1)) (hp : pc + 1 = pc') (k : J X pc' lv (.int (x &&& y) :: st) σ) : J X pc lv (.int y :: .int x :: st) σ :=
  fun H locs ls a b h => lv_iand F.1.1 F.1.2.1 d (by subst hp; exact k H locs ls a b h)
theorem j_ior (F : Fx X cc own D) {x y : Int32} (d : decode cc pc = .ok (.ior, 1)) (hp : pc + 1 = pc') (k : J X pc' lv (.int (x ||| y) :: st) σ) : J X pc lv (.int y :: .int x :: st) σ :=
  fun H locs ls a b h => lv_ior F.1.1 F.1.2.1 d (by subst hp; exact k H locs ls a b h)
theorem j_ixor (F : Fx X cc own D) {x y : Int32} (d : decode cc pc = .ok (.ixor, 1)) (hp : pc + 1 = pc') (k : J X pc' lv (.int (x ^^^ y) :: st) σ) : J X pc lv (.int y :: .int x :: st) σ :=
  fun H locs ls a b h => lv_ixor F.1.1 F.1.2.1 d (by subst hp; exact k H locs ls a b h)
theorem j_idiv (F : Fx X cc own D) {x y : Int32} (d : decode cc pc = .ok (.idiv, 1)) (hp : pc + 1 = pc') (hne : ¬ y = 0) (k : J X pc' lv (.int (x / y) :: st) σ) : J X pc lv (.int y :: .int x :: st) σ :=
  fun H locs ls a b h => lv_idiv F.1.1 F.1.2.1 d hne (by subst hp; exact k H locs ls a b h)
theorem j_irem (F : Fx X cc own D) {x y : Int32} (d : decode cc pc = .ok (.irem, 1)) (hp : pc + 1 = pc') (hne : ¬ y = 0) (k : J X pc' lv (.int (x - x / y * y) :: st) σ) : J X pc lv (.int y :: .int x :: st) σ :=
  fun H locs ls a b h => lv_irem F.1.1 F.1.2.1 d hne (by subst hp; exact k H locs ls a b h)
theorem j_ishl (F : Fx X cc own D) {x y : Int32} (d : decode cc pc = .ok (.ishl, 1)) (hp : pc + 1 = pc') (k : J X pc' lv (.int (x <<< (y &&& 31)) :: st) σ) : J X pc lv (.int y :: .int x :: st) σ :=
  fun H locs ls a b h => lv_ishl F.1.1 F.1.2.1 d (by subst hp; exact k H locs ls a b h)
theorem j_ishr (F : Fx X cc own D) {x y : Int32} (d : decode cc pc = .ok (.ishr, 1)) (hp : pc + 1 = pc') (k : J X pc' lv (.int (x >>> (y &&& 31)) :: st) σ) : J X pc lv (.int y :: .int x :: st) σ :=
  fun H locs ls a b h => lv_ishr F.1.1 F.1.2.1 d (by subst hp; exact k H locs ls a b h)
theorem j_iushr (F : Fx X cc own D) {x y v : Int32} (d : decode cc pc = .ok (.iushr, 1)) (hp : pc + 1 = pc') (hv : (x.toUInt32 >>> (y.toUInt32 &&& Int32.toUInt32 31)).toInt32 = v) (k : J X pc' lv (.int v :: st) σ) : J X pc lv (.int y :: .int x :: st) σ :=
  fun H locs ls a b h => lv_iushr F.1.1 F.1.2.1 d hv (by subst hp; exact k H locs ls a b h)
theorem j_ineg (F : Fx X cc own D) {x : Int32} (d : decode cc pc = .ok (.ineg, 1)) (hp : pc + 1 = pc') (k : J X pc' lv (.int (-x) :: st) σ) : J X pc lv (.int x :: st) σ :=
  fun H locs ls a b h => lv_ineg F.1.1 F.1.2.1 d (by subst hp; exact k H locs ls a b h)
theorem j_i2c (F : Fx X cc own D) {x v : Int32} (d : decode cc pc = .ok (.i2c, 1)) (hp : pc + 1 = pc') (hv : (x.toUInt32 % 65536).toInt32 = v) (k : J X pc' lv (.int v :: st) σ) : J X pc lv (.int x :: st) σ :=
  fun H locs ls a b h => lv_i2c F.1.1 F.1.2.1 d hv (by subst hp; exact k H locs ls a b h)
theorem j_ldcw (F : Fx X cc own D) {index : Nat} {v : Int32} (hw : Cond.constant own index v ∈ UW) (d : decode cc pc = .ok (.ldc_w index, 3)) (hp : pc + 3 = pc') (k : J X pc' lv (.int v :: st) σ) : J X pc lv st σ :=
  fun H locs ls a b h => lv_ldcw F.1.1 F.1.2.1 F.1.2.2.2.1 (F.1.2.2.2.2 _ hw) d (by subst hp; exact k H locs ls a b h)
theorem j_dup (F : Fx X cc own D) {v : Value} (d : decode cc pc = .ok (.dup, 1)) (hp : pc + 1 = pc') (hv : v.category = 1) (k : J X pc' lv (v :: v :: st) σ) : J X pc lv (v :: st) σ :=
  fun H locs ls a b h => lv_dup F.1.1 F.1.2.1 d hv (by subst hp; exact k H locs ls a b h)
theorem j_dup2 (F : Fx X cc own D) {v w : Value} (d : decode cc pc = .ok (.dup2, 1)) (hp : pc + 1 = pc') (hv : v.category = 1) (hw : w.category = 1) (k : J X pc' lv (v :: w :: v :: w :: st) σ) : J X pc lv (v :: w :: st) σ :=
  fun H locs ls a b h => lv_dup2_11 F.1.1 F.1.2.1 d hv hw (by subst hp; exact k H locs ls a b h)
theorem j_goto (F : Fx X cc own D) {off : Int} (d : decode cc pc = .ok (.goto off, 3)) (ht : (pc : Int) + off = (pc' : Int)) (k : J X pc' lv st σ) : J X pc lv st σ :=
  fun H locs ls a b h => lv_goto F.1.1 F.1.2.1 d ht (k H locs ls a b h)
theorem j_if_eq (F : Fx X cc own D) {x : Int32} {off : Int} {tgt : Nat} (d : decode cc pc = .ok (.ifCond .eq off, 3)) (ht : (pc : Int) + off = (tgt : Int)) (hp : pc + 3 = pc') (kt : x = 0 → J X tgt lv st σ) (kf : ¬ x = 0 → J X pc' lv st σ) : J X pc lv (.int x :: st) σ :=
  fun H locs ls a b h => lv_if_eq F.1.1 F.1.2.1 d ht (fun q => kt q H locs ls a b h) (fun q => by subst hp; exact kf q H locs ls a b h)
theorem j_icmp_eq (F : Fx X cc own D) {x y : Int32} {off : Int} {tgt : Nat} (d : decode cc pc = .ok (.if_icmp .eq off, 3)) (ht : (pc : Int) + off = (tgt : Int)) (hp : pc + 3 = pc') (kt : x = y → J X tgt lv st σ) (kf : ¬ x = y → J X pc' lv st σ) : J X pc lv (.int y :: .int x :: st) σ :=
  fun H locs ls a b h => lv_icmp_eq F.1.1 F.1.2.1 d ht (fun q => kt q H locs ls a b h) (fun q => by subst hp; exact kf q H locs ls a b h)
theorem j_if_ne (F : Fx X cc own D) {x : Int32} {off : Int} {tgt : Nat} (d : decode cc pc = .ok (.ifCond .ne off, 3)) (ht : (pc : Int) + off = (tgt : Int)) (hp : pc + 3 = pc') (kt : ¬ x = 0 → J X tgt lv st σ) (kf : x = 0 → J X pc' lv st σ) : J X pc lv (.int x :: st) σ :=
  fun H locs ls a b h => lv_if_ne F.1.1 F.1.2.1 d ht (fun q => kt q H locs ls a b h) (fun q => by subst hp; exact kf q H locs ls a b h)
theorem j_icmp_ne (F : Fx X cc own D) {x y : Int32} {off : Int} {tgt : Nat} (d : decode cc pc = .ok (.if_icmp .ne off, 3)) (ht : (pc : Int) + off = (tgt : Int)) (hp : pc + 3 = pc') (kt : ¬ x = y → J X tgt lv st σ) (kf : x = y → J X pc' lv st σ) : J X pc lv (.int y :: .int x :: st) σ :=
  fun H locs ls a b h => lv_icmp_ne F.1.1 F.1.2.1 d ht (fun q => kt q H locs ls a b h) (fun q => by subst hp; exact kf q H locs ls a b h)
theorem j_if_lt (F : Fx X cc own D) {x : Int32} {off : Int} {tgt : Nat} (d : decode cc pc = .ok (.ifCond .lt off, 3)) (ht : (pc : Int) + off = (tgt : Int)) (hp : pc + 3 = pc') (kt : x < 0 → J X tgt lv st σ) (kf : ¬ x < 0 → J X pc' lv st σ) : J X pc lv (.int x :: st) σ :=
  fun H locs ls a b h => lv_if_lt F.1.1 F.1.2.1 d ht (fun q => kt q H locs ls a b h) (fun q => by subst hp; exact kf q H locs ls a b h)
theorem j_icmp_lt (F : Fx X cc own D) {x y : Int32} {off : Int} {tgt : Nat} (d : decode cc pc = .ok (.if_icmp .lt off, 3)) (ht : (pc : Int) + off = (tgt : Int)) (hp : pc + 3 = pc') (kt : x < y → J X tgt lv st σ) (kf : ¬ x < y → J X pc' lv st σ) : J X pc lv (.int y :: .int x :: st) σ :=
  fun H locs ls a b h => lv_icmp_lt F.1.1 F.1.2.1 d ht (fun q => kt q H locs ls a b h) (fun q => by subst hp; exact kf q H locs ls a b h)
theorem j_if_ge (F : Fx X cc own D) {x : Int32} {off : Int} {tgt : Nat} (d : decode cc pc = .ok (.ifCond .ge off, 3)) (ht : (pc : Int) + off = (tgt : Int)) (hp : pc + 3 = pc') (kt : 0 ≤ x → J X tgt lv st σ) (kf : ¬ 0 ≤ x → J X pc' lv st σ) : J X pc lv (.int x :: st) σ :=
  fun H locs ls a b h => lv_if_ge F.1.1 F.1.2.1 d ht (fun q => kt q H locs ls a b h) (fun q => by subst hp; exact kf q H locs ls a b h)
theorem j_icmp_ge (F : Fx X cc own D) {x y : Int32} {off : Int} {tgt : Nat} (d : decode cc pc = .ok (.if_icmp .ge off, 3)) (ht : (pc : Int) + off = (tgt : Int)) (hp : pc + 3 = pc') (kt : y ≤ x → J X tgt lv st σ) (kf : ¬ y ≤ x → J X pc' lv st σ) : J X pc lv (.int y :: .int x :: st) σ :=
  fun H locs ls a b h => lv_icmp_ge F.1.1 F.1.2.1 d ht (fun q => kt q H locs ls a b h) (fun q => by subst hp; exact kf q H locs ls a b h)
theorem j_if_gt (F : Fx X cc own D) {x : Int32} {off : Int} {tgt : Nat} (d : decode cc pc = .ok (.ifCond .gt off, 3)) (ht : (pc : Int) + off = (tgt : Int)) (hp : pc + 3 = pc') (kt : 0 < x → J X tgt lv st σ) (kf : ¬ 0 < x → J X pc' lv st σ) : J X pc lv (.int x :: st) σ :=
  fun H locs ls a b h => lv_if_gt F.1.1 F.1.2.1 d ht (fun q => kt q H locs ls a b h) (fun q => by subst hp; exact kf q H locs ls a b h)
theorem j_icmp_gt (F : Fx X cc own D) {x y : Int32} {off : Int} {tgt : Nat} (d : decode cc pc = .ok (.if_icmp .gt off, 3)) (ht : (pc : Int) + off = (tgt : Int)) (hp : pc + 3 = pc') (kt : y < x → J X tgt lv st σ) (kf : ¬ y < x → J X pc' lv st σ) : J X pc lv (.int y :: .int x :: st) σ :=
  fun H locs ls a b h => lv_icmp_gt F.1.1 F.1.2.1 d ht (fun q => kt q H locs ls a b h) (fun q => by subst hp; exact kf q H locs ls a b h)
theorem j_if_le (F : Fx X cc own D) {x : Int32} {off : Int} {tgt : Nat} (d : decode cc pc = .ok (.ifCond .le off, 3)) (ht : (pc : Int) + off = (tgt : Int)) (hp : pc + 3 = pc') (kt : x ≤ 0 → J X tgt lv st σ) (kf : ¬ x ≤ 0 → J X pc' lv st σ) : J X pc lv (.int x :: st) σ :=
  fun H locs ls a b h => lv_if_le F.1.1 F.1.2.1 d ht (fun q => kt q H locs ls a b h) (fun q => by subst hp; exact kf q H locs ls a b h)
theorem j_icmp_le (F : Fx X cc own D) {x y : Int32} {off : Int} {tgt : Nat} (d : decode cc pc = .ok (.if_icmp .le off, 3)) (ht : (pc : Int) + off = (tgt : Int)) (hp : pc + 3 = pc') (kt : x ≤ y → J X tgt lv st σ) (kf : ¬ x ≤ y → J X pc' lv st σ) : J X pc lv (.int y :: .int x :: st) σ :=
  fun H locs ls a b h => lv_icmp_le F.1.1 F.1.2.1 d ht (fun q => kt q H locs ls a b h) (fun q => by subst hp; exact kf q H locs ls a b h)
end JR
