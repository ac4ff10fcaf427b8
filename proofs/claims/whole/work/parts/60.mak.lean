/-! ===== objects that are being made: cells by their contents, counted from the heap's size ===== -/
abbrev Cn : Type := Nat → va_E
def RpN (n : Nat) (E : Ev) (ct : Cn) (H : Heap) : Prop := H.size = E.1 + n ∧ ∀ k, k < n → va_at (E.2.1, E.2.2.1) vwCl (E.1 + k, ct k) H
def cset (ct : Cn) (k : Nat) (v : va_E) : Cn := fun a => if a = k then v else ct a
theorem cset_s (ct : Cn) (k : Nat) (v : va_E) : cset ct k v k = v := if_pos rfl
theorem cset_n (ct : Cn) {k a : Nat} (v : va_E) (h : a ≠ k) : cset ct k v a = ct a := if_neg h
def WN (X : Cx) (kc ks : Nat) (H : Heap) (locs : List Loc) (pc : Nat) (ls : Array Slot) (st : List Value) : Prop := W X.p X.l X.e X.R X.s X.m X.args X.below X.meth X.c H locs kc ks X.Q (F0 X.m pc ls st)
def JN (X : Cx) (kc ks pc : Nat) (lv : List (Option Value)) (st : List Value) (n : Nat) (ct : Cn) : Prop := ∀ (H : Heap) (locs : List Loc) (ls : Array Slot), RpN n X.E ct H → va_S (fun q => X.E.1 ≤ q) X.s.heap H locs → lv_has ls X.nL (asL 0 lv) → WN X kc ks H locs pc ls st
theorem RpN.push {n : Nat} {E : Ev} {ct : Cn} {H H1 : Heap} {v : va_E} (h : RpN n E ct H) (hz : H1.size = E.1 + n + 1) (ho : ∀ q, q < E.1 + n → H1[q]? = H[q]?) (hv : va_at (E.2.1, E.2.2.1) vwCl (E.1 + n, v) H1) : RpN (n + 1) E (cset ct n v) H1 := by
  refine ⟨by omega, fun k hk => ?_⟩
  by_cases q : k = n
  · subst q
    rw [cset_s]
    exact hv
  · rw [cset_n _ _ q]
    exact (h.2 k (by omega)).kept (ho _ (by show E.1 + k < E.1 + n; omega))
theorem RpN.set {n k : Nat} {E : Ev} {ct : Cn} {H H1 : Heap} {v : va_E} (h : RpN n E ct H) (hz : H1.size = H.size) (ho : ∀ q, q ≠ E.1 + k → H1[q]? = H[q]?) (hv : va_at (E.2.1, E.2.2.1) vwCl (E.1 + k, v) H1) : RpN n E (cset ct k v) H1 := by
  refine ⟨hz.trans h.1, fun j hj => ?_⟩
  by_cases q : j = k
  · subst q
    rw [cset_s]
    exact hv
  · rw [cset_n _ _ q]
    exact (h.2 j hj).kept (ho _ (by show E.1 + j ≠ E.1 + k; omega))
theorem va_S_push {E : Ev} {n : Nat} {H0 H H1 : Heap} {locs : List Loc} {ct : Cn} (h : RpN n E ct H) (hS : va_S (fun q => E.1 ≤ q) H0 H locs) (hz : H1.size = E.1 + n + 1) (ho : ∀ q, q < E.1 + n → H1[q]? = H[q]?) : va_S (fun q => E.1 ≤ q) H0 H1 locs :=
  ⟨Nat.le_trans hS.1 (by rw [h.1]; omega), fun x h1 h2 => (ho x (by have := hS.1; rw [h.1] at this; omega)).trans (hS.2.1 x h1 h2), hS.2.2⟩
section JNS
variable {X : Cx} {cc : ByteArray} {own : String} {D kc ks pc pc' n : Nat} {lv lv' : List (Option Value)} {st : List Value} {ct : Cn}
theorem jn_iconst (F : Fx X cc own D) {z : Int} {v : Int32} (d : decode cc pc = .ok (.iconst z, 1)) (hp : pc + 1 = pc') (hv : Int32.ofInt z = v) (k : JN X kc ks pc' lv (.int v :: st) n ct) : JN X kc ks pc lv st n ct :=
  fun H locs ls a b h => lv_iconst F.1.1 F.1.2.1 d hv (by subst hp; exact k H locs ls a b h)
theorem jn_bipush (F : Fx X cc own D) {z : Int} {v : Int32} (d : decode cc pc = .ok (.bipush z, 2)) (hp : pc + 2 = pc') (hv : (Int8.ofInt z).toInt32 = v) (k : JN X kc ks pc' lv (.int v :: st) n ct) : JN X kc ks pc lv st n ct :=
  fun H locs ls a b h => lv_bipush F.1.1 F.1.2.1 d hv (by subst hp; exact k H locs ls a b h)
theorem jn_sipush (F : Fx X cc own D) {z : Int} {v : Int32} (d : decode cc pc = .ok (.sipush z, 3)) (hp : pc + 3 = pc') (hv : (Int16.ofInt z).toInt32 = v) (k : JN X kc ks pc' lv (.int v :: st) n ct) : JN X kc ks pc lv st n ct :=
  fun H locs ls a b h => lv_sipush F.1.1 F.1.2.1 d hv (by subst hp; exact k H locs ls a b h)
theorem jn_iload_n (F : Fx X cc own D) {i : Fin 4} {x : Int32} (d : decode cc pc = .ok (.iload_n i, 1)) (hp : pc + 1 = pc') (hi : lv[(i : Nat)]? = some (some (.int x))) (k : JN X kc ks pc' lv (.int x :: st) n ct) : JN X kc ks pc lv st n ct :=
  fun H locs ls a b h => lv_iload_n F.1.1 F.1.2.1 d rfl (has_at h hi) (by subst hp; exact k H locs ls a b h)
theorem jn_aload_n (F : Fx X cc own D) {i : Fin 4} {x : Nat} (d : decode cc pc = .ok (.aload_n i, 1)) (hp : pc + 1 = pc') (hi : lv[(i : Nat)]? = some (some (.ref x))) (k : JN X kc ks pc' lv (.ref x :: st) n ct) : JN X kc ks pc lv st n ct :=
  fun H locs ls a b h => lv_aload_n F.1.1 F.1.2.1 d rfl (has_at h hi) (by subst hp; exact k H locs ls a b h)
theorem jn_dup (F : Fx X cc own D) {v : Value} (d : decode cc pc = .ok (.dup, 1)) (hp : pc + 1 = pc') (hv : v.category = 1) (k : JN X kc ks pc' lv (v :: v :: st) n ct) : JN X kc ks pc lv (v :: st) n ct :=
  fun H locs ls a b h => lv_dup F.1.1 F.1.2.1 d hv (by subst hp; exact k H locs ls a b h)
theorem jn_goto (F : Fx X cc own D) {off : Int} (d : decode cc pc = .ok (.goto off, 3)) (ht : (pc : Int) + off = (pc' : Int)) (k : JN X kc ks pc' lv st n ct) : JN X kc ks pc lv st n ct :=
  fun H locs ls a b h => lv_goto F.1.1 F.1.2.1 d ht (k H locs ls a b h)
theorem jn_new (F : Fx X cc own D) {C : String} {T : u_T} {N ci index : Nat} (ty : Nat → FieldType) (hty : ∀ k, k < N → parseFieldDescriptor (T k).2.2.1 = some (ty k)) (hc : vwCl[ci]? = some (C, T, N)) (hin : ∀ w ∈ u_ws C T N, w ∈ UW) (hcl : (Cond.classLink own index C).before X.args X.s = true) (hinst : (Cond.instantiable C N).before X.args X.s = true) (hini : (Cond.initialized C).before X.args X.s = true) {fs : List Value} (hfs : ∀ k, k < N → defaultValue (ty k) = vp_V fs k) (hcells : kc + 1 ≤ X.R.cells) (hslots : ks + N ≤ X.R.slots) (d : decode cc pc = .ok (.new index, 3)) (hp : pc + 3 = pc') (k : JN X (kc + 1) (ks + N) pc' lv (.ref (X.E.1 + n) :: st) (n + 1) (cset ct n (.inr (ci, fs)))) : JN X kc ks pc lv st n ct := by
  intro H locs ls a b h
  subst hp
  have hKn := F.2.1.1.1 ci _ hc
  refine W.newcK F.1.1 F.1.2.1 F.1.2.2.2.1 hcl hinst hini rfl d hcells hslots hKn.2.1 a.1 fun H1 kC hkC e1 z1 o1 => ?_
  exact k H1 locs ls (a.push z1 o1 ⟨_, hc, (u_born ty F.1.2.2.2.2 hin hKn hkC e1 hty).to hfs⟩) (va_S_push a b z1 o1) h
theorem jn_newa (F : Fx X cc own D) {atype : ArrayType} (t : Nat) (ht : t < 3) (hat : newarray.typeOf atype = tyK t) (harr : (Cond.arrayClass (newarray.typeOf atype)).before X.args X.s = true) {v : Int32} {N : Nat} (hn : ¬ v < 0) (hN : v.toNatClampNeg = N) (hbytes : N * componentBytes (newarray.typeOf atype) ≤ 536870912) (hcells : kc + 1 ≤ X.R.cells) (hslots : ks + N ≤ X.R.slots) (d : decode cc pc = .ok (.newarray atype, 2)) (hp : pc + 2 = pc') (k : JN X (kc + 1) (ks + N) pc' lv (.ref (X.E.1 + n) :: st) (n + 1) (cset ct n (.inl (X.E.2.2.2 t, N, .inl (fun _ => 0))))) : JN X kc ks pc lv (.int v :: st) n ct := by
  intro H locs ls a b h
  subst hp
  refine va_newaK F.1.1 F.1.2.1 harr rfl d rfl hn hN hbytes hcells hslots a.1 fun H1 cA e1 z1 o1 hAr hNm => ?_
  have hcA : cA = X.E.2.2.2 t := by
    have hq := (F.2.1.2 t (by omega)).2
    rw [hat] at hNm
    rcases (show t = 0 ∨ t = 1 ∨ t = 2 by omega) with rfl | rfl | rfl
    · exact Option.some.inj (hNm.symm.trans hq)
    · exact Option.some.inj (hNm.symm.trans hq)
    · exact Option.some.inj (hNm.symm.trans hq)
  have hdf : defaultValue (newarray.typeOf atype) = .int 0 := by
    rw [hat]
    rcases (show t = 0 ∨ t = 1 ∨ t = 2 by omega) with rfl | rfl | rfl
    · rfl
    · rfl
    · rfl
  refine k H1 locs ls (a.push z1 o1 ?_) (va_S_push a b z1 o1) h
  show H1[X.E.1 + n]? = some (vp_cell (X.E.2.2.2 t) (N, .inl (fun _ => 0)))
  rw [vp_cell_i, ← hcA, e1, hdf]
theorem jn_putF (F : Fx X cc own D) (hin2 : X.meth.name = "<init>") {C : String} {T : u_T} {N ci k i index : Nat} {fs : List Value} {v : Value} {ty : FieldType} (ty0 : Nat → FieldType) (hty : ∀ k, k < N → parseFieldDescriptor (T k).2.2.1 = some (ty0 k)) (hnm : ∀ a, a < N → ∀ b, b < N → a ≠ b → (T a).2.1 ≠ (T b).2.1) (hc : vwCl[ci]? = some (C, T, N)) (hin : ∀ w ∈ u_ws C T N, w ∈ UW) (hi : i < N) (hfin : (T i).2.2.2 = true) (hdecl : (T i).1 = own) (hd : parseFieldDescriptor (T i).2.2.1 = some ty) (hnw : narrow ty v = v) (hfit : fits ty v = true) (hw : Cond.fieldLink own index (T i).1 (T i).2.1 (T i).2.2.1 ∈ UW) (hk : k < n) (hct : ct k = .inr (ci, fs)) (hl : i < fs.length) (d : decode cc pc = .ok (.putfield index, 3)) (hp : pc + 3 = pc') (kk : JN X kc ks pc' lv st n (cset ct k (.inr (ci, fs.set i v)))) : JN X kc ks pc lv (v :: .ref (X.E.1 + k) :: st) n ct := by
  intro H locs ls a b h
  subst hp
  have hts := F.1.2.2.2.2
  have hap := va_apart (own := own) hts hin ty0 hty hnm F.2.1.1 hc
  have hcell := a.2 k hk
  rw [hct] at hcell
  obtain ⟨r, h1, cell, q1, q2, q3, q4⟩ := hcell
  have hr : r = (C, T, N) := Option.some.inj (h1.symm.trans hc)
  subst hr
  obtain ⟨hS, hfc, kC, hkC, hkind⟩ := F.2.1.1.1 ci _ hc
  obtain ⟨cf, kf, fi, f, hfi, hsl⟩ := hS i hi
  have hlay := hts _ (hin _ (u_in_lay hi))
  unfold u_lay at hlay
  rw [if_pos hfin] at hlay
  have hst := (u_facts hfc hkC (u_lays hts hin hi) hfi).1
  have hcf : X.m.cls = cf := by
    obtain ⟨_, _, c', _, _, _, -, -, hf', -, -, -, hown2, -⟩ := Cond.laysFinal_spec hlay
    have e1 : c' = cf := by have := hfi.symm.trans hf'; simp at this; exact this.1.symm
    rw [hdecl] at hown2
    rw [← e1]; exact Option.some.inj (F.1.2.2.2.1.symm.trans hown2)
  have h6 := u_fits hfc hkC hkind (Or.inr hlay) hfi hd hnw hfit
  refine W.putFinK F.1.1 F.1.2.1 F.1.2.2.2.1 (hts _ hw) hfi hst hcf hin2 (by rw [q2]; exact h6) q1 q3 (by rw [hsl]; exact k2_hasslot (q4 i hi)) rfl rfl d fun H' e1 e2 e3 => ?_
  rw [hsl] at e1 ⊢
  exact kk H' _ ls (a.set e2 e3 ⟨_, hc, t_OB.to (V := updV (vp_V fs) i v) ⟨_, e1, q2, q3, t_set q4 hap hi v⟩ (fun j _ => vp_updV_set hl v j)⟩) (b.put e2 e3 (Nat.le_add_right _ _)) h
end JNS
