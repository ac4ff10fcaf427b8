/-! ===== rows of the heap, calls, returns ===== -/
theorem sl_int {b : Nat} {f : Nat → Int32} : ∀ {ds : List (Option Nat)} {i j : Nat}, ds[j]? = some none → (sl b f i ds)[j]? = some (.int (f (i + j)))
  | [], _, _, h => by simp at h
  | none :: r, i, 0, _ => rfl
  | some a :: r, i, 0, h => by simp at h
  | none :: r, i, j + 1, h => by
    show (sl b f (i + 1) r)[j]? = _
    rw [sl_int (ds := r) (i := i + 1) (j := j) h, show i + 1 + j = i + (j + 1) by omega]
  | some a :: r, i, j + 1, h => by
    show (sl b f (i + 1) r)[j]? = _
    rw [sl_int (ds := r) (i := i + 1) (j := j) h, show i + 1 + j = i + (j + 1) by omega]
theorem sl_ref {b : Nat} {f : Nat → Int32} : ∀ {ds : List (Option Nat)} {i j a : Nat}, ds[j]? = some (some a) → (sl b f i ds)[j]? = some (.ref (b + a))
  | [], _, _, _, h => by simp at h
  | none :: r, i, 0, _, h => by simp at h
  | some c :: r, i, 0, a, h => by
    simp at h
    subst h
    rfl
  | none :: r, i, j + 1, _, h => sl_ref (ds := r) (i := i + 1) (j := j) h
  | some _ :: r, i, j + 1, _, h => sl_ref (ds := r) (i := i + 1) (j := j) h
theorem sl_far {b : Nat} {f : Nat → Int32} {v : Int32} : ∀ {ds : List (Option Nat)} {i j : Nat}, j < i → sl b f i ds = sl b (upd f j v) i ds
  | [], _, _, _ => rfl
  | none :: r, i, j, h => by
    show _ :: _ = _ :: _
    rw [upd_n f v (show i ≠ j by omega), sl_far (ds := r) (i := i + 1) (j := j) (by omega)]
  | some a :: r, i, j, h => by
    show _ :: _ = _ :: _
    rw [sl_far (ds := r) (i := i + 1) (j := j) (by omega)]
theorem sl_upd {b : Nat} {f : Nat → Int32} {v : Int32} : ∀ {ds : List (Option Nat)} {i j : Nat}, ds[j]? = some none → (sl b f i ds).set j (.int v) = sl b (upd f (i + j) v) i ds
  | [], _, _, h => by simp at h
  | none :: r, i, 0, _ => by
    show Value.int v :: _ = Value.int (upd f i v i) :: sl b (upd f i v) (i + 1) r
    rw [upd_s]
    congr 1
    exact sl_far (by omega)
  | some a :: r, i, 0, h => by simp at h
  | none :: r, i, j + 1, h => by
    show _ :: (sl b f (i + 1) r).set j _ = _ :: _
    rw [sl_upd (ds := r) (i := i + 1) (j := j) h, show i + 1 + j = i + (j + 1) by omega, upd_n _ _ (show i ≠ i + (j + 1) by omega)]
  | some a :: r, i, j + 1, h => by
    show _ :: (sl b f (i + 1) r).set j _ = _ :: _
    rw [sl_upd (ds := r) (i := i + 1) (j := j) h, show i + 1 + j = i + (j + 1) by omega]
theorem sl_len {b : Nat} {f : Nat → Int32} : ∀ {ds : List (Option Nat)} {i : Nat}, (sl b f i ds).length = ds.length
  | [], _ => rfl
  | none :: r, i => by show (sl b f (i + 1) r).length + 1 = _; rw [sl_len]; rfl
  | some _ :: r, i => by show (sl b f (i + 1) r).length + 1 = _; rw [sl_len]; rfl
theorem Rep.row {n : Nat} {E : Ev} {σ : St} {H H1 : Heap} (h : Rep n E σ H) {k : Nat} {s : Shp} {g : Nat → Int32} (hs : shpL[k]? = some s) (hc : cellAt E g k s H1) (oq : ∀ q : Nat, q ≠ E.1 + k → H1[q]? = H[q]?) : Rep n E (upR σ k g) H1 := by
  intro j s' hj hs'
  by_cases he : j = k
  · subst he
    rw [hs] at hs'
    cases hs'
    rw [upR_s]
    exact hc
  · rw [upR_n σ g he]
    exact (h j s' hj hs').kept (oq _ (by show E.1 + j ≠ E.1 + k; omega))
def vwN (ci : Nat) (C : String) (T : u_T) (N : Nat) : Prop := vwCl[ci]? = some (C, T, N)
section JH
variable {X : Cx} {cc : ByteArray} {own : String} {D pc pc' : Nat} {lv lv' : List (Option Value)} {st : List Value} {σ : St}
theorem j_getV (F : Fx X cc own D) {C : String} {T : u_T} {N ci k i index : Nat} {ds : List (Option Nat)} {v : Value} (hc : vwCl[ci]? = some (C, T, N)) (hin : ∀ w ∈ u_ws C T N, w ∈ UW) (hi : i < N) (hw : Cond.fieldLink own index (T i).1 (T i).2.1 (T i).2.2.1 ∈ UW) (hk : k < X.n) (hs : shpL[k]? = some (.inr (ci, ds))) (hv : (sl X.E.1 (σ k) 0 ds)[i]? = some v) (d : decode cc pc = .ok (.getfield index, 3)) (hp : pc + 3 = pc') (kk : J X pc' lv (v :: st) σ) : J X pc lv (.ref (X.E.1 + k) :: st) σ := by
  intro H locs ls a b h
  have hP : va_P (X.E.2.1, X.E.2.2.1) vwCl [(X.E.1 + k, .inr (ci, sl X.E.1 (σ k) 0 ds))] H := fun q x hx => by
    have hz : q < 1 := (List.getElem?_eq_some_iff.mp hx).1
    rw [show q = 0 by omega] at hx
    cases hx
    exact a k _ hk hs
  subst hp
  exact va_get F.1.1 F.1.2.1 F.1.2.2.2.2 hin F.1.2.2.2.1 F.2.1.1 hP 0 rfl hc i hi (F.1.2.2.2.2 _ hw) (fun _ h9 => h9) hv d (kk H locs ls a b h)
theorem j_getI (F : Fx X cc own D) {C : String} {T : u_T} {N ci k i index : Nat} {ds : List (Option Nat)} (hc : vwCl[ci]? = some (C, T, N)) (hin : ∀ w ∈ u_ws C T N, w ∈ UW) (hi : i < N) (hw : Cond.fieldLink own index (T i).1 (T i).2.1 (T i).2.2.1 ∈ UW) (hk : k < X.n) (hs : shpL[k]? = some (.inr (ci, ds))) (hv : ds[i]? = some none) (d : decode cc pc = .ok (.getfield index, 3)) (hp : pc + 3 = pc') (kk : J X pc' lv (.int (σ k i) :: st) σ) : J X pc lv (.ref (X.E.1 + k) :: st) σ :=
  j_getV F hc hin hi hw hk hs (by rw [sl_int hv, Nat.zero_add]) d hp kk
theorem j_getR (F : Fx X cc own D) {C : String} {T : u_T} {N ci k i r index : Nat} {ds : List (Option Nat)} (hc : vwCl[ci]? = some (C, T, N)) (hin : ∀ w ∈ u_ws C T N, w ∈ UW) (hi : i < N) (hw : Cond.fieldLink own index (T i).1 (T i).2.1 (T i).2.2.1 ∈ UW) (hk : k < X.n) (hs : shpL[k]? = some (.inr (ci, ds))) (hv : ds[i]? = some (some r)) (d : decode cc pc = .ok (.getfield index, 3)) (hp : pc + 3 = pc') (kk : J X pc' lv (.ref (X.E.1 + r) :: st) σ) : J X pc lv (.ref (X.E.1 + k) :: st) σ :=
  j_getV F hc hin hi hw hk hs (sl_ref hv) d hp kk
theorem j_putI (F : Fx X cc own D) {C : String} {T : u_T} {N ci k i index : Nat} {ds : List (Option Nat)} {v : Int32} (ty0 : Nat → FieldType) (hty : ∀ k, k < N → parseFieldDescriptor (T k).2.2.1 = some (ty0 k)) (hnm : ∀ a, a < N → ∀ b, b < N → a ≠ b → (T a).2.1 ≠ (T b).2.1) (hc : vwCl[ci]? = some (C, T, N)) (hin : ∀ w ∈ u_ws C T N, w ∈ UW) (hi : i < N) (hfin : (T i).2.2.2 = false) (hd : parseFieldDescriptor (T i).2.2.1 = some .int) (hw : Cond.fieldLink own index (T i).1 (T i).2.1 (T i).2.2.1 ∈ UW) (hk : k < X.n) (hs : shpL[k]? = some (.inr (ci, ds))) (hv : ds[i]? = some none) (d : decode cc pc = .ok (.putfield index, 3)) (hp : pc + 3 = pc') (kk : J X pc' lv st (up σ k i v)) : J X pc lv (.int v :: .ref (X.E.1 + k) :: st) σ := by
  intro H locs ls a b h
  subst hp
  have hts := F.1.2.2.2.2
  have hap := va_apart (own := own) hts hin ty0 hty hnm F.2.1.1 hc
  obtain ⟨r, h1, cell, q1, q2, q3, q4⟩ := a k _ hk hs
  have hr : r = (C, T, N) := Option.some.inj (h1.symm.trans hc)
  subst hr
  obtain ⟨hS, hfc, kC, hkC, hkind⟩ := F.2.1.1.1 ci _ hc
  obtain ⟨cf, kf, fi, f, hfi, hsl⟩ := hS i hi
  have hlay := hts _ (hin _ (u_in_lay hi))
  unfold u_lay at hlay
  rw [if_neg (by rw [hfin]; decide)] at hlay
  have hst := (u_facts hfc hkC (u_lays hts hin hi) hfi).1
  have h6 := u_store hfc hkC hkind hlay hfi hd (v := .int v) rfl rfl
  refine W.putK F.1.1 F.1.2.1 (f := f) ⟨F.1.2.2.2.1, hts _ hw, ⟨_, _, _, hfi⟩, hst⟩ (by rw [q2]; exact h6) q1 q3 (by rw [hsl]; exact k2_hasslot (q4 i hi)) rfl rfl d fun H' e1 e2 e3 => ?_
  rw [hsl] at e1 ⊢
  refine kk H' _ ls (a.row hs ?_ e3) (b.put e2 e3 (Nat.le_add_right _ _)) h
  refine ⟨_, hc, t_OB.to (V := updV (vp_V (sl X.E.1 (σ k) 0 ds)) i (.int v)) ⟨_, e1, q2, q3, t_set q4 hap hi _⟩ (fun j _ => ?_)⟩
  rw [vp_updV_set (by rw [sl_len]; exact (List.getElem?_eq_some_iff.mp hv).1), sl_upd hv, Nat.zero_add]
theorem in_nI {a N : Nat} (h : a < N) (hN : N < 2 ^ 31) (cA : ClassId) (z : Nat → Value) : ¬ (nI a < 0 ∨ (arrV cA N z).slots.size ≤ (nI a).toNatClampNeg) := by
  rw [arrV_size]; exact nI_in h hN
theorem at_nI {a N : Nat} (h : a < N) (hN : N < 2 ^ 31) (cA : ClassId) (z : Nat → Value) : (arrV cA N z).slots[(nI a).toNatClampNeg]? = some (z a) := by
  rw [nI_clamp (by omega), arrV_read _ _ h]
theorem cell_arr {E : Ev} {f : Nat → Int32} {k t N r : Nat} {H : Heap} (ht : t < 3) (h : cellAt E f k (.inl (t, N, r)) H) : H[E.1 + k]? = some (arrV (E.2.2.2 t) N (fun j => .int (f j))) := by
  unfold cellAt contS at h
  simp only [if_pos ht] at h
  exact h
theorem arr_cell {E : Ev} {f : Nat → Int32} {k t N r : Nat} {H : Heap} (ht : t < 3) (h : H[E.1 + k]? = some (arrV (E.2.2.2 t) N (fun j => .int (f j)))) : cellAt E f k (.inl (t, N, r)) H := by
  unfold cellAt contS
  simp only [if_pos ht]
  exact h
theorem cell_ref {E : Ev} {f : Nat → Int32} {k N r : Nat} {H : Heap} (h : cellAt E f k (.inl (3, N, r)) H) : H[E.1 + k]? = some (arrV (E.2.2.2 3) N (fun j => .ref (E.1 + (r + 3 * j)))) := by
  exact h
theorem j_iaload (F : Fx X cc own D) {k N r a : Nat} {i : Int32} (hk : k < X.n) (hs : shpL[k]? = some (.inl (0, N, r))) (hi : i = nI a) (ha : a < N) (hN : N < 2 ^ 31) (d : decode cc pc = .ok (.iaload, 1)) (hp : pc + 1 = pc') (kk : J X pc' lv (.int (σ k a) :: st) σ) : J X pc lv (.int i :: .ref (X.E.1 + k) :: st) σ := by
  intro H locs ls h1 h2 h3
  subst hp hi
  exact W.iald F.1.1 F.1.2.1 (cell_arr (by decide) (h1 k _ hk hs)) ((F.2.1.2 0 (by decide)).1 N _) (fun q => by cases q) (in_nI ha hN _ _) (at_nI ha hN _ _) rfl rfl d (kk H locs ls h1 h2 h3)
theorem j_caload (F : Fx X cc own D) {k N r a : Nat} {i : Int32} (hk : k < X.n) (hs : shpL[k]? = some (.inl (1, N, r))) (hi : i = nI a) (ha : a < N) (hN : N < 2 ^ 31) (d : decode cc pc = .ok (.caload, 1)) (hp : pc + 1 = pc') (kk : J X pc' lv (.int (σ k a) :: st) σ) : J X pc lv (.int i :: .ref (X.E.1 + k) :: st) σ := by
  intro H locs ls h1 h2 h3
  subst hp hi
  exact W.cald F.1.1 F.1.2.1 (cell_arr (by decide) (h1 k _ hk hs)) ((F.2.1.2 1 (by decide)).1 N _) (fun q => by cases q) (in_nI ha hN _ _) (at_nI ha hN _ _) rfl rfl d (kk H locs ls h1 h2 h3)
theorem j_baload (F : Fx X cc own D) {k N r a : Nat} {i : Int32} (hk : k < X.n) (hs : shpL[k]? = some (.inl (2, N, r))) (hi : i = nI a) (ha : a < N) (hN : N < 2 ^ 31) (d : decode cc pc = .ok (.baload, 1)) (hp : pc + 1 = pc') (kk : J X pc' lv (.int (σ k a) :: st) σ) : J X pc lv (.int i :: .ref (X.E.1 + k) :: st) σ := by
  intro H locs ls h1 h2 h3
  subst hp hi
  exact W.zald F.1.1 F.1.2.1 (cell_arr (by decide) (h1 k _ hk hs)) ((F.2.1.2 2 (by decide)).1 N _) (fun q => by cases q) (in_nI ha hN _ _) (at_nI ha hN _ _) rfl rfl d (kk H locs ls h1 h2 h3)
theorem j_aaload (F : Fx X cc own D) {k N r a : Nat} {i : Int32} (hk : k < X.n) (hs : shpL[k]? = some (.inl (3, N, r))) (hi : i = nI a) (ha : a < N) (hN : N < 2 ^ 31) (d : decode cc pc = .ok (.aaload, 1)) (hp : pc + 1 = pc') (kk : J X pc' lv (.ref (X.E.1 + (r + 3 * a)) :: st) σ) : J X pc lv (.int i :: .ref (X.E.1 + k) :: st) σ := by
  intro H locs ls h1 h2 h3
  subst hp hi
  exact W.aald (ty := .object "LampPlans$Plan") F.1.1 F.1.2.1 (cell_ref (h1 k _ hk hs)) ((F.2.1.2 3 (by decide)).1 N _) rfl (fun q => by cases q) (in_nI ha hN _ _) (at_nI ha hN _ _) rfl rfl d (kk H locs ls h1 h2 h3)
theorem j_alen (F : Fx X cc own D) {k t N r : Nat} (ht : t < 3) (hk : k < X.n) (hs : shpL[k]? = some (.inl (t, N, r))) (d : decode cc pc = .ok (.arraylength, 1)) (hp : pc + 1 = pc') (kk : J X pc' lv (.int (nI N) :: st) σ) : J X pc lv (.ref (X.E.1 + k) :: st) σ := by
  intro H locs ls h1 h2 h3
  subst hp
  exact W.alen (n := nI N) F.1.1 F.1.2.1 (cell_arr ht (h1 k _ hk hs)) ((F.2.1.2 t (by omega)).1 N _) (by rw [arrV_size]; rfl) rfl rfl d (kk H locs ls h1 h2 h3)
theorem j_iastore (F : Fx X cc own D) {k N r a : Nat} {i x : Int32} (hk : k < X.n) (hs : shpL[k]? = some (.inl (0, N, r))) (hi : i = nI a) (ha : a < N) (hN : N < 2 ^ 31) (d : decode cc pc = .ok (.iastore, 1)) (hp : pc + 1 = pc') (kk : J X pc' lv st (up σ k a x)) : J X pc lv (.int x :: .int i :: .ref (X.E.1 + k) :: st) σ := by
  intro H locs ls h1 h2 h3
  subst hp hi
  refine W.iast F.1.1 F.1.2.1 (cell_arr (by decide) (h1 k _ hk hs)) ((F.2.1.2 0 (by decide)).1 N _) (fun q => by cases q) (in_nI ha hN _ _) rfl rfl d (fun H1 e z oq => ?_)
  refine kk H1 _ ls (h1.row hs (arr_cell (by decide) ?_) oq) (h2.put z oq (Nat.le_add_right _ _)) h3
  rw [e, nI_clamp (by omega), arrV_store]
  congr 2
  funext q
  by_cases hq : q = a
  · subst hq
    simp [updV, upd]
  · simp [updV, upd, hq]
theorem j_castore (F : Fx X cc own D) {k N r a : Nat} {i x : Int32} (hk : k < X.n) (hs : shpL[k]? = some (.inl (1, N, r))) (hi : i = nI a) (ha : a < N) (hN : N < 2 ^ 31) (hx : narrow .char (.int x) = .int x) (d : decode cc pc = .ok (.castore, 1)) (hp : pc + 1 = pc') (kk : J X pc' lv st (up σ k a x)) : J X pc lv (.int x :: .int i :: .ref (X.E.1 + k) :: st) σ := by
  intro H locs ls h1 h2 h3
  subst hp hi
  refine W.cast F.1.1 F.1.2.1 (cell_arr (by decide) (h1 k _ hk hs)) ((F.2.1.2 1 (by decide)).1 N _) (fun q => by cases q) (in_nI ha hN _ _) rfl rfl d (fun H1 e z oq => ?_)
  refine kk H1 _ ls (h1.row hs (arr_cell (by decide) ?_) oq) (h2.put z oq (Nat.le_add_right _ _)) h3
  rw [e, nI_clamp (by omega), arrV_store, hx]
  congr 2
  funext q
  by_cases hq : q = a
  · subst hq
    simp [updV, upd]
  · simp [updV, upd, hq]
theorem j_bastore (F : Fx X cc own D) {k N r a : Nat} {i x : Int32} (hk : k < X.n) (hs : shpL[k]? = some (.inl (2, N, r))) (hi : i = nI a) (ha : a < N) (hN : N < 2 ^ 31) (hx : narrow .boolean (.int x) = .int x) (d : decode cc pc = .ok (.bastore, 1)) (hp : pc + 1 = pc') (kk : J X pc' lv st (up σ k a x)) : J X pc lv (.int x :: .int i :: .ref (X.E.1 + k) :: st) σ := by
  intro H locs ls h1 h2 h3
  subst hp hi
  refine W.zast F.1.1 F.1.2.1 (cell_arr (by decide) (h1 k _ hk hs)) ((F.2.1.2 2 (by decide)).1 N _) (fun q => by cases q) (in_nI ha hN _ _) rfl rfl d (fun H1 e z oq => ?_)
  refine kk H1 _ ls (h1.row hs (arr_cell (by decide) ?_) oq) (h2.put z oq (Nat.le_add_right _ _)) h3
  rw [e, nI_clamp (by omega), arrV_store, hx]
  congr 2
  funext q
  by_cases hq : q = a
  · subst hq
    simp [updV, upd]
  · simp [updV, upd, hq]
/-! returns -/
theorem j_iret (F : Fx X cc own D) {ty : FieldType} {Po : Option Value → St → Prop} {v : Int32} (hR : Rt X (some ty) Po) (hn : narrow ty (.int v) = .int v) (hv : Po (some (.int v)) σ) (d : decode cc pc = .ok (.ireturn, 1)) : J X pc lv [.int v] σ := by
  intro H locs ls h1 h2 h3
  unfold WX
  rw [hR.2.2]
  exact W.zret F.1.1 F.1.2.1 hR.1 hn (fun t ht hW => ⟨⟨_, _, rfl, hv, by rw [ht]; exact h1, KK.moved hW.alike F.2.1⟩, h2.F ht⟩) h2.2.2 d hR.2.1
theorem j_vret (F : Fx X cc own D) {Po : Option Value → St → Prop} (hR : Rt X none Po) (hv : Po none σ) (d : decode cc pc = .ok (.return_, 1)) : J X pc lv [] σ := by
  intro H locs ls h1 h2 h3
  unfold WX
  rw [hR.2.2]
  exact W.vret F.1.1 F.1.2.1 hR.1 (fun t ht hW => ⟨⟨_, _, rfl, hv, by rw [ht]; exact h1, KK.moved hW.alike F.2.1⟩, h2.F ht⟩) h2.2.2 d hR.2.1
/-! calls -/
theorem uw_good {c0 : Cond} (h : c0 ∈ UW) : GoodIn UW (c0 :: UW) := fun w hw => by
  have hm : w ∈ UW := by
    rcases List.mem_cons.mp hw with rfl | hw
    · exact h
    · exact hw
  exact ⟨hm, good_of_word (List.mem_filter.mp hm).2⟩
theorem wd_blind {n : Nat} {E : Ev} {av : List Value} {σ : St} : FrameBlind (va_Pc av (Wd n E σ)) := fun a U g mk q => ⟨q.1, q.2.1, KK.moved (u := U) (U := U.calling g mk a) (Vm.Alike.refl U.vm) q.2.2⟩
theorem j_run {st0 rest : List Value} {Po : Option Value → St → Prop} {a : Array Value} {H : Heap} {locs : List Loc} {ls : Array Slot} (hr : va_Run X.p X.l X.e X.R X.s X.m X.args X.below X.meth X.c H locs 0 0 0 0 (F0 X.m pc ls st0) rest (Qp X.n X.E Po a) (fun q => X.E.1 ≤ q)) (hS : va_S (fun q => X.E.1 ≤ q) X.s.heap H locs) (hl : lv_has ls X.nL (asL 0 lv))
    (kk : ∀ (v : Option Value) (σ' : St), Po v σ' → J X (pc + 3) lv (v.toList ++ rest) σ') : WX X H locs pc ls st0 := by
  intro T hT Y
  obtain ⟨v, st₀, t, T', L, h0, Y', hL, e1, e2, ⟨⟨v', σ', hv, hp, hw⟩, hz, hk⟩, st⟩ := hr T hT Y
  cases hv
  rw [h0] at hz hk
  obtain ⟨t2, a1, b1⟩ := kk v σ' hp T'.heap (locs ++ L) ls (by rw [e1]; exact hw.1)
    ⟨Nat.le_trans hS.1 (by rw [e1]; exact hz), fun q h1 h2 => by rw [e1, hk q (Nat.lt_of_lt_of_le h1 hS.1) h2]; exact hS.2.1 q h1 h2, fun q hq => by
      rcases List.mem_append.mp hq with h | h
      · exact hS.2.2 q h
      · exact hL q h⟩ hl T' rfl Y'
  exact ⟨t2, st t2 a1, b1⟩
theorem cb_u {R : Room} {s : State} {args : Array Value} {index nn maxL d : Nat} {y : MethodName} {bytes : ByteArray} {ret : Option FieldType} (hts : ∀ w ∈ UW, w.before args s = true) (hcode : Cond.code y bytes maxL ret ∈ UW) (hini : Cond.initialized y.cls ∈ UW) (hl : Cond.methodLink own index y ∈ UW)
    (hd : y.cls ≠ "java/lang/invoke/MethodHandle" ∧ y.cls ≠ "java/lang/invoke/VarHandle" ∧ (parseMethodDescriptor y.desc).map (fun d => d.parameters.length) = some nn) (hm : maxL ≤ 17) (hD : d < D) (h1 : D ≤ R.frames) (h2 : 36 * D ≤ R.locals) : CallB R s args own index y bytes maxL ret (Cond.code y bytes maxL ret :: UW) (rmL d) 0 0 nn :=
  callB_of nn hts (uw_good hcode) rfl rfl rfl (hts _ hini) (hts _ hl) hd ⟨by show d + 1 ≤ _; omega, by show 8 + (maxL + 11) + 36 * d ≤ _; omega⟩
theorem j_callV (F : Fx X cc own D) {C : String} {index nn maxL d k : Nat} {y : MethodName} {bytes : ByteArray} {ret : Option FieldType} {As rest : List Value} {Po : Option Value → St → Prop} {ci : Nat} {T : u_T} {N : Nat} {ds : List (Option Nat)}
    (hM : Ct X.l y bytes maxL ret d X.n X.E (.ref (X.E.1 + k) :: As) σ Po) (hcode : Cond.code y bytes maxL ret ∈ UW) (hini : Cond.initialized y.cls ∈ UW) (hl : Cond.methodLink own index y ∈ UW) (hin : Cond.instanceMethod y ∈ UW) (hse : Cond.selects C y y ∈ UW)
    (hd : y.cls ≠ "java/lang/invoke/MethodHandle" ∧ y.cls ≠ "java/lang/invoke/VarHandle" ∧ (parseMethodDescriptor y.desc).map (fun d => d.parameters.length) = some nn) (hm : maxL ≤ 17) (hc : vwCl[ci]? = some (C, T, N)) (hD : d < D) (hk : k < X.n) (hs : shpL[k]? = some (.inr (ci, ds))) (hn : As.length = nn) (hst : st = As.reverse ++ .ref (X.E.1 + k) :: rest) (hrm : (rest.map fun v => v.category).sum ≤ 8) (dd : decode cc pc = .ok (.invokevirtual index, 3)) (hp : pc + 3 = pc')
    (kk : ∀ (v : Option Value) (σ' : St), Po v σ' → J X pc' lv (v.toList ++ rest) σ') : J X pc lv st σ := by
  intro H locs ls h1 h2 h3
  subst hp hst
  refine j_run (va_runV (C := C) (b := X.E.1 + k) (As := As) (rest := rest) F.1 hM ⟨cb_u F.1.2.2.2.2 hcode hini hl hd hm hD F.2.2.1 F.2.2.2, F.1.2.2.2.2 _ hin, F.1.2.2.2.2 _ hse⟩ ⟨wd_blind, ?_, fun U hU hW => ⟨rfl, by rw [hU]; exact h1, KK.moved hW.alike F.2.1⟩⟩ rfl hn h3.1 rfl (lv_room hrm) dd ⟨Nat.zero_le _, Nat.zero_le _⟩) h2 h3 kk
  obtain ⟨r, g0, cell, g1, g2, g3, -⟩ := h1 k _ hk hs
  have hr : r = (C, T, N) := Option.some.inj (g0.symm.trans hc)
  subst hr
  exact ⟨cell, g1, by rw [g3]; rfl, by rw [g2]; exact (F.2.1.1.1 ci _ hc).2.1⟩
theorem j_callS (F : Fx X cc own D) {index nn maxL d : Nat} {y : MethodName} {bytes : ByteArray} {ret : Option FieldType} {As rest : List Value} {Po : Option Value → St → Prop}
    (hM : Ct X.l y bytes maxL ret d X.n X.E As σ Po) (hcode : Cond.code y bytes maxL ret ∈ UW) (hini : Cond.initialized y.cls ∈ UW) (hl : Cond.methodLink own index y ∈ UW) (hin : Cond.static y ∈ UW)
    (hd : y.cls ≠ "java/lang/invoke/MethodHandle" ∧ y.cls ≠ "java/lang/invoke/VarHandle" ∧ (parseMethodDescriptor y.desc).map (fun d => d.parameters.length) = some nn) (hm : maxL ≤ 17) (hD : d < D) (hn : As.length = nn) (hst : st = As.reverse ++ rest) (hrm : (rest.map fun v => v.category).sum ≤ 8) (dd : decode cc pc = .ok (.invokestatic index, 3)) (hp : pc + 3 = pc')
    (kk : ∀ (v : Option Value) (σ' : St), Po v σ' → J X pc' lv (v.toList ++ rest) σ') : J X pc lv st σ := by
  intro H locs ls h1 h2 h3
  subst hp hst
  exact j_run (va_runS (As := As) (rest := rest) F.1 hM ⟨cb_u F.1.2.2.2.2 hcode hini hl hd hm hD F.2.2.1 F.2.2.2, F.1.2.2.2.2 _ hin⟩ ⟨wd_blind, fun U hU hW => ⟨rfl, by rw [hU]; exact h1, KK.moved hW.alike F.2.1⟩⟩ rfl hn h3.1 rfl (lv_room hrm) dd ⟨Nat.zero_le _, Nat.zero_le _⟩) h2 h3 kk
end JH
