/-! ===== a copy of a whole row, switches ===== -/
section JC
variable {X : Cx} {cc : ByteArray} {own : String} {D pc pc' : Nat} {lv lv' : List (Option Value)} {st : List Value} {σ : St}
theorem j_acopy (F : Fx X cc own D) {index k0 k1 N r0 r1 : Nat} (hlink : Cond.methodLink own index arraycopyName ∈ UW) (hnat : Cond.native arraycopyName ∈ UW) (hstat : Cond.static arraycopyName ∈ UW) (hini : Cond.initialized "java/lang/System" ∈ UW)
    (h0 : k0 < X.n) (hs0 : shpL[k0]? = some (.inl (0, N, r0))) (h1 : k1 < X.n) (hs1 : shpL[k1]? = some (.inl (0, N, r1))) (hN : N < 2147483648) (hD : 1 ≤ D) (hw : nativeFrameWords "java/lang/System" "arraycopy" 5 + 11 ≤ 36) (d : decode cc pc = .ok (.invokestatic index, 3)) (hp : pc + 3 = pc')
    (kk : J X pc' lv [] (upR σ k1 (va_cpy (σ k0) (σ k1) 0 0 N))) : J X pc lv [.int (nI N), .int (nI 0), .ref (X.E.1 + k1), .int (nI 0), .ref (X.E.1 + k0)] σ := by
  intro H locs ls hr hS hl
  subst hp
  intro T hT Y
  have hts := F.1.2.2.2.2
  have hc0 : H[X.E.1 + k0]? = some (vp_cell (X.E.2.2.2 0) (N, .inl (σ k0))) := cell_arr (by decide) (hr k0 _ h0 hs0)
  have hc1 : H[X.E.1 + k1]? = some (vp_cell (X.E.2.2.2 0) (N, .inl (σ k1))) := cell_arr (by decide) (hr k1 _ h1 hs1)
  obtain ⟨-, kA, hkA, cm0, hkk0⟩ := (F.2.1.2 0 (by decide)).1 N (fun j => .int (σ k0 j))
  have z0 : (nI 0).toNatClampNeg = 0 := nI_clamp (by decide)
  have zN : (nI N).toNatClampNeg = N := nI_clamp hN
  have i0 : (nI 0).toInt = 0 := nI_toInt (by decide)
  have iN : (nI N).toInt = (N : Int) := nI_toInt hN
  obtain ⟨vm', X', step⟩ := Y.arraycopy F.1.1 F.1.2.2.2.1 (hts _ hlink) (hts _ hnat) (hts _ hstat) (hts _ hini) (src := X.E.1 + k0) (dst := X.E.1 + k1) (cs := vp_cell (X.E.2.2.2 0) (N, .inl (σ k0))) (cd := vp_cell (X.E.2.2.2 0) (N, .inl (σ k1))) (srcPos := nI 0) (destPos := nI 0) (n := nI N) (by rw [hT]; exact hc0) (by rw [hT]; exact hc1)
    (fun _ h => by cases h) (fun _ h => by cases h) (fun h => by cases h) (fun h => by cases h) hkA hkA hkk0 hkk0 (by decide) (nI_pos (by decide)) (nI_pos (by decide)) (nI_pos hN)
    (by rw [i0, iN]; show ¬ _ > ((arrV _ N (fun j => .int (σ k0 j))).slots.size : Int); rw [arrV_size]; omega)
    (by rw [i0, iN]; show ¬ _ > ((arrV _ N (fun j => .int (σ k1 j))).slots.size : Int); rw [arrV_size]; omega)
    (fun vm₁ _ i hi => by
      have e : (vp_cell (X.E.2.2.2 0) (N, .inl (σ k0))).slots.getD ((nI 0).toNatClampNeg + i) .null = .int (σ k0 ((nI 0).toNatClampNeg + i)) := by
        show (arrV (X.E.2.2.2 0) N (fun j => .int (σ k0 j))).slots.getD _ _ = _
        rw [Array.getD_eq_getD_getElem?, arrV_read _ _ (by rw [z0]; omega)]
        rfl
      refine ⟨?_, ?_⟩
      · rw [e]
        rfl
      · rw [e]
        exact trivial)
    (g := F0 X.m pc ls [.int (nI N), .int (nI 0), .ref (X.E.1 + k1), .int (nI 0), .ref (X.E.1 + k0)]) rfl (by rw [F.1.2.2.1]; exact hl.1) (rest := []) rfl (by rw [F.1.2.1]; exact d) (by have := F.2.2.1; omega) (by have := F.2.2.2; show 2 * 0 + 0 + _ ≤ _; omega)
  have e1 : copied (vp_cell (X.E.2.2.2 0) (N, .inl (σ k0))) (vp_cell (X.E.2.2.2 0) (N, .inl (σ k1))) (nI 0) (nI 0) (nI N) = vp_cell (X.E.2.2.2 0) (N, .inl (va_cpy (σ k0) (σ k1) (nI 0).toNatClampNeg (nI 0).toNatClampNeg (nI N).toNatClampNeg)) := va_copied (fun z => .int z) _ _ (σ k0) (σ k1) (by rw [z0, zN]; omega)
  rw [z0, zN] at e1
  rw [e1] at X' step
  have hlt : X.E.1 + k1 < H.size := (Array.getElem?_eq_some_iff.mp hc1).1
  have hheap : ((T.setVm vm').setCell (X.E.1 + k1) (vp_cell (X.E.2.2.2 0) (N, .inl (va_cpy (σ k0) (σ k1) 0 0 N)))).heap = H.setIfInBounds (X.E.1 + k1) (vp_cell (X.E.2.2.2 0) (N, .inl (va_cpy (σ k0) (σ k1) 0 0 N))) := by rw [← hT]; rfl
  have oq : ∀ q : Nat, q ≠ X.E.1 + k1 → (H.setIfInBounds (X.E.1 + k1) (vp_cell (X.E.2.2.2 0) (N, .inl (va_cpy (σ k0) (σ k1) 0 0 N))))[q]? = H[q]? := fun q hq => by simp [Array.getElem?_setIfInBounds, Ne.symm hq]
  obtain ⟨t, a1, b1⟩ := kk _ _ ls (hr.row hs1 (arr_cell (by decide) (show (H.setIfInBounds (X.E.1 + k1) _)[X.E.1 + k1]? = some _ by simp [Array.getElem?_setIfInBounds, hlt]; rfl)) oq) ⟨by simp; exact hS.1, fun q g1 g2 => by
      rw [oq q (fun e => g2 (by rw [e]; exact Nat.le_add_right _ _))]
      exact hS.2.1 q g1 g2, fun q hq => by
      rcases List.mem_append.mp hq with h | h
      · exact hS.2.2 q h
      · obtain ⟨z, -, hz⟩ := List.mem_map.mp h
        rw [← hz]
        exact Nat.le_add_right _ _⟩ hl _ hheap X'
  exact ⟨t, step t a1, b1⟩
/-- fewer locals are listed -/
def sbL (lv lv' : List (Option Value)) : Prop := ∀ q ∈ asL 0 lv', q ∈ asL 0 lv
theorem j_lv {lv lv' : List (Option Value)} (h : sbL lv lv') (k : J X pc lv' st σ) : J X pc lv st σ := fun H locs ls a b hl => k H locs ls a b (has_sub hl h)
theorem sbl {lv lv' : List (Option Value)} {ks : List Nat} (h : lv_pick (asL 0 lv) ks = asL 0 lv') : sbL lv lv' := fun q hq => by
  rw [← h] at hq
  obtain ⟨k, -, hk⟩ := List.mem_filterMap.mp hq
  exact List.mem_of_getElem? hk
theorem j_lookup (F : Fx X cc own D) {dflt : Int} {ps : Array (Int × Int)} {len : Nat} {x : Int32} {off : Int} {tgt : Nat} (d : decode cc pc = .ok (.lookupswitch dflt ps, len)) (hp : (ps.toList.zip (ps.toList.drop 1)).all (fun (a, next) => a.1 < next.1) = true) (ho : Op.lookupswitch.offset ps.toList dflt x.toInt = off) (ht : (pc : Int) + off = (tgt : Int)) (k : J X tgt lv st σ) : J X pc lv (.int x :: st) σ :=
  fun H locs ls a b h => lv_lookup F.1.1 F.1.2.1 d hp ho ht (k H locs ls a b h)
theorem j_tableOut (F : Fx X cc own D) {dflt lo hi : Int} {offs : Array Int} {len : Nat} {x : Int32} {tgt : Nat} (d : decode cc pc = .ok (.tableswitch dflt lo hi offs, len)) (hx : x.toInt < lo ∨ hi < x.toInt) (ht : (pc : Int) + dflt = (tgt : Int)) (k : J X tgt lv st σ) : J X pc lv (.int x :: st) σ :=
  fun H locs ls a b h => lv_tableOut F.1.1 F.1.2.1 d hx ht (k H locs ls a b h)
theorem j_tableIn (F : Fx X cc own D) {dflt lo hi : Int} {offs : Array Int} {len : Nat} {x : Int32} {off : Int} {tgt : Nat} (d : decode cc pc = .ok (.tableswitch dflt lo hi offs, len)) (h1 : ¬ x.toInt < lo) (h2 : ¬ hi < x.toInt) (ho : offs[(x.toInt - lo).toNat]? = some off) (ht : (pc : Int) + off = (tgt : Int)) (k : J X tgt lv st σ) : J X pc lv (.int x :: st) σ :=
  fun H locs ls a b h => lv_tableIn F.1.1 F.1.2.1 d h1 h2 ho ht (k H locs ls a b h)
end JC
