section JN5
variable {X : Cx} {cc : ByteArray} {own : String} {D kc ks pc pc' n : Nat} {lv lv' : List (Option Value)} {st : List Value} {ct : Cn}
theorem jn_getV (F : Fx X cc own D) {C : String} {T : u_T} {N ci k i index : Nat} {fs : List Value} {v : Value} (hc : vwCl[ci]? = some (C, T, N)) (hin : ∀ w ∈ u_ws C T N, w ∈ UW) (hi : i < N) (hw : Cond.fieldLink own index (T i).1 (T i).2.1 (T i).2.2.1 ∈ UW) (hk : k < n) (hct : ct k = .inr (ci, fs)) (hv : fs[i]? = some v) (d : decode cc pc = .ok (.getfield index, 3)) (hp : pc + 3 = pc') (kk : JN X kc ks pc' lv (v :: st) n ct) : JN X kc ks pc lv (.ref (X.E.1 + k) :: st) n ct := by
  intro H locs ls a b h
  have hP : va_P (X.E.2.1, X.E.2.2.1) vwCl [(X.E.1 + k, .inr (ci, fs))] H := fun q x hx => by
    have hz : q < 1 := (List.getElem?_eq_some_iff.mp hx).1
    rw [show q = 0 by omega] at hx
    cases hx
    have z := a.2 k hk
    rw [hct] at z
    exact z
  subst hp
  exact va_get F.1.1 F.1.2.1 F.1.2.2.2.2 hin F.1.2.2.2.1 F.2.1.1 hP 0 rfl hc i hi (F.1.2.2.2.2 _ hw) (fun _ h9 => h9) hv d (kk H locs ls a b h)
theorem jn_istore_n (F : Fx X cc own D) {i : Fin 4} {x : Int32} (d : decode cc pc = .ok (.istore_n i, 1)) (hp : pc + 1 = pc') (hn : (i : Nat) < X.nL) (hc : ct1 lv = true) (hl : lv.set (i : Nat) (some (.int x)) = lv') (k : JN X kc ks pc' lv' st n ct) : JN X kc ks pc lv (.int x :: st) n ct :=
  fun H locs ls a b h => lv_istore_n F.1.1 F.1.2.1 d rfl h hn rfl (fun ls' h' => by subst hp; exact k H locs ls' a b (has_sub h' (by rw [← hl]; exact asL_set hc)))
theorem jn_iinc (F : Fx X cc own D) {i : Nat} {z : Int} {x v : Int32} (d : decode cc pc = .ok (.iinc i z, 3)) (hp : pc + 3 = pc') (hi : lv[i]? = some (some (.int x))) (hv : x + Int32.ofInt z = v) (hn : i < X.nL) (hc : ct1 lv = true) (hl : lv.set i (some (.int v)) = lv') (k : JN X kc ks pc' lv' st n ct) : JN X kc ks pc lv st n ct := by
  intro H locs ls a b h
  obtain ⟨j, hj⟩ := List.getElem?_of_mem ((asL_mem lv 0 (i, .int x)).mpr ⟨Nat.zero_le _, by rw [Nat.sub_zero]; exact hi⟩)
  exact lv_iinc F.1.1 F.1.2.1 d h hj hv hn rfl (fun ls' h' => by subst hp; exact k H locs ls' a b (has_sub h' (by rw [← hl]; exact asL_set hc)))
theorem jn_icmp_ge (F : Fx X cc own D) {x y : Int32} {off : Int} {tgt : Nat} (d : decode cc pc = .ok (.if_icmp .ge off, 3)) (ht : (pc : Int) + off = (tgt : Int)) (hp : pc + 3 = pc') (kt : y ≤ x → JN X kc ks tgt lv st n ct) (kf : ¬ y ≤ x → JN X kc ks pc' lv st n ct) : JN X kc ks pc lv (.int y :: .int x :: st) n ct :=
  fun H locs ls a b h => lv_icmp_ge F.1.1 F.1.2.1 d ht (fun q => kt q H locs ls a b h) (fun q => by subst hp; exact kf q H locs ls a b h)
end JN5
