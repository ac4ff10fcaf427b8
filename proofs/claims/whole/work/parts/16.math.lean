theorem wm_ca : Cond.code Lib.Math.abs.name Lib.Math.abs.code 1 (some .int) ∈ UW := uw_i 458 (by decide +kernel) (by decide +kernel)
theorem wm_cm : Cond.code Lib.Math.min.name Lib.Math.min.code 2 (some .int) ∈ UW := uw_i 342 (by decide +kernel) (by decide +kernel)
theorem wm_sa : Cond.static Lib.Math.abs.name ∈ UW := uw_i 457 (by decide +kernel) (by decide +kernel)
theorem wm_sm : Cond.static Lib.Math.min.name ∈ UW := uw_i 341 (by decide +kernel) (by decide +kernel)
theorem wm_i : Cond.initialized "java/lang/Math" ∈ UW := uw_i 52 (by decide +kernel) (by decide +kernel)
theorem wm_la : Cond.methodLink RX3 65 Lib.Math.abs.name ∈ UW := uw_i 456 (by decide +kernel) (by decide +kernel)
theorem wm_lm : Cond.methodLink RX1 29 Lib.Math.min.name ∈ UW := uw_i 340 (by decide +kernel) (by decide +kernel)
theorem abs_z {a : Int} {A : Nat} (ha : bd a A) (hA : A < 2147483648) : (if 0 ≤ iI a then iI a else 0 - iI a) = nI a.natAbs := by
  rw [nI_iI]
  by_cases h : 0 ≤ a
  · rw [if_pos ((iI_ge0 ha hA).mpr h)]; congr 1; omega
  · rw [if_neg (fun q => h ((iI_ge0 ha hA).mp q)), iI_0, show iI 0 - iI a = iI (0 - a) from (Int32.ofInt_sub 0 a).symm]; congr 1; omega
theorem min_n {a b : Nat} (ha : a < 2147483648) (hb : b < 2147483648) : (if nI b < nI a then nI b else nI a) = nI (min a b) := by
  by_cases h : b < a
  · rw [if_pos ((nI_ltI hb ha).mpr h)]; congr 1; omega
  · rw [if_neg (fun q => h ((nI_ltI hb ha).mp q))]; congr 1; omega
theorem j_mabs {X : Cx} {cc : ByteArray} {D pc pc' : Nat} {lv : List (Option Value)} {st : List Value} {σ : St} (F : Fx X cc RX3 D) {a : Int} {A : Nat} {x : Int32} (hx : x = iI a) (ha : bd a A) (hA : A < 2147483648) (hD : 1 ≤ D) (hrm : (st.map fun v => v.category).sum ≤ 8) (d : decode cc pc = .ok (.invokestatic 65, 3)) (hp : pc + 3 = pc') (k : J X pc' lv (.int (nI a.natAbs) :: st) σ) : J X pc lv (.int x :: st) σ := by
  intro H locs ls h1 h2 h3
  subst hp hx
  have f1 := F.2.2.1
  have f2 := F.2.2.2
  refine va_mabs F.1.1 F.1.2.1 (by rw [F.1.2.2.1]; exact h3.1.symm) F.1.2.2.2.1 (F.1.2.2.2.2 _ wm_la) (F.1.2.2.2.2 _ wm_sa) (F.1.2.2.2.2 _ wm_i) (F.1.2.2.2.2 _ wm_ca) (by omega) (by omega) (Nat.zero_le _) (Nat.zero_le _) d ?_
  rw [abs_z ha hA]
  exact k H locs ls h1 h2 h3
theorem j_mmin {X : Cx} {cc : ByteArray} {D pc pc' : Nat} {lv : List (Option Value)} {st : List Value} {σ : St} (F : Fx X cc RX1 D) {a b : Nat} (ha : a < 2147483648) (hb : b < 2147483648) (hD : 1 ≤ D) (hrm : (st.map fun v => v.category).sum ≤ 8) (d : decode cc pc = .ok (.invokestatic 29, 3)) (hp : pc + 3 = pc') (k : J X pc' lv (.int (nI (min a b)) :: st) σ) : J X pc lv (.int (nI b) :: .int (nI a) :: st) σ := by
  intro H locs ls h1 h2 h3
  subst hp
  have f1 := F.2.2.1
  have f2 := F.2.2.2
  refine va_mmin F.1.1 F.1.2.1 (by rw [F.1.2.2.1]; exact h3.1.symm) F.1.2.2.2.1 (F.1.2.2.2.2 _ wm_lm) (F.1.2.2.2.2 _ wm_sm) (F.1.2.2.2.2 _ wm_i) (F.1.2.2.2.2 _ wm_cm) (by omega) (by omega) (Nat.zero_le _) (Nat.zero_le _) d ?_
  rw [min_n ha hb]
  exact k H locs ls h1 h2 h3
