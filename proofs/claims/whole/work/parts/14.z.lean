/-! ===== rows with signed numbers ===== -/
def iI (z : Int) : Int32 := Int32.ofInt z
theorem nI_iI (k : Nat) : nI k = iI (k : Int) := (Int32.ofInt_eq_ofNat).symm
def bd (z : Int) (A : Nat) : Prop := -(A : Int) ≤ z ∧ z ≤ (A : Int)
theorem bd_n {k A : Nat} (h : k ≤ A) : bd (k : Int) A := ⟨by omega, by omega⟩
theorem bd_add {a b : Int} {A B : Nat} (ha : bd a A) (hb : bd b B) : bd (a + b) (A + B) := ⟨by have := ha.1; have := hb.1; omega, by have := ha.2; have := hb.2; omega⟩
theorem bd_sub {a b : Int} {A B : Nat} (ha : bd a A) (hb : bd b B) : bd (a - b) (A + B) := ⟨by have := ha.1; have := hb.2; omega, by have := ha.2; have := hb.1; omega⟩
theorem bd_neg {a : Int} {A : Nat} (ha : bd a A) : bd (-a) A := ⟨by have := ha.2; omega, by have := ha.1; omega⟩
theorem bd_abs {a : Int} {A : Nat} (ha : bd a A) : bd (a.natAbs : Int) A := ⟨by omega, by have := ha.1; have := ha.2; omega⟩
theorem bd_na {a : Int} {A : Nat} : bd a A ↔ a.natAbs ≤ A := ⟨fun h => by have := h.1; have := h.2; omega, fun h => ⟨by omega, by omega⟩⟩
theorem bd_mul {a b : Int} {A B : Nat} (ha : bd a A) (hb : bd b B) : bd (a * b) (A * B) := by
  rw [bd_na, Int.natAbs_mul]
  exact Nat.mul_le_mul (bd_na.mp ha) (bd_na.mp hb)
theorem bd_mono {a : Int} {A B : Nat} (ha : bd a A) (h : A ≤ B) : bd a B := ⟨by have := ha.1; omega, by have := ha.2; omega⟩
theorem iI_t {a : Int} {A : Nat} (ha : bd a A) (hA : A < 2147483648) : (iI a).toInt = a := Int32.toInt_ofInt_of_le (by have := ha.1; omega) (by have := ha.2; omega)
theorem iI_e {a b : Int} {A B : Nat} (ha : bd a A) (hb : bd b B) (hA : A < 2147483648) (hB : B < 2147483648) : iI a = iI b ↔ a = b := by rw [fa_eq, iI_t ha hA, iI_t hb hB]
theorem iI_lt {a b : Int} {A B : Nat} (ha : bd a A) (hb : bd b B) (hA : A < 2147483648) (hB : B < 2147483648) : iI a < iI b ↔ a < b := by rw [fa_lt, iI_t ha hA, iI_t hb hB]
theorem iI_le {a b : Int} {A B : Nat} (ha : bd a A) (hb : bd b B) (hA : A < 2147483648) (hB : B < 2147483648) : iI a ≤ iI b ↔ a ≤ b := by rw [fa_le, iI_t ha hA, iI_t hb hB]
theorem iI_0 : (0 : Int32) = iI 0 := by decide
theorem bd_0 : bd 0 0 := ⟨by decide, by decide⟩
theorem iI_e0 {a : Int} {A : Nat} (ha : bd a A) (hA : A < 2147483648) : iI a = 0 ↔ a = 0 := by rw [iI_0]; exact iI_e ha bd_0 hA (by decide)
theorem iI_lt0 {a : Int} {A : Nat} (ha : bd a A) (hA : A < 2147483648) : iI a < 0 ↔ a < 0 := by rw [iI_0]; exact iI_lt ha bd_0 hA (by decide)
theorem iI_ge0 {a : Int} {A : Nat} (ha : bd a A) (hA : A < 2147483648) : 0 ≤ iI a ↔ 0 ≤ a := by rw [iI_0]; exact iI_le bd_0 ha (by decide) hA
theorem iI_gt0 {a : Int} {A : Nat} (ha : bd a A) (hA : A < 2147483648) : 0 < iI a ↔ 0 < a := by rw [iI_0]; exact iI_lt bd_0 ha (by decide) hA
theorem iI_le0 {a : Int} {A : Nat} (ha : bd a A) (hA : A < 2147483648) : iI a ≤ 0 ↔ a ≤ 0 := by rw [iI_0]; exact iI_le ha bd_0 hA (by decide)
theorem iI_m9 : (-9 : Int32) = iI (-9) := by decide
theorem bd_m9 : bd (-9) 9 := ⟨by decide, by decide⟩
theorem iI_m1 : (-1 : Int32) = iI (-1) := by decide
theorem bd_m1 : bd (-1) 1 := ⟨by decide, by decide⟩
section JZ
variable {X : Cx} {cc : ByteArray} {own : String} {D pc pc' : Nat} {lv lv' : List (Option Value)} {st : List Value} {σ : St}
theorem j_iaddZ (F : Fx X cc own D) {x y : Int32} {a b : Int} (hx : x = iI a) (hy : y = iI b) (d : decode cc pc = .ok (.iadd, 1)) (hp : pc + 1 = pc') (k : J X pc' lv (.int (iI (a + b)) :: st) σ) : J X pc lv (.int y :: .int x :: st) σ := j_iadd F d hp (j_int (by rw [hx, hy]; exact (Int32.ofInt_add a b).symm) k)
theorem j_isubZ (F : Fx X cc own D) {x y : Int32} {a b : Int} (hx : x = iI a) (hy : y = iI b) (d : decode cc pc = .ok (.isub, 1)) (hp : pc + 1 = pc') (k : J X pc' lv (.int (iI (a - b)) :: st) σ) : J X pc lv (.int y :: .int x :: st) σ := j_isub F d hp (j_int (by rw [hx, hy]; exact (Int32.ofInt_sub a b).symm) k)
theorem j_imulZ (F : Fx X cc own D) {x y : Int32} {a b : Int} (hx : x = iI a) (hy : y = iI b) (d : decode cc pc = .ok (.imul, 1)) (hp : pc + 1 = pc') (k : J X pc' lv (.int (iI (a * b)) :: st) σ) : J X pc lv (.int y :: .int x :: st) σ := j_imul F d hp (j_int (by rw [hx, hy]; exact (Int32.ofInt_mul a b).symm) k)
theorem j_inegZ (F : Fx X cc own D) {x : Int32} {a : Int} (hx : x = iI a) (d : decode cc pc = .ok (.ineg, 1)) (hp : pc + 1 = pc') (k : J X pc' lv (.int (iI (-a)) :: st) σ) : J X pc lv (.int x :: st) σ := j_ineg F d hp (j_int (by rw [hx]; exact (Int32.ofInt_neg a).symm) k)
theorem j_idivZ (F : Fx X cc own D) {x y : Int32} {a b : Int} {A B : Nat} (hx : x = iI a) (hy : y = iI b) (ra : bd a A) (rb : bd b B) (hA : A < 2147483648) (hB : B < 2147483648) (h0 : ¬ b = 0) (d : decode cc pc = .ok (.idiv, 1)) (hp : pc + 1 = pc') (k : J X pc' lv (.int (iI (a.tdiv b)) :: st) σ) : J X pc lv (.int y :: .int x :: st) σ := j_idiv F d hp (by rw [hy, iI_e0 rb hB]; exact h0) (j_int (by rw [hx, hy]; exact (Int32.ofInt_tdiv (by have := ra.1; show (-2147483648 : Int) ≤ a; omega) (by have := ra.2; show a ≤ (2147483647 : Int); omega) (by have := rb.1; show (-2147483648 : Int) ≤ b; omega) (by have := rb.2; show b ≤ (2147483647 : Int); omega)).symm) k)
theorem j_icmp_eqZ (F : Fx X cc own D) {x y : Int32} {a b : Int} {A B : Nat} (hx : x = iI a) (hy : y = iI b) (ra : bd a A) (rb : bd b B) (hA : A < 2147483648) (hB : B < 2147483648) {off : Int} {tgt : Nat} (d : decode cc pc = .ok (.if_icmp .eq off, 3)) (ht : (pc : Int) + off = (tgt : Int)) (hp : pc + 3 = pc') (kt : a = b → J X tgt lv st σ) (kf : ¬ a = b → J X pc' lv st σ) : J X pc lv (.int y :: .int x :: st) σ := by
  subst hx hy
  exact j_icmp_eq F d ht hp (fun h => kt ((iI_e ra rb hA hB).mp h)) (fun h => kf (fun q => h ((iI_e ra rb hA hB).mpr q)))
theorem j_icmp_neZ (F : Fx X cc own D) {x y : Int32} {a b : Int} {A B : Nat} (hx : x = iI a) (hy : y = iI b) (ra : bd a A) (rb : bd b B) (hA : A < 2147483648) (hB : B < 2147483648) {off : Int} {tgt : Nat} (d : decode cc pc = .ok (.if_icmp .ne off, 3)) (ht : (pc : Int) + off = (tgt : Int)) (hp : pc + 3 = pc') (kt : ¬ a = b → J X tgt lv st σ) (kf : a = b → J X pc' lv st σ) : J X pc lv (.int y :: .int x :: st) σ := by
  subst hx hy
  exact j_icmp_ne F d ht hp (fun h => kt (fun q => h ((iI_e ra rb hA hB).mpr q))) (fun h => kf ((iI_e ra rb hA hB).mp h))
theorem j_icmp_ltZ (F : Fx X cc own D) {x y : Int32} {a b : Int} {A B : Nat} (hx : x = iI a) (hy : y = iI b) (ra : bd a A) (rb : bd b B) (hA : A < 2147483648) (hB : B < 2147483648) {off : Int} {tgt : Nat} (d : decode cc pc = .ok (.if_icmp .lt off, 3)) (ht : (pc : Int) + off = (tgt : Int)) (hp : pc + 3 = pc') (kt : a < b → J X tgt lv st σ) (kf : b ≤ a → J X pc' lv st σ) : J X pc lv (.int y :: .int x :: st) σ := by
  subst hx hy
  exact j_icmp_lt F d ht hp (fun h => kt ((iI_lt ra rb hA hB).mp h)) (fun h => kf (Int.not_lt.mp (fun q => h ((iI_lt ra rb hA hB).mpr q))))
theorem j_icmp_geZ (F : Fx X cc own D) {x y : Int32} {a b : Int} {A B : Nat} (hx : x = iI a) (hy : y = iI b) (ra : bd a A) (rb : bd b B) (hA : A < 2147483648) (hB : B < 2147483648) {off : Int} {tgt : Nat} (d : decode cc pc = .ok (.if_icmp .ge off, 3)) (ht : (pc : Int) + off = (tgt : Int)) (hp : pc + 3 = pc') (kt : b ≤ a → J X tgt lv st σ) (kf : a < b → J X pc' lv st σ) : J X pc lv (.int y :: .int x :: st) σ := by
  subst hx hy
  exact j_icmp_ge F d ht hp (fun h => kt ((iI_le rb ra hB hA).mp h)) (fun h => kf (Int.not_le.mp (fun q => h ((iI_le rb ra hB hA).mpr q))))
theorem j_icmp_gtZ (F : Fx X cc own D) {x y : Int32} {a b : Int} {A B : Nat} (hx : x = iI a) (hy : y = iI b) (ra : bd a A) (rb : bd b B) (hA : A < 2147483648) (hB : B < 2147483648) {off : Int} {tgt : Nat} (d : decode cc pc = .ok (.if_icmp .gt off, 3)) (ht : (pc : Int) + off = (tgt : Int)) (hp : pc + 3 = pc') (kt : b < a → J X tgt lv st σ) (kf : a ≤ b → J X pc' lv st σ) : J X pc lv (.int y :: .int x :: st) σ := by
  subst hx hy
  exact j_icmp_gt F d ht hp (fun h => kt ((iI_lt rb ra hB hA).mp h)) (fun h => kf (Int.not_lt.mp (fun q => h ((iI_lt rb ra hB hA).mpr q))))
theorem j_icmp_leZ (F : Fx X cc own D) {x y : Int32} {a b : Int} {A B : Nat} (hx : x = iI a) (hy : y = iI b) (ra : bd a A) (rb : bd b B) (hA : A < 2147483648) (hB : B < 2147483648) {off : Int} {tgt : Nat} (d : decode cc pc = .ok (.if_icmp .le off, 3)) (ht : (pc : Int) + off = (tgt : Int)) (hp : pc + 3 = pc') (kt : a ≤ b → J X tgt lv st σ) (kf : b < a → J X pc' lv st σ) : J X pc lv (.int y :: .int x :: st) σ := by
  subst hx hy
  exact j_icmp_le F d ht hp (fun h => kt ((iI_le ra rb hA hB).mp h)) (fun h => kf (Int.not_le.mp (fun q => h ((iI_le ra rb hA hB).mpr q))))
theorem j_if_eqZ (F : Fx X cc own D) {x : Int32} {a : Int} {A : Nat} (hx : x = iI a) (ra : bd a A) (hA : A < 2147483648) {off : Int} {tgt : Nat} (d : decode cc pc = .ok (.ifCond .eq off, 3)) (ht : (pc : Int) + off = (tgt : Int)) (hp : pc + 3 = pc') (kt : a = 0 → J X tgt lv st σ) (kf : ¬ a = 0 → J X pc' lv st σ) : J X pc lv (.int x :: st) σ := by
  subst hx
  exact j_if_eq F d ht hp (fun h => kt ((iI_e0 ra hA).mp h)) (fun h => kf (fun q => h ((iI_e0 ra hA).mpr q)))
theorem j_if_neZ (F : Fx X cc own D) {x : Int32} {a : Int} {A : Nat} (hx : x = iI a) (ra : bd a A) (hA : A < 2147483648) {off : Int} {tgt : Nat} (d : decode cc pc = .ok (.ifCond .ne off, 3)) (ht : (pc : Int) + off = (tgt : Int)) (hp : pc + 3 = pc') (kt : ¬ a = 0 → J X tgt lv st σ) (kf : a = 0 → J X pc' lv st σ) : J X pc lv (.int x :: st) σ := by
  subst hx
  exact j_if_ne F d ht hp (fun h => kt (fun q => h ((iI_e0 ra hA).mpr q))) (fun h => kf ((iI_e0 ra hA).mp h))
theorem j_if_ltZ (F : Fx X cc own D) {x : Int32} {a : Int} {A : Nat} (hx : x = iI a) (ra : bd a A) (hA : A < 2147483648) {off : Int} {tgt : Nat} (d : decode cc pc = .ok (.ifCond .lt off, 3)) (ht : (pc : Int) + off = (tgt : Int)) (hp : pc + 3 = pc') (kt : a < 0 → J X tgt lv st σ) (kf : 0 ≤ a → J X pc' lv st σ) : J X pc lv (.int x :: st) σ := by
  subst hx
  exact j_if_lt F d ht hp (fun h => kt ((iI_lt0 ra hA).mp h)) (fun h => kf (Int.not_lt.mp (fun q => h ((iI_lt0 ra hA).mpr q))))
theorem j_if_geZ (F : Fx X cc own D) {x : Int32} {a : Int} {A : Nat} (hx : x = iI a) (ra : bd a A) (hA : A < 2147483648) {off : Int} {tgt : Nat} (d : decode cc pc = .ok (.ifCond .ge off, 3)) (ht : (pc : Int) + off = (tgt : Int)) (hp : pc + 3 = pc') (kt : 0 ≤ a → J X tgt lv st σ) (kf : a < 0 → J X pc' lv st σ) : J X pc lv (.int x :: st) σ := by
  subst hx
  exact j_if_ge F d ht hp (fun h => kt ((iI_ge0 ra hA).mp h)) (fun h => kf (Int.not_le.mp (fun q => h ((iI_ge0 ra hA).mpr q))))
theorem j_if_gtZ (F : Fx X cc own D) {x : Int32} {a : Int} {A : Nat} (hx : x = iI a) (ra : bd a A) (hA : A < 2147483648) {off : Int} {tgt : Nat} (d : decode cc pc = .ok (.ifCond .gt off, 3)) (ht : (pc : Int) + off = (tgt : Int)) (hp : pc + 3 = pc') (kt : 0 < a → J X tgt lv st σ) (kf : a ≤ 0 → J X pc' lv st σ) : J X pc lv (.int x :: st) σ := by
  subst hx
  exact j_if_gt F d ht hp (fun h => kt ((iI_gt0 ra hA).mp h)) (fun h => kf (Int.not_lt.mp (fun q => h ((iI_gt0 ra hA).mpr q))))
theorem j_if_leZ (F : Fx X cc own D) {x : Int32} {a : Int} {A : Nat} (hx : x = iI a) (ra : bd a A) (hA : A < 2147483648) {off : Int} {tgt : Nat} (d : decode cc pc = .ok (.ifCond .le off, 3)) (ht : (pc : Int) + off = (tgt : Int)) (hp : pc + 3 = pc') (kt : a ≤ 0 → J X tgt lv st σ) (kf : 0 < a → J X pc' lv st σ) : J X pc lv (.int x :: st) σ := by
  subst hx
  exact j_if_le F d ht hp (fun h => kt ((iI_le0 ra hA).mp h)) (fun h => kf (Int.not_le.mp (fun q => h ((iI_le0 ra hA).mpr q))))
end JZ
