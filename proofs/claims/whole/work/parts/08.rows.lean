def bI (b : Bool) : Int32 := if b = true then nI 1 else nI 0
theorem bI_t : bI true = nI 1 := rfl
theorem bI_f : bI false = nI 0 := rfl
theorem bI_0 (b : Bool) : bI b = 0 ↔ b = false := by cases b <;> decide
theorem bI_nar (b : Bool) : narrow .boolean (.int (bI b)) = .int (bI b) := by cases b <;> rfl
theorem nI_e {a b : Nat} (ha : a < 2147483648) (hb : b < 2147483648) : nI a = nI b ↔ a = b := nI_eq ha hb
theorem nI_i0 {a : Nat} (ha : a < 2147483648) : nI a = 0 ↔ a = 0 := by rw [← nI_0]; exact nI_eq ha (by decide)
theorem nI_lt0 {a : Nat} (ha : a < 2147483648) : nI a < 0 ↔ False := ⟨fun h => nI_pos ha h, fun h => h.elim⟩
theorem nI_ge0 {a : Nat} (ha : a < 2147483648) : 0 ≤ nI a ↔ True := ⟨fun _ => trivial, fun _ => nI_pos' ha⟩
theorem nI_gt0 {a : Nat} (ha : a < 2147483648) : 0 < nI a ↔ 0 < a := by rw [← nI_0]; exact nI_ltI (by decide) ha
theorem nI_le0 {a : Nat} (ha : a < 2147483648) : nI a ≤ 0 ↔ a = 0 := by rw [← nI_0, nI_leI ha (by decide)]; exact Nat.le_zero
theorem dnL {N : Nat} {P : Nat → Prop} (h : ∀ i, i ≤ N → (i < N → P (i + 1)) → P i) : ∀ i, i ≤ N → P i := by
  intro i hi
  obtain ⟨j, rfl⟩ : ∃ j, N = i + j := ⟨N - i, by omega⟩
  clear hi
  induction j generalizing i with
  | zero => exact h i (by omega) (fun q => by omega)
  | succ j ih => exact h i (by omega) (fun _ => by have := ih (i + 1) (by rw [show i + 1 + j = i + (j + 1) by omega]; exact h); exact this)
theorem ro_k {X : Cx} {pc' : Nat} {lv : List (Option Value)} {rest : List Value} {v : Value} {σ : St} (h : J X pc' lv (v :: rest) σ) : ∀ (v' : Option Value) (σ' : St), ro v σ v' σ' → J X pc' lv (v'.toList ++ rest) σ' := by
  rintro v' σ' ⟨rfl, rfl⟩
  exact h
theorem j_nm {X : Cx} {pc : Nat} {lv : List (Option Value)} {st : List Value} {σ : St} (k : ∀ σ' : St, σ' = σ → J X pc lv st σ') : J X pc lv st σ := k σ rfl
section JN
variable {X : Cx} {cc : ByteArray} {own : String} {D pc pc' : Nat} {lv lv' : List (Option Value)} {st : List Value} {σ : St}
theorem j_iaddN (F : Fx X cc own D) {a b : Nat} (d : decode cc pc = .ok (.iadd, 1)) (hp : pc + 1 = pc') (k : J X pc' lv (.int (nI (a + b)) :: st) σ) : J X pc lv (.int (nI b) :: .int (nI a) :: st) σ := j_iadd F d hp (j_int (nI_add a b) k)
theorem j_imulN (F : Fx X cc own D) {a b : Nat} (d : decode cc pc = .ok (.imul, 1)) (hp : pc + 1 = pc') (k : J X pc' lv (.int (nI (a * b)) :: st) σ) : J X pc lv (.int (nI b) :: .int (nI a) :: st) σ := j_imul F d hp (j_int (pk_mul a b) k)
theorem j_isubN (F : Fx X cc own D) {a b : Nat} (h : b ≤ a) (d : decode cc pc = .ok (.isub, 1)) (hp : pc + 1 = pc') (k : J X pc' lv (.int (nI (a - b)) :: st) σ) : J X pc lv (.int (nI b) :: .int (nI a) :: st) σ := j_isub F d hp (j_int (pk_sub h) k)
theorem j_idivN (F : Fx X cc own D) {a b : Nat} (ha : a < 2147483648) (h0 : 0 < b) (hb : b < 2147483648) (d : decode cc pc = .ok (.idiv, 1)) (hp : pc + 1 = pc') (k : J X pc' lv (.int (nI (a / b)) :: st) σ) : J X pc lv (.int (nI b) :: .int (nI a) :: st) σ := j_idiv F d hp (fun q => by rw [nI_i0 hb] at q; omega) (j_int (pk_div ha h0 hb) k)
theorem j_iremN (F : Fx X cc own D) {a b : Nat} (ha : a < 2147483648) (h0 : 0 < b) (hb : b < 2147483648) (d : decode cc pc = .ok (.irem, 1)) (hp : pc + 1 = pc') (k : J X pc' lv (.int (nI (a % b)) :: st) σ) : J X pc lv (.int (nI b) :: .int (nI a) :: st) σ := j_irem F d hp (fun q => by rw [nI_i0 hb] at q; omega) (j_int (pk_rem ha h0 hb) k)
theorem j_iincN (F : Fx X cc own D) {i a : Nat} {z : Int} {c : Nat} (d : decode cc pc = .ok (.iinc i z, 3)) (hp : pc + 3 = pc') (hi : lv[i]? = some (some (.int (nI a)))) (hz : Int32.ofInt z = nI c) (hn : i < X.nL) (hc : ct1 lv = true) (hl : lv.set i (some (.int (nI (a + c)))) = lv') (k : J X pc' lv' st σ) : J X pc lv st σ := j_iinc F d hp hi (by rw [hz, nI_add]) hn hc hl k
theorem j_if_eqB (F : Fx X cc own D) {x : Bool} {off : Int} {tgt : Nat} (d : decode cc pc = .ok (.ifCond .eq off, 3)) (ht : (pc : Int) + off = (tgt : Int)) (hp : pc + 3 = pc') (kt : x = false → J X tgt lv st σ) (kf : x = true → J X pc' lv st σ) : J X pc lv (.int (bI x) :: st) σ := j_if_eq F d ht hp (fun h => kt ((bI_0 x).mp h)) (fun h => kf (by cases x; exact absurd rfl h; rfl))
theorem j_if_neB (F : Fx X cc own D) {x : Bool} {off : Int} {tgt : Nat} (d : decode cc pc = .ok (.ifCond .ne off, 3)) (ht : (pc : Int) + off = (tgt : Int)) (hp : pc + 3 = pc') (kt : x = true → J X tgt lv st σ) (kf : x = false → J X pc' lv st σ) : J X pc lv (.int (bI x) :: st) σ := j_if_ne F d ht hp (fun h => kt (by cases x; exact absurd rfl h; rfl)) (fun h => kf ((bI_0 x).mp h))
theorem j_icmp_eqN (F : Fx X cc own D) {a b : Nat} (ha : a < 2147483648) (hb : b < 2147483648) {off : Int} {tgt : Nat} (d : decode cc pc = .ok (.if_icmp .eq off, 3)) (ht : (pc : Int) + off = (tgt : Int)) (hp : pc + 3 = pc') (kt : a = b → J X tgt lv st σ) (kf : ¬ a = b → J X pc' lv st σ) : J X pc lv (.int (nI b) :: .int (nI a) :: st) σ := j_icmp_eq F d ht hp (fun h => kt ((nI_e ha hb).mp h)) (fun h => kf (fun q => h ((nI_e ha hb).mpr q)))
theorem j_icmp_neN (F : Fx X cc own D) {a b : Nat} (ha : a < 2147483648) (hb : b < 2147483648) {off : Int} {tgt : Nat} (d : decode cc pc = .ok (.if_icmp .ne off, 3)) (ht : (pc : Int) + off = (tgt : Int)) (hp : pc + 3 = pc') (kt : ¬ a = b → J X tgt lv st σ) (kf : a = b → J X pc' lv st σ) : J X pc lv (.int (nI b) :: .int (nI a) :: st) σ := j_icmp_ne F d ht hp (fun h => kt (fun q => h ((nI_e ha hb).mpr q))) (fun h => kf ((nI_e ha hb).mp h))
theorem j_icmp_ltN (F : Fx X cc own D) {a b : Nat} (ha : a < 2147483648) (hb : b < 2147483648) {off : Int} {tgt : Nat} (d : decode cc pc = .ok (.if_icmp .lt off, 3)) (ht : (pc : Int) + off = (tgt : Int)) (hp : pc + 3 = pc') (kt : a < b → J X tgt lv st σ) (kf : b ≤ a → J X pc' lv st σ) : J X pc lv (.int (nI b) :: .int (nI a) :: st) σ := j_icmp_lt F d ht hp (fun h => kt ((nI_ltI ha hb).mp h)) (fun h => kf (Nat.not_lt.mp (fun q => h ((nI_ltI ha hb).mpr q))))
theorem j_icmp_geN (F : Fx X cc own D) {a b : Nat} (ha : a < 2147483648) (hb : b < 2147483648) {off : Int} {tgt : Nat} (d : decode cc pc = .ok (.if_icmp .ge off, 3)) (ht : (pc : Int) + off = (tgt : Int)) (hp : pc + 3 = pc') (kt : b ≤ a → J X tgt lv st σ) (kf : a < b → J X pc' lv st σ) : J X pc lv (.int (nI b) :: .int (nI a) :: st) σ := j_icmp_ge F d ht hp (fun h => kt ((nI_leI hb ha).mp h)) (fun h => kf (Nat.not_le.mp (fun q => h ((nI_leI hb ha).mpr q))))
theorem j_icmp_gtN (F : Fx X cc own D) {a b : Nat} (ha : a < 2147483648) (hb : b < 2147483648) {off : Int} {tgt : Nat} (d : decode cc pc = .ok (.if_icmp .gt off, 3)) (ht : (pc : Int) + off = (tgt : Int)) (hp : pc + 3 = pc') (kt : b < a → J X tgt lv st σ) (kf : a ≤ b → J X pc' lv st σ) : J X pc lv (.int (nI b) :: .int (nI a) :: st) σ := j_icmp_gt F d ht hp (fun h => kt ((nI_ltI hb ha).mp h)) (fun h => kf (Nat.not_lt.mp (fun q => h ((nI_ltI hb ha).mpr q))))
theorem j_icmp_leN (F : Fx X cc own D) {a b : Nat} (ha : a < 2147483648) (hb : b < 2147483648) {off : Int} {tgt : Nat} (d : decode cc pc = .ok (.if_icmp .le off, 3)) (ht : (pc : Int) + off = (tgt : Int)) (hp : pc + 3 = pc') (kt : a ≤ b → J X tgt lv st σ) (kf : b < a → J X pc' lv st σ) : J X pc lv (.int (nI b) :: .int (nI a) :: st) σ := j_icmp_le F d ht hp (fun h => kt ((nI_leI ha hb).mp h)) (fun h => kf (Nat.not_le.mp (fun q => h ((nI_leI ha hb).mpr q))))
theorem j_if_eqN (F : Fx X cc own D) {a : Nat} (ha : a < 2147483648) {off : Int} {tgt : Nat} (d : decode cc pc = .ok (.ifCond .eq off, 3)) (ht : (pc : Int) + off = (tgt : Int)) (hp : pc + 3 = pc') (kt : a = 0 → J X tgt lv st σ) (kf : ¬ a = 0 → J X pc' lv st σ) : J X pc lv (.int (nI a) :: st) σ := j_if_eq F d ht hp (fun h => kt ((nI_i0 ha).mp h)) (fun h => kf (fun q => h ((nI_i0 ha).mpr q)))
theorem j_if_neN (F : Fx X cc own D) {a : Nat} (ha : a < 2147483648) {off : Int} {tgt : Nat} (d : decode cc pc = .ok (.ifCond .ne off, 3)) (ht : (pc : Int) + off = (tgt : Int)) (hp : pc + 3 = pc') (kt : ¬ a = 0 → J X tgt lv st σ) (kf : a = 0 → J X pc' lv st σ) : J X pc lv (.int (nI a) :: st) σ := j_if_ne F d ht hp (fun h => kt (fun q => h ((nI_i0 ha).mpr q))) (fun h => kf ((nI_i0 ha).mp h))
theorem j_if_gtN (F : Fx X cc own D) {a : Nat} (ha : a < 2147483648) {off : Int} {tgt : Nat} (d : decode cc pc = .ok (.ifCond .gt off, 3)) (ht : (pc : Int) + off = (tgt : Int)) (hp : pc + 3 = pc') (kt : 0 < a → J X tgt lv st σ) (kf : a = 0 → J X pc' lv st σ) : J X pc lv (.int (nI a) :: st) σ := j_if_gt F d ht hp (fun h => kt ((nI_gt0 ha).mp h)) (fun h => kf (by have : ¬ 0 < a := fun q => h ((nI_gt0 ha).mpr q); omega))
theorem j_if_leN (F : Fx X cc own D) {a : Nat} (ha : a < 2147483648) {off : Int} {tgt : Nat} (d : decode cc pc = .ok (.ifCond .le off, 3)) (ht : (pc : Int) + off = (tgt : Int)) (hp : pc + 3 = pc') (kt : a = 0 → J X tgt lv st σ) (kf : 0 < a → J X pc' lv st σ) : J X pc lv (.int (nI a) :: st) σ := j_if_le F d ht hp (fun h => kt ((nI_le0 ha).mp h)) (fun h => kf (by have : ¬ a = 0 := fun q => h ((nI_le0 ha).mpr q); omega))
theorem j_if_ltN (F : Fx X cc own D) {a : Nat} (ha : a < 2147483648) {off : Int} {tgt : Nat} (d : decode cc pc = .ok (.ifCond .lt off, 3)) (ht : (pc : Int) + off = (tgt : Int)) (hp : pc + 3 = pc') (kf : J X pc' lv st σ) : J X pc lv (.int (nI a) :: st) σ := j_if_lt F d ht hp (fun h => ((nI_lt0 ha).mp h).elim) (fun _ => kf)
theorem j_if_geN (F : Fx X cc own D) {a : Nat} (ha : a < 2147483648) {off : Int} {tgt : Nat} (d : decode cc pc = .ok (.ifCond .ge off, 3)) (ht : (pc : Int) + off = (tgt : Int)) (hp : pc + 3 = pc') (kt : J X tgt lv st σ) : J X pc lv (.int (nI a) :: st) σ := j_if_ge F d ht hp (fun _ => kt) (fun h => absurd (nI_pos' ha) h)
end JN
/-- a plan's three cells -/
def isPl (n k : Nat) : Prop := k + 2 < n ∧ shpL[k]? = some (.inr (2, [none, none, none, none, some (k + 1), some (k + 2)])) ∧ shpL[k + 1]? = some (.inl (0, 56, 0)) ∧ shpL[k + 2]? = some (.inl (0, 24, 0))
theorem isPl_1 {n : Nat} (h : 55 ≤ n) : isPl n 1 := ⟨by omega, rfl, rfl, rfl⟩
theorem isPl_4 {n : Nat} (h : 55 ≤ n) : isPl n 4 := ⟨by omega, rfl, rfl, rfl⟩
theorem isPl_r {n j : Nat} (h : 55 ≤ n) (hj : j < 10) : isPl n (11 + 3 * j) := by
  refine ⟨by omega, ?_⟩
  match j, hj with
  | 0, _ | 1, _ | 2, _ | 3, _ | 4, _ | 5, _ | 6, _ | 7, _ | 8, _ | 9, _ => exact ⟨rfl, rfl, rfl⟩
  | j + 10, hj => omega
theorem isPl_i {n j : Nat} (h : 55 ≤ n) (hj : j < 2) : isPl n (49 + 3 * j) := by
  refine ⟨by omega, ?_⟩
  match j, hj with
  | 0, _ | 1, _ => exact ⟨rfl, rfl, rfl⟩
  | j + 2, hj => omega
