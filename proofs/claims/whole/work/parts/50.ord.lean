/-! ===== directions in their order ===== -/
def Rd (e : Dr) : Prop := ¬ e.1 = 0 ∧ ¬ e.2 = 0 ∧ Nat.gcd e.1.natAbs e.2.natAbs = 1
theorem red_Rd {a b : Int} (ha : ¬ a = 0) (hb : ¬ b = 0) : Rd (red a b) := by
  have g0 : 0 < gc a b := gc_pos ha
  have d1 : gc a b ∣ a.natAbs := Nat.gcd_dvd_left _ _
  have d2 : gc a b ∣ b.natAbs := Nat.gcd_dvd_right _ _
  have e1 : (red a b).1.natAbs = a.natAbs / gc a b := by
    show (a.tdiv (gc a b : Int)).natAbs = _
    rw [Int.natAbs_tdiv, Int.natAbs_natCast]
    rfl
  have e2 : (red a b).2.natAbs = b.natAbs / gc a b := by
    show (b.tdiv (gc a b : Int)).natAbs = _
    rw [Int.natAbs_tdiv, Int.natAbs_natCast]
    rfl
  have p1 : 0 < a.natAbs / gc a b := Nat.div_pos (Nat.le_of_dvd (by omega) d1) g0
  have p2 : 0 < b.natAbs / gc a b := Nat.div_pos (Nat.le_of_dvd (by omega) d2) g0
  refine ⟨fun q => ?_, fun q => ?_, ?_⟩
  · rw [q] at e1
    have : (0 : Int).natAbs = 0 := rfl
    omega
  · rw [q] at e2
    have : (0 : Int).natAbs = 0 := rfl
    omega
  · rw [e1, e2, Nat.gcd_div d1 d2]
    exact Nat.div_self g0
theorem dirP_Rd (lx ly x y : Nat) : Rd (dirP lx ly x y) := red_Rd (odd_ne x lx) (odd_ne y ly)
theorem cr_sign {b2 r : Int} (h : 0 < b2 * r) (hb : 0 < b2) : 0 < r := by
  rcases Int.lt_trichotomy 0 r with q | q | q
  · exact q
  · rw [← q, Int.mul_zero] at h
    omega
  · have := Int.mul_neg_of_pos_of_neg hb q
    omega
theorem cr_sign2 {b2 r : Int} (h : b2 * r < 0) (hb : b2 < 0) : 0 < r := by
  rcases Int.lt_trichotomy 0 r with q | q | q
  · exact q
  · rw [← q, Int.mul_zero] at h
    omega
  · have := Int.mul_pos_of_neg_of_neg hb q
    omega
theorem cr_id (a1 a2 b1 b2 c1 c2 : Int) : b2 * (a1 * c2 - a2 * c1) = c2 * (a1 * b2 - a2 * b1) + a2 * (b1 * c2 - b2 * c1) := by
  rw [Int.mul_sub, Int.mul_sub, Int.mul_sub]
  have e1 : b2 * (a1 * c2) = c2 * (a1 * b2) := by rw [Int.mul_comm c2, Int.mul_assoc, Int.mul_left_comm, Int.mul_comm b2]
  have e2 : b2 * (a2 * c1) = a2 * (b2 * c1) := Int.mul_left_comm _ _ _
  have e3 : c2 * (a2 * b1) = a2 * (b1 * c2) := by rw [Int.mul_left_comm, Int.mul_comm c2]
  omega
theorem ahd_s {e d : Dr} (h : 0 < e.2 ↔ 0 < d.2) : ahd e d = true ↔ 0 < e.1 * d.2 - e.2 * d.1 := by
  unfold ahd
  rw [if_pos h]
  exact decide_eq_true_iff
theorem ahd_d {e d : Dr} (h : ¬ (0 < e.2 ↔ 0 < d.2)) : ahd e d = true ↔ 0 < e.2 := by
  unfold ahd
  rw [if_neg h]
  exact decide_eq_true_iff
theorem ahd_tr {a b c : Dr} (ha : Rd a) (hb : Rd b) (hc : Rd c) (h1 : ahd a b = true) (h2 : ahd b c = true) : ahd a c = true := by
  have na := ha.2.1
  have nb := hb.2.1
  have nc := hc.2.1
  by_cases q1 : (0 < a.2 ↔ 0 < b.2)
  · have r1 := (ahd_s q1).mp h1
    by_cases q2 : (0 < b.2 ↔ 0 < c.2)
    · have r2 := (ahd_s q2).mp h2
      rw [ahd_s (q1.trans q2)]
      have id := cr_id a.1 a.2 b.1 b.2 c.1 c.2
      by_cases p : 0 < b.2
      · refine cr_sign ?_ p
        rw [id]
        have z1 := Int.mul_pos (q2.mp p) r1
        have z2 := Int.mul_pos (q1.mpr p) r2
        omega
      · have pa : a.2 < 0 := by
          have : ¬ 0 < a.2 := fun z => p (q1.mp z)
          omega
        have pc : c.2 < 0 := by
          have : ¬ 0 < c.2 := fun z => p (q2.mpr z)
          omega
        refine cr_sign2 ?_ (show b.2 < 0 by omega)
        rw [id]
        have z1 := Int.mul_neg_of_neg_of_pos pc r1
        have z2 := Int.mul_neg_of_neg_of_pos pa r2
        omega
    · have r2 := (ahd_d q2).mp h2
      rw [ahd_d (fun z => q2 ((q1.symm).trans z))]
      exact q1.mpr r2
  · have r1 := (ahd_d q1).mp h1
    by_cases q2 : (0 < b.2 ↔ 0 < c.2)
    · rw [ahd_d (fun z => q1 (z.trans q2.symm))]
      exact r1
    · have r2 := (ahd_d q2).mp h2
      exact absurd ⟨fun _ => r2, fun _ => r1⟩ q1
theorem ahd_as {a b : Dr} (h1 : ahd a b = true) : ahd b a = false := by
  cases h : ahd b a
  · rfl
  · exfalso
    by_cases q1 : (0 < a.2 ↔ 0 < b.2)
    · have r1 := (ahd_s q1).mp h1
      have r2 := (ahd_s q1.symm).mp h
      rw [Int.mul_comm b.1, Int.mul_comm b.2] at r2
      omega
    · have r1 := (ahd_d q1).mp h1
      have r2 := (ahd_d (fun z => q1 z.symm)).mp h
      exact q1 ⟨fun _ => r2, fun _ => r1⟩
theorem par_eq {e d : Dr} (he : Rd e) (hd : Rd d) (hs : 0 < e.2 ↔ 0 < d.2) (h : e.1 * d.2 = e.2 * d.1) : e = d := by
  have hn : e.1.natAbs * d.2.natAbs = e.2.natAbs * d.1.natAbs := by
    rw [← Int.natAbs_mul, ← Int.natAbs_mul, h]
  have c1 : Nat.Coprime e.2.natAbs e.1.natAbs := by
    show Nat.gcd _ _ = 1
    rw [Nat.gcd_comm]; exact he.2.2
  have c2 : Nat.Coprime d.2.natAbs d.1.natAbs := by
    show Nat.gcd _ _ = 1
    rw [Nat.gcd_comm]; exact hd.2.2
  have d1 : e.2.natAbs ∣ d.2.natAbs := c1.dvd_of_dvd_mul_left ⟨d.1.natAbs, hn⟩
  have d2 : d.2.natAbs ∣ e.2.natAbs := c2.dvd_of_dvd_mul_right ⟨e.1.natAbs, by rw [← hn, Nat.mul_comm]⟩
  have he2 := Nat.dvd_antisymm d1 d2
  have e2 : e.2 = d.2 := by
    have := he.2.1
    have := hd.2.1
    omega
  have e1 : e.1 = d.1 := by
    rw [e2, Int.mul_comm e.1] at h
    exact Int.eq_of_mul_eq_mul_left hd.2.1 h
  exact Prod.ext e1 e2
theorem ahd_tot {e d : Dr} (he : Rd e) (hd : Rd d) (h : ahd e d = false) (hne : ¬ e = d) : ahd d e = true := by
  have hh : ¬ ahd e d = true := by rw [h]; decide
  by_cases q : (0 < e.2 ↔ 0 < d.2)
  · rw [ahd_s q] at hh
    rw [ahd_s q.symm, Int.mul_comm d.1, Int.mul_comm d.2]
    have : ¬ e.1 * d.2 = e.2 * d.1 := fun z => hne (par_eq he hd q z)
    omega
  · rw [ahd_d q] at hh
    rw [ahd_d (fun z => q z.symm)]
    have := hd.2.1
    by_cases p : 0 < d.2
    · exact p
    · exact absurd ⟨fun z => absurd z hh, fun z => absurd z p⟩ q
/-- in order, each reduced -/
def Srt : List Dr → Prop
  | [] => True
  | e :: r => Rd e ∧ (∀ d ∈ r, ahd e d = true) ∧ Srt r
theorem Srt_mem : ∀ {E : List Dr} {e : Dr}, Srt E → e ∈ E → Rd e
  | [], _, _, h => by cases h
  | c :: r, e, hs, h => by
    rcases List.mem_cons.mp h with rfl | h
    · exact hs.1
    · exact Srt_mem hs.2.2 h
theorem Srt_ins : ∀ {E : List Dr} {d : Dr}, Srt E → Rd d → Srt (insE d E)
  | [], d, _, hd => ⟨hd, fun _ h => (by cases h), trivial⟩
  | e :: r, d, hs, hd => by
    show Srt (if ahd e d = true then e :: insE d r else if e = d then e :: r else d :: e :: r)
    by_cases h1 : ahd e d = true
    · rw [if_pos h1]
      refine ⟨hs.1, fun x hx => ?_, Srt_ins hs.2.2 hd⟩
      rcases (insE_mem r d x).mp hx with rfl | hx
      · exact h1
      · exact hs.2.1 x hx
    · rw [if_neg h1]
      by_cases h2 : e = d
      · rw [if_pos h2]; exact hs
      · rw [if_neg h2]
        have h3 : ahd e d = false := by
          cases q : ahd e d
          · rfl
          · exact absurd q h1
        have h4 := ahd_tot hs.1 hd h3 h2
        refine ⟨hd, fun x hx => ?_, hs⟩
        rcases List.mem_cons.mp hx with rfl | hx
        · exact h4
        · exact ahd_tr hd hs.1 (Srt_mem hs.2.2 hx) h4 (hs.2.1 x hx)
theorem ahd_irr {a : Dr} : ahd a a = false := by
  cases h : ahd a a
  · rfl
  · have := ahd_as h
    rw [h] at this
    exact this
theorem Srt_eq : ∀ {E D : List Dr}, Srt E → Srt D → (∀ e, e ∈ E ↔ e ∈ D) → E = D
  | [], [], _, _, _ => rfl
  | [], d :: r, _, _, h => by have := (h d).mpr List.mem_cons_self; cases this
  | e :: r, [], _, _, h => by have := (h e).mp List.mem_cons_self; cases this
  | e :: r, d :: s, hE, hD, h => by
    have hed : e = d := by
      rcases List.mem_cons.mp ((h e).mp List.mem_cons_self) with q | q
      · exact q
      · rcases List.mem_cons.mp ((h d).mpr List.mem_cons_self) with z | z
        · exact z.symm
        · have a := hD.2.1 e q
          have b := hE.2.1 d z
          rw [ahd_as a] at b
          cases b
    subst hed
    congr 1
    refine Srt_eq hE.2.2 hD.2.2 (fun x => ?_)
    constructor
    · intro hx
      rcases List.mem_cons.mp ((h x).mp (List.mem_cons_of_mem _ hx)) with q | q
      · subst q
        have := hE.2.1 x hx
        rw [ahd_irr] at this
        cases this
      · exact q
    · intro hx
      rcases List.mem_cons.mp ((h x).mpr (List.mem_cons_of_mem _ hx)) with q | q
      · subst q
        have := hD.2.1 x hx
        rw [ahd_irr] at this
        cases this
      · exact q
theorem Srt_len : ∀ {E : List Dr} {L : List Dr}, Srt E → (∀ e ∈ E, e ∈ L) → E.length ≤ L.length
  | [], _, _, _ => Nat.zero_le _
  | e :: r, L, hE, h => by
    have he := h e List.mem_cons_self
    have ih := Srt_len (L := L.erase e) hE.2.2 (fun x hx => by
      refine (List.mem_erase_of_ne (fun q => ?_)).mpr (h x (List.mem_cons_of_mem _ hx))
      subst q
      have := hE.2.1 x hx
      rw [ahd_irr] at this
      cases this)
    rw [List.length_erase_of_mem he] at ih
    have : 0 < L.length := List.length_pos_of_mem he
    rw [List.length_cons]
    omega
def gridL (lx ly W H : Nat) : List Dr := (List.range ((W + 1) * (H + 1))).map (fun s => dirP lx ly (s % (W + 1)) (s / (W + 1)))
theorem grid_mem {lx ly W H x y : Nat} (hx : x ≤ W) (hy : y ≤ H) : dirP lx ly x y ∈ gridL lx ly W H := by
  refine List.mem_map.mpr ⟨y * (W + 1) + x, List.mem_range.mpr (sp_lt (show y < H + 1 by omega) (show x < W + 1 by omega)), ?_⟩
  rw [dm_1 (show x < W + 1 by omega), dm_2 (show x < W + 1 by omega)]
/-- a list of events on its way -/
def EvOK (P : Pl) (lx ly : Nat) (E : List Dr) : Prop := Srt E ∧ ∀ e ∈ E, ∃ x y, x ≤ P.W ∧ y ≤ P.H ∧ e = dirP lx ly x y
theorem EvOK_0 (P : Pl) (lx ly : Nat) : EvOK P lx ly [] := ⟨trivial, fun _ h => by cases h⟩
theorem EvOK_ins {P : Pl} {lx ly x y : Nat} {E : List Dr} (h : EvOK P lx ly E) (hx : x ≤ P.W) (hy : y ≤ P.H) : EvOK P lx ly (insE (dirP lx ly x y) E) := ⟨Srt_ins h.1 (dirP_Rd _ _ _ _), fun e he => by
  rcases (insE_mem E _ e).mp he with rfl | q
  · exact ⟨x, y, hx, hy, rfl⟩
  · exact h.2 e q⟩
theorem EvOK_len {P : Pl} {lx ly : Nat} {E : List Dr} (hB : PB P) (h : EvOK P lx ly E) : E.length ≤ 100 := by
  obtain ⟨b1, b2, b3, b4, -⟩ := hB
  have z := Srt_len (L := gridL lx ly P.W P.H) h.1 (fun e he => by
    obtain ⟨x, y, hx, hy, rfl⟩ := h.2 e he
    exact grid_mem hx hy)
  unfold gridL at z
  rw [List.length_map, List.length_range] at z
  exact Nat.le_trans z (Nat.mul_le_mul (show P.W + 1 ≤ 10 by omega) (show P.H + 1 ≤ 10 by omega))
theorem EvOK_RB {P : Pl} {lx ly : Nat} {E : List Dr} (hB : PB P) (h1 : lx ≤ 9) (h2 : ly ≤ 9) (h : EvOK P lx ly E) : RB E := fun e he => by
  obtain ⟨b1, b2, b3, b4, -⟩ := hB
  obtain ⟨x, y, hx, hy, rfl⟩ := h.2 e he
  exact dir_bd h1 h2 (by omega) (by omega)
theorem EVc_ok (P : Pl) (lx ly : Nat) : ∀ s, s ≤ (P.W + 1) * (P.H + 1) → EvOK P lx ly (P.EVc lx ly s)
  | 0, _ => EvOK_0 P lx ly
  | s + 1, h => by
    rw [Pl.EVc]
    split
    · refine EvOK_ins (EVc_ok P lx ly s (by omega)) ?_ ?_
      · have := Nat.mod_lt s (show 0 < P.W + 1 by omega)
        omega
      · have : s / (P.W + 1) < P.H + 1 := Nat.div_lt_of_lt_mul (by omega)
        omega
    · exact EVc_ok P lx ly s (by omega)
theorem EVc_mem (P : Pl) (lx ly : Nat) (e : Dr) : ∀ s, e ∈ P.EVc lx ly s ↔ ∃ k, k < s ∧ P.evP (k % (P.W + 1)) (k / (P.W + 1)) ∧ e = dirP lx ly (k % (P.W + 1)) (k / (P.W + 1))
  | 0 => ⟨fun h => (by cases h), fun ⟨k, h, _⟩ => absurd h (Nat.not_lt_zero k)⟩
  | s + 1 => by
    rw [Pl.EVc]
    have ih := EVc_mem P lx ly e s
    split
    · next hd =>
      rw [insE_mem, ih]
      constructor
      · rintro (rfl | ⟨k, h1, h2, h3⟩)
        · exact ⟨s, Nat.lt_succ_self s, dcP_of hd, rfl⟩
        · exact ⟨k, by omega, h2, h3⟩
      · rintro ⟨k, h1, h2, h3⟩
        by_cases q : k = s
        · subst q; exact Or.inl h3
        · exact Or.inr ⟨k, by omega, h2, h3⟩
    · next hd =>
      rw [ih]
      constructor
      · rintro ⟨k, h1, h2, h3⟩
        exact ⟨k, by omega, h2, h3⟩
      · rintro ⟨k, h1, h2, h3⟩
        by_cases q : k = s
        · subst q; exact absurd (dcP_t h2) hd
        · exact ⟨k, by omega, h2, h3⟩
theorem EC_mem (P : Pl) (l : Nat) (e : Dr) : e ∈ P.EC l ↔ ∃ x y, x ≤ P.W ∧ y ≤ P.H ∧ P.evP x y ∧ e = dirP (P.lp l 0) (P.lp l 1) x y := by
  unfold Pl.EC
  rw [EVc_mem]
  constructor
  · rintro ⟨k, h1, h2, h3⟩
    refine ⟨_, _, ?_, ?_, h2, h3⟩
    · have := Nat.mod_lt k (show 0 < P.W + 1 by omega)
      omega
    · have : k / (P.W + 1) < P.H + 1 := Nat.div_lt_of_lt_mul h1
      omega
  · rintro ⟨x, y, hx, hy, h1, h2⟩
    refine ⟨y * (P.W + 1) + x, sp_lt (show y < P.H + 1 by omega) (show x < P.W + 1 by omega), ?_, ?_⟩
    · rw [dm_1 (show x < P.W + 1 by omega), dm_2 (show x < P.W + 1 by omega)]; exact h1
    · rw [dm_1 (show x < P.W + 1 by omega), dm_2 (show x < P.W + 1 by omega)]; exact h2
theorem EC_ok (P : Pl) (l : Nat) : EvOK P (P.lp l 0) (P.lp l 1) (P.EC l) := EVc_ok P _ _ _ (Nat.le_refl _)
/-! the model's way: wall by wall -/
def Pl.crB (P : Pl) (w v : Nat) : Bool := decide (P.wl v 3 = 0 ∧ (P.wl v 0 ≤ P.wl w 0 ∧ P.wl w 0 ≤ P.wl v 0 + P.wl v 2) ∧ P.wl w 1 ≤ P.wl v 1 ∧ P.wl v 1 ≤ P.wl w 1 + P.wl w 2)
def Pl.crs (P : Pl) (w v : Nat) : Prop := P.crB w v = true
def Pl.evV (P : Pl) (lx ly w : Nat) (E : List Dr) : Nat → List Dr
  | 0 => E
  | v + 1 => if P.crB w v = true then insE (dirP lx ly (P.wl w 0) (P.wl v 1)) (P.evV lx ly w E v) else P.evV lx ly w E v
def Pl.evE (P : Pl) (lx ly w : Nat) (E : List Dr) : List Dr := insE (if P.wl w 3 = 1 then dirP lx ly (P.wl w 0) (P.wl w 1 + P.wl w 2) else dirP lx ly (P.wl w 0 + P.wl w 2) (P.wl w 1)) (insE (dirP lx ly (P.wl w 0) (P.wl w 1)) E)
def Pl.evW (P : Pl) (lx ly : Nat) : Nat → List Dr
  | 0 => []
  | w + 1 => if P.wl w 3 = 1 then P.evV lx ly w (P.evE lx ly w (P.evW lx ly w)) P.nw else P.evE lx ly w (P.evW lx ly w)
theorem evV_ok {P : Pl} {lx ly w : Nat} {E : List Dr} (hWl : ∀ w, w < P.nw → WallOK P w) (hw : w < P.nw) (h : EvOK P lx ly E) : ∀ v, v ≤ P.nw → EvOK P lx ly (P.evV lx ly w E v)
  | 0, _ => h
  | v + 1, hv => by
    rw [Pl.evV]
    split
    · exact EvOK_ins (evV_ok hWl hw h v (by omega)) (hWl w hw).2.1 (hWl v (by omega)).2.2.1
    · exact evV_ok hWl hw h v (by omega)
theorem evE_ok {P : Pl} {lx ly w : Nat} {E : List Dr} (hWl : ∀ w, w < P.nw → WallOK P w) (hw : w < P.nw) (h : EvOK P lx ly E) : EvOK P lx ly (P.evE lx ly w E) := by
  obtain ⟨w1, w2, w3, w4, w5, w6⟩ := hWl w hw
  unfold Pl.evE
  have z := EvOK_ins (x := P.wl w 0) (y := P.wl w 1) h w2 w3
  split
  · next q => exact EvOK_ins z w2 (w6 q)
  · next q => exact EvOK_ins z (w5 (by omega)) w3
theorem evW_ok {P : Pl} {lx ly : Nat} (hWl : ∀ w, w < P.nw → WallOK P w) : ∀ w, w ≤ P.nw → EvOK P lx ly (P.evW lx ly w)
  | 0, _ => EvOK_0 P lx ly
  | w + 1, hw => by
    rw [Pl.evW]
    have z := evE_ok (lx := lx) (ly := ly) hWl (show w < P.nw by omega) (evW_ok hWl w (by omega))
    split
    · exact evV_ok hWl (by omega) z _ (Nat.le_refl _)
    · exact z
theorem evV_mem {P : Pl} {lx ly w : Nat} {E : List Dr} {e : Dr} : ∀ v, e ∈ P.evV lx ly w E v ↔ e ∈ E ∨ ∃ k, k < v ∧ P.crs w k ∧ e = dirP lx ly (P.wl w 0) (P.wl k 1)
  | 0 => ⟨Or.inl, fun h => h.elim id (fun ⟨k, q, _⟩ => absurd q (Nat.not_lt_zero k))⟩
  | v + 1 => by
    rw [Pl.evV]
    have ih := evV_mem (P := P) (lx := lx) (ly := ly) (w := w) (E := E) (e := e) v
    split
    · next hc =>
      rw [insE_mem, ih]
      constructor
      · rintro (rfl | h | ⟨k, h1, h2, h3⟩)
        · exact Or.inr ⟨v, Nat.lt_succ_self v, hc, rfl⟩
        · exact Or.inl h
        · exact Or.inr ⟨k, by omega, h2, h3⟩
      · rintro (h | ⟨k, h1, h2, h3⟩)
        · exact Or.inr (Or.inl h)
        · by_cases q : k = v
          · subst q; exact Or.inl h3
          · exact Or.inr (Or.inr ⟨k, by omega, h2, h3⟩)
    · next hc =>
      rw [ih]
      constructor
      · rintro (h | ⟨k, h1, h2, h3⟩)
        · exact Or.inl h
        · exact Or.inr ⟨k, by omega, h2, h3⟩
      · rintro (h | ⟨k, h1, h2, h3⟩)
        · exact Or.inl h
        · by_cases q : k = v
          · subst q; exact absurd h2 hc
          · exact Or.inr ⟨k, by omega, h2, h3⟩
theorem evE_mem {P : Pl} {lx ly w : Nat} {E : List Dr} {e : Dr} : e ∈ P.evE lx ly w E ↔ e ∈ E ∨ ∃ x y, P.enP w x y ∧ e = dirP lx ly x y := by
  unfold Pl.evE
  rw [insE_mem, insE_mem]
  constructor
  · rintro (h | h | h)
    · split at h
      · next q => exact Or.inr ⟨_, _, Or.inl ⟨q, rfl, Or.inr rfl⟩, h⟩
      · next q => exact Or.inr ⟨_, _, Or.inr ⟨q, rfl, Or.inr rfl⟩, h⟩
    · by_cases q : P.wl w 3 = 1
      · exact Or.inr ⟨_, _, Or.inl ⟨q, rfl, Or.inl rfl⟩, h⟩
      · exact Or.inr ⟨_, _, Or.inr ⟨q, rfl, Or.inl rfl⟩, h⟩
    · exact Or.inl h
  · rintro (h | ⟨x, y, (⟨q, rfl, r⟩ | ⟨q, rfl, r⟩), h⟩)
    · exact Or.inr (Or.inr h)
    · rcases r with rfl | rfl
      · exact Or.inr (Or.inl h)
      · rw [if_pos q]; exact Or.inl h
    · rcases r with rfl | rfl
      · exact Or.inr (Or.inl h)
      · rw [if_neg q]; exact Or.inl h
theorem evW_mem {P : Pl} {lx ly : Nat} {e : Dr} : ∀ i, e ∈ P.evW lx ly i ↔ (∃ w, w < i ∧ ∃ x y, P.enP w x y ∧ e = dirP lx ly x y) ∨ ∃ w, w < i ∧ P.wl w 3 = 1 ∧ ∃ k, k < P.nw ∧ P.crs w k ∧ e = dirP lx ly (P.wl w 0) (P.wl k 1)
  | 0 => ⟨fun h => (by cases h), fun h => h.elim (fun ⟨k, q, _⟩ => absurd q (Nat.not_lt_zero k)) (fun ⟨k, q, _⟩ => absurd q (Nat.not_lt_zero k))⟩
  | i + 1 => by
    rw [Pl.evW]
    have ih := evW_mem (P := P) (lx := lx) (ly := ly) (e := e) i
    by_cases hu : P.wl i 3 = 1
    · rw [if_pos hu, evV_mem, evE_mem, ih]
      constructor
      · rintro (((⟨w, h1, h2⟩ | ⟨w, h1, h2⟩) | ⟨x, y, h⟩) | ⟨k, h⟩)
        · exact Or.inl ⟨w, by omega, h2⟩
        · exact Or.inr ⟨w, by omega, h2⟩
        · exact Or.inl ⟨i, Nat.lt_succ_self i, x, y, h⟩
        · exact Or.inr ⟨i, Nat.lt_succ_self i, hu, k, h⟩
      · rintro (⟨w, h1, x, y, h2⟩ | ⟨w, h1, h2, k, h3⟩)
        · by_cases q : w = i
          · subst q; exact Or.inl (Or.inr ⟨x, y, h2⟩)
          · exact Or.inl (Or.inl (Or.inl ⟨w, by omega, x, y, h2⟩))
        · by_cases q : w = i
          · subst q; exact Or.inr ⟨k, h3⟩
          · exact Or.inl (Or.inl (Or.inr ⟨w, by omega, h2, k, h3⟩))
    · rw [if_neg hu, evE_mem, ih]
      constructor
      · rintro ((⟨w, h1, h2⟩ | ⟨w, h1, h2⟩) | ⟨x, y, h⟩)
        · exact Or.inl ⟨w, by omega, h2⟩
        · exact Or.inr ⟨w, by omega, h2⟩
        · exact Or.inl ⟨i, Nat.lt_succ_self i, x, y, h⟩
      · rintro (⟨w, h1, x, y, h2⟩ | ⟨w, h1, h2, k, h3⟩)
        · by_cases q : w = i
          · subst q; exact Or.inr ⟨x, y, h2⟩
          · exact Or.inl (Or.inl ⟨w, by omega, x, y, h2⟩)
        · by_cases q : w = i
          · subst q; exact absurd h2 hu
          · exact Or.inl (Or.inr ⟨w, by omega, h2, k, h3⟩)
theorem ev_eq {P : Pl} (hWl : ∀ w, w < P.nw → WallOK P w) (l : Nat) : P.evW (P.lp l 0) (P.lp l 1) P.nw = P.EC l := by
  refine Srt_eq (evW_ok hWl _ (Nat.le_refl _)).1 (EC_ok P l).1 (fun e => ?_)
  rw [evW_mem, EC_mem]
  constructor
  · rintro (⟨w, h1, x, y, h2, h3⟩ | ⟨w, h1, h2, k, h3, h4, h5⟩)
    · obtain ⟨w1, w2, w3, w4, w5, w6⟩ := hWl w h1
      refine ⟨x, y, ?_, ?_, Or.inl ⟨w, h1, h2⟩, h3⟩
      · unfold Pl.enP at h2; omega
      · unfold Pl.enP at h2; omega
    · obtain ⟨c1, c2, c3⟩ := of_decide_eq_true h4
      refine ⟨_, _, (hWl w h1).2.1, (hWl k h3).2.2.1, Or.inr ⟨⟨k, h3, Or.inr ⟨by omega, rfl, c2⟩, by omega⟩, w, h1, Or.inl ⟨h2, rfl, c3⟩, h2⟩, h5⟩
  · rintro ⟨x, y, hx, hy, (⟨w, h1, h2⟩ | ⟨⟨k, h3, h4, h5⟩, w, h1, h6, h7⟩), h8⟩
    · exact Or.inl ⟨w, h1, x, y, h2, h8⟩
    · have hk := (hWl k h3).1
      unfold Pl.onP at h4 h6
      have e1 : x = P.wl w 0 := by omega
      have e2 : y = P.wl k 1 := by omega
      refine Or.inr ⟨w, h1, h7, k, h3, decide_eq_true ⟨by omega, by omega, by omega⟩, ?_⟩
      rw [h8, e1, e2]
