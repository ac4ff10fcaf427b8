/-! ===== the ray: points, walls met ===== -/
noncomputable def Pl.oR (P : Pl) (x y i : Nat) : Bool := dcP (∃ w, w < i ∧ (P.onP w x y ∧ ¬ P.wl w 3 = 1))
noncomputable def Pl.oU (P : Pl) (x y i : Nat) : Bool := dcP (∃ w, w < i ∧ (P.onP w x y ∧ P.wl w 3 = 1))
theorem ex_no {p : Nat → Prop} {i : Nat} (h : ¬ p i) : (∃ w, w < i + 1 ∧ p w) ↔ ∃ w, w < i ∧ p w :=
  ⟨fun ⟨w, h1, h2⟩ => by rcases (show w < i ∨ w = i by omega) with q | rfl; exact ⟨w, q, h2⟩; exact absurd h2 h, fun ⟨w, h1, h2⟩ => ⟨w, by omega, h2⟩⟩
theorem oR_no {P : Pl} {x y i : Nat} (h : ¬ (P.onP i x y ∧ ¬ P.wl i 3 = 1)) : P.oR x y (i + 1) = P.oR x y i := dcP_iff (ex_no (p := fun w => P.onP w x y ∧ ¬ P.wl w 3 = 1) h)
theorem oU_no {P : Pl} {x y i : Nat} (h : ¬ (P.onP i x y ∧ P.wl i 3 = 1)) : P.oU x y (i + 1) = P.oU x y i := dcP_iff (ex_no (p := fun w => P.onP w x y ∧ P.wl w 3 = 1) h)
theorem oR_yes {P : Pl} {x y i : Nat} (h : P.onP i x y ∧ ¬ P.wl i 3 = 1) : P.oR x y (i + 1) = true := dcP_t ⟨i, by omega, h⟩
theorem oU_yes {P : Pl} {x y i : Nat} (h : P.onP i x y ∧ P.wl i 3 = 1) : P.oU x y (i + 1) = true := dcP_t ⟨i, by omega, h⟩
theorem oR_0 (P : Pl) (x y : Nat) : P.oR x y 0 = false := dcP_f (fun ⟨w, h, _⟩ => by omega)
theorem oU_0 (P : Pl) (x y : Nat) : P.oU x y 0 = false := dcP_f (fun ⟨w, h, _⟩ => by omega)
theorem en_on {P : Pl} {w x y : Nat} (h : P.enP w x y) : P.onP w x y := by
  unfold Pl.enP at h
  unfold Pl.onP
  omega
theorem j_lvq {X : Cx} {pc : Nat} {lv lv' : List (Option Value)} {st : List Value} {σ : St} (h : lv = lv') (k : J X pc lv' st σ) : J X pc lv st σ := by rw [h]; exact k
def Pl.lin (P : Pl) (lx ly w : Nat) : Int := if P.wl w 3 = 1 then ((2 * P.wl w 0 : Nat) : Int) - ((2 * lx + 1 : Nat) : Int) else ((2 * P.wl w 1 : Nat) : Int) - ((2 * ly + 1 : Nat) : Int)
def Pl.low (P : Pl) (lx ly w : Nat) : Int := if P.wl w 3 = 1 then ((2 * P.wl w 1 : Nat) : Int) - ((2 * ly + 1 : Nat) : Int) else ((2 * P.wl w 0 : Nat) : Int) - ((2 * lx + 1 : Nat) : Int)
def Pl.acr (P : Pl) (dx dy : Int) (w : Nat) : Int := if P.wl w 3 = 1 then dx else dy
def Pl.alo (P : Pl) (dx dy : Int) (w : Nat) : Int := if P.wl w 3 = 1 then dy else dx
def Pl.gap (P : Pl) (lx ly : Nat) (dx dy : Int) (w : Nat) : Int := if P.acr dx dy w < 0 then -(P.lin lx ly w) else P.lin lx ly w
def Pl.stp (P : Pl) (dx dy : Int) (w : Nat) : Int := ((P.acr dx dy w).natAbs : Int)
def Pl.onB (P : Pl) (lx ly w : Nat) (mv s : Int) : Bool := decide (P.low lx ly w * s ≤ mv ∧ mv ≤ (P.low lx ly w + ((2 * P.wl w 2 : Nat) : Int)) * s)
def Pl.hit (P : Pl) (lx ly : Nat) (dx dy : Int) (w : Nat) : Bool := decide (¬ P.acr dx dy w = 0) && decide (0 ≤ P.gap lx ly dx dy w) && P.onB lx ly w (P.alo dx dy w * P.gap lx ly dx dy w) (P.stp dx dy w)
def Pl.fw (P : Pl) (lx ly : Nat) (dx dy : Int) : Nat → Option (Nat × Int × Int)
  | 0 => none
  | w + 1 => match P.fw lx ly dx dy w with
    | none => if P.hit lx ly dx dy w = true then some (w, P.gap lx ly dx dy w, P.stp dx dy w) else none
    | some q => if P.hit lx ly dx dy w = true ∧ P.gap lx ly dx dy w * q.2.2 < q.2.1 * P.stp dx dy w then some (w, P.gap lx ly dx dy w, P.stp dx dy w) else some q
def fwI (P : Pl) (lx ly : Nat) (dx dy : Int) (i : Nat) (a b c : Int32) : Prop := (P.fw lx ly dx dy i = none ∧ a = -9) ∨ ∃ (f : Nat) (g s : Int), P.fw lx ly dx dy i = some (f, g, s) ∧ a = nI f ∧ b = iI g ∧ c = iI s ∧ f < i ∧ bd g 80 ∧ bd s 80
def fwR (o : Option (Nat × Int × Int)) : Int32 := match o with
  | none => -9
  | some q => nI q.1
theorem nI_m9 {k : Nat} (h : k < 2147483648) : ¬ nI k = -9 := fun q => by
  have h1 := nI_pos (n := k) h
  rw [q] at h1
  exact h1 (by decide)
theorem fwI_0 (P : Pl) (lx ly : Nat) (dx dy : Int) (b c : Int32) : fwI P lx ly dx dy 0 (-9) b c := Or.inl ⟨rfl, rfl⟩
theorem fwI_no {P : Pl} {lx ly i : Nat} {dx dy : Int} {a b c : Int32} (h : fwI P lx ly dx dy i a b c) (hn : P.hit lx ly dx dy i = false) : fwI P lx ly dx dy (i + 1) a b c := by
  rcases h with ⟨h1, h2⟩ | ⟨f, g, s, h1, h2, h3, h4, h5, h6, h7⟩
  · refine Or.inl ⟨?_, h2⟩
    rw [Pl.fw, h1]
    show (if _ then _ else _) = _
    rw [if_neg (by rw [hn]; decide)]
  · refine Or.inr ⟨f, g, s, ?_, h2, h3, h4, by omega, h6, h7⟩
    rw [Pl.fw, h1]
    show (if _ then _ else _) = _
    rw [if_neg (by rw [hn]; exact fun q => absurd q.1 (by decide))]
theorem fwI_new {P : Pl} {lx ly i : Nat} {dx dy : Int} {a b c : Int32} (h : fwI P lx ly dx dy i a b c) (ha : a = -9) (hi : i < 2147483648) (hn : P.hit lx ly dx dy i = true) (b1 : bd (P.gap lx ly dx dy i) 80) (b2 : bd (P.stp dx dy i) 80) : fwI P lx ly dx dy (i + 1) (nI i) (iI (P.gap lx ly dx dy i)) (iI (P.stp dx dy i)) := by
  rcases h with ⟨h1, h2⟩ | ⟨f, g, s, h1, h2, h3, h4, h5, h6, h7⟩
  · refine Or.inr ⟨i, _, _, ?_, rfl, rfl, rfl, by omega, b1, b2⟩
    rw [Pl.fw, h1]
    show (if _ then _ else _) = _
    rw [if_pos hn]
  · exact absurd (h2.symm.trans ha) (nI_m9 (by omega))
theorem fwI_less {P : Pl} {lx ly i f : Nat} {dx dy g s : Int} (h1 : P.fw lx ly dx dy i = some (f, g, s)) (hn : P.hit lx ly dx dy i = true) (hl : P.gap lx ly dx dy i * s < g * P.stp dx dy i) (b1 : bd (P.gap lx ly dx dy i) 80) (b2 : bd (P.stp dx dy i) 80) : fwI P lx ly dx dy (i + 1) (nI i) (iI (P.gap lx ly dx dy i)) (iI (P.stp dx dy i)) := by
  refine Or.inr ⟨i, _, _, ?_, rfl, rfl, rfl, by omega, b1, b2⟩
  rw [Pl.fw, h1]
  show (if _ then _ else _) = _
  rw [if_pos ⟨hn, hl⟩]
theorem fwI_keep {P : Pl} {lx ly i f : Nat} {dx dy g s : Int} {a b c : Int32} (h : fwI P lx ly dx dy i a b c) (h0 : P.fw lx ly dx dy i = some (f, g, s)) (hl : g * P.stp dx dy i ≤ P.gap lx ly dx dy i * s) : fwI P lx ly dx dy (i + 1) a b c := by
  rcases h with ⟨h1, h2⟩ | ⟨f', g', s', h1, h2, h3, h4, h5, h6, h7⟩
  · rw [h1] at h0; cases h0
  · rw [h1] at h0
    cases h0
    refine Or.inr ⟨f, g, s, ?_, h2, h3, h4, by omega, h6, h7⟩
    rw [Pl.fw, h1]
    show (if _ then _ else _) = _
    rw [if_neg (fun q => by have := q.2; simp only at this; omega)]
theorem fwI_some {P : Pl} {lx ly i : Nat} {dx dy : Int} {a b c : Int32} (h : fwI P lx ly dx dy i a b c) (ha : ¬ a = -9) : ∃ (f : Nat) (g s : Int), P.fw lx ly dx dy i = some (f, g, s) ∧ a = nI f ∧ b = iI g ∧ c = iI s ∧ f < i ∧ bd g 80 ∧ bd s 80 := by
  rcases h with ⟨h1, h2⟩ | h
  · exact absurd h2 ha
  · exact h
theorem fwI_end {P : Pl} {lx ly i : Nat} {dx dy : Int} {a b c : Int32} (h : fwI P lx ly dx dy i a b c) : a = fwR (P.fw lx ly dx dy i) := by
  rcases h with ⟨h1, h2⟩ | ⟨f, g, s, h1, h2, -⟩
  · rw [h1, h2]; rfl
  · rw [h1, h2]; rfl
theorem bd_lin {P : Pl} (hBd : PB P) (hWl : ∀ w, w < P.nw → WallOK P w) {lx ly w : Nat} (h1 : lx ≤ 9) (h2 : ly ≤ 9) (hw : w < P.nw) : bd (P.lin lx ly w) 80 := by
  obtain ⟨b1, b2, b3, b4, b5, b6, b7⟩ := hBd
  obtain ⟨w1, w2, w3, w4, w5, w6⟩ := hWl w hw
  unfold Pl.lin
  split
  · exact ⟨by omega, by omega⟩
  · exact ⟨by omega, by omega⟩
set_option maxRecDepth 10000 in
set_option maxHeartbeats 2000000 in
theorem c_X3_isEventPoint {l : Launch} {n : Nat} {E : Ev} {σ : St} {k : Nat} {P : Pl} (hn : 55 ≤ n) (hk : isPl n k) (hP : PlanOK σ k P) (hBd : PB P) (hWl : ∀ w, w < P.nw → WallOK P w) (x y : Nat) (hx : x ≤ 9) (hy : y ≤ 9) : Ct l yX3_isEventPoint cX3_isEventPoint 11 (some .boolean) 1 n E [.ref (E.1 + k), .int (nI (x)), .int (nI (y))] σ (ro (.int (bI (dcP (P.evP x y)))) σ) := by
  refine Ct.of (lv0 := [some (.ref (E.1 + k)), some (.int (nI (x))), some (.int (nI (y))), none, none, none, none, none, none, none, none]) (by decide) (Nat.le_of_ble_eq_true rfl) rfl ?_
  intro X hXn hXE hXl hXL F hRt
  subst hXn hXE hXl
  have hL : ∀ i, i < 11 → i < X.nL := fun i h => by rw [hXL]; exact h
  have hB0 := hBd
  obtain ⟨b1, b2, b3, b4, b5, b6, b7⟩ := hB0
  refine j_iconst (v := nI (0)) F dX3_isEventPoint_0 rfl (by decide) ?_
  refine j_istore_n (lv' := [some (.ref (X.E.1 + k)), some (.int (nI (x))), some (.int (nI (y))), some (.int (nI (0))), none, none, none, none, none, none, none]) F dX3_isEventPoint_1 rfl (hL _ (by decide)) rfl rfl ?_
  refine j_iconst (v := nI (0)) F dX3_isEventPoint_2 rfl (by decide) ?_
  refine j_istore (lv' := [some (.ref (X.E.1 + k)), some (.int (nI (x))), some (.int (nI (y))), some (.int (nI (0))), some (.int (nI (0))), none, none, none, none, none, none]) F dX3_isEventPoint_3 rfl (hL _ (by decide)) rfl rfl ?_
  refine j_iconst (v := nI (0)) F dX3_isEventPoint_5 rfl (by decide) ?_
  refine j_istore (lv' := [some (.ref (X.E.1 + k)), some (.int (nI (x))), some (.int (nI (y))), some (.int (nI (0))), some (.int (nI (0))), some (.int (nI (0))), none, none, none, none, none]) F dX3_isEventPoint_6 rfl (hL _ (by decide)) rfl rfl ?_
  refine j_lvq (lv' := [some (.ref (X.E.1 + k)), some (.int (nI (x))), some (.int (nI (y))), some (.int (bI (P.oR x y 0))), some (.int (bI (P.oU x y 0))), some (.int (nI (0))), none, none, none, none, none]) (by rw [oR_0, oU_0]; rfl) ?_
  have loop_8 : ∀ (ii : Nat), ii ≤ P.nw → (∀ w, w < ii → ¬ P.enP w x y) → J X 8 [some (.ref (X.E.1 + k)), some (.int (nI (x))), some (.int (nI (y))), some (.int (bI (P.oR x y ii))), some (.int (bI (P.oU x y ii))), some (.int (nI (ii))), none, none, none, none, none] [] σ := by
    refine dnL (fun ii hii ih_8 => ?_)
    intro hne
    refine j_iload F dX3_isEventPoint_8 rfl rfl ?_
    refine j_aload_n F dX3_isEventPoint_10 rfl rfl ?_
    refine gX3_48 hk F dX3_isEventPoint_11 rfl ?_
    refine j_int (y := nI (P.nw)) (hP.nw) ?_
    refine j_icmp_geN (a := ii) (b := P.nw) F (by omega) (by omega) (tgt := 162) dX3_isEventPoint_14 (by decide) rfl (fun c_14 => ?_) (fun c_14 => ?_)
    · have hiN : ii = P.nw := by omega
      refine j_iload_n F dX3_isEventPoint_162 rfl rfl ?_
      refine j_if_eqB F (x := P.oR x y ii) (tgt := 175) dX3_isEventPoint_163 (by decide) rfl (fun c_163 => ?_) (fun c_163 => ?_)
      · rw [hiN] at c_163 hne
        have hz : dcP (P.evP x y) = false := dcP_f (fun q => q.elim (fun ⟨w, r1, r2⟩ => hne w r1 r2) (fun r => dcP_no c_163 r.1))
        refine j_iconst (v := nI (0)) F dX3_isEventPoint_175 rfl (by decide) ?_
        exact j_iret F hRt rfl (roB_f hz) dX3_isEventPoint_176
      · rw [hiN] at c_163
        refine j_iload F dX3_isEventPoint_166 rfl rfl ?_
        refine j_if_eqB F (x := P.oU x y ii) (tgt := 175) dX3_isEventPoint_168 (by decide) rfl (fun c_168 => ?_) (fun c_168 => ?_)
        · rw [hiN] at c_168 hne
          have hz : dcP (P.evP x y) = false := dcP_f (fun q => q.elim (fun ⟨w, r1, r2⟩ => hne w r1 r2) (fun r => dcP_no c_168 r.2))
          refine j_iconst (v := nI (0)) F dX3_isEventPoint_175 rfl (by decide) ?_
          exact j_iret F hRt rfl (roB_f hz) dX3_isEventPoint_176
        · rw [hiN] at c_168
          have hz : dcP (P.evP x y) = true := dcP_t (Or.inr ⟨dcP_of c_163, dcP_of c_168⟩)
          refine j_iconst (v := nI (1)) F dX3_isEventPoint_171 rfl (by decide) ?_
          refine j_goto (pc' := 176) F dX3_isEventPoint_172 (by decide) ?_
          exact j_iret F hRt rfl (roB_t hz) dX3_isEventPoint_176
    · obtain ⟨w1, w2, w3, w4, w5, w6⟩ := hWl ii c_14
      refine j_aload_n F dX3_isEventPoint_17 rfl rfl ?_
      refine j_iload F dX3_isEventPoint_18 rfl rfl ?_
      refine j_iconst (v := nI (3)) F dX3_isEventPoint_20 rfl (by decide) ?_
      refine kX3_51 hk F (As := [.int (nI (ii)), .int (nI (3))]) (rest := []) (c_X2_wallPart hn hk hP hBd ii 3 (by omega) (by decide)) (by decide) rfl rfl (Nat.le_of_ble_eq_true rfl) dX3_isEventPoint_21 rfl (ro_k ?_)
      refine j_iconst (v := nI (1)) F dX3_isEventPoint_24 rfl (by decide) ?_
      refine j_icmp_neN (a := P.wl ii 3) (b := 1) F (by omega) (by omega) (tgt := 32) dX3_isEventPoint_25 (by decide) rfl (fun c_25 => ?_) (fun c_25 => ?_)
      · refine j_iconst (v := nI (0)) F dX3_isEventPoint_32 rfl (by decide) ?_
        refine j_istore (lv' := [some (.ref (X.E.1 + k)), some (.int (nI (x))), some (.int (nI (y))), some (.int (bI (P.oR x y ii))), some (.int (bI (P.oU x y ii))), some (.int (nI (ii))), some (.int (nI (0))), none, none, none, none]) F dX3_isEventPoint_33 rfl (hL _ (by decide)) rfl rfl ?_
        refine j_iload_n F dX3_isEventPoint_35 rfl rfl ?_
        refine j_aload_n F dX3_isEventPoint_36 rfl rfl ?_
        refine j_iload F dX3_isEventPoint_37 rfl rfl ?_
        refine j_iconst (v := nI (0)) F dX3_isEventPoint_39 rfl (by decide) ?_
        refine kX3_51 hk F (As := [.int (nI (ii)), .int (nI (0))]) (rest := [.int (nI (x))]) (c_X2_wallPart hn hk hP hBd ii 0 (by omega) (by decide)) (by decide) rfl rfl (Nat.le_of_ble_eq_true rfl) dX3_isEventPoint_40 rfl (ro_k ?_)
        refine j_isubZ F (a := ((x : Nat) : Int)) (b := ((P.wl ii 0 : Nat) : Int)) (nI_iI _) (nI_iI _) dX3_isEventPoint_43 rfl ?_
        refine j_istore (lv' := [some (.ref (X.E.1 + k)), some (.int (nI (x))), some (.int (nI (y))), some (.int (bI (P.oR x y ii))), some (.int (bI (P.oU x y ii))), some (.int (nI (ii))), some (.int (nI (0))), some (.int (iI (((x : Nat) : Int) - ((P.wl ii 0 : Nat) : Int)))), none, none, none]) F dX3_isEventPoint_44 rfl (hL _ (by decide)) rfl rfl ?_
        refine j_iload_n F dX3_isEventPoint_46 rfl rfl ?_
        refine j_aload_n F dX3_isEventPoint_47 rfl rfl ?_
        refine j_iload F dX3_isEventPoint_48 rfl rfl ?_
        refine j_iconst (v := nI (1)) F dX3_isEventPoint_50 rfl (by decide) ?_
        refine kX3_51 hk F (As := [.int (nI (ii)), .int (nI (1))]) (rest := [.int (nI (y))]) (c_X2_wallPart hn hk hP hBd ii 1 (by omega) (by decide)) (by decide) rfl rfl (Nat.le_of_ble_eq_true rfl) dX3_isEventPoint_51 rfl (ro_k ?_)
        refine j_isubZ F (a := ((y : Nat) : Int)) (b := ((P.wl ii 1 : Nat) : Int)) (nI_iI _) (nI_iI _) dX3_isEventPoint_54 rfl ?_
        refine j_istore (lv' := [some (.ref (X.E.1 + k)), some (.int (nI (x))), some (.int (nI (y))), some (.int (bI (P.oR x y ii))), some (.int (bI (P.oU x y ii))), some (.int (nI (ii))), some (.int (nI (0))), some (.int (iI (((x : Nat) : Int) - ((P.wl ii 0 : Nat) : Int)))), some (.int (iI (((y : Nat) : Int) - ((P.wl ii 1 : Nat) : Int)))), none, none]) F dX3_isEventPoint_55 rfl (hL _ (by decide)) rfl rfl ?_
        refine j_iload F dX3_isEventPoint_57 rfl rfl ?_
        refine j_if_eqN (a := 0) F (by omega) (tgt := 67) dX3_isEventPoint_59 (by decide) rfl (fun c_59 => ?_) (fun c_59 => False.elim (by revert c_59; decide))
        refine j_iload F dX3_isEventPoint_67 rfl rfl ?_
        refine j_istore (lv' := [some (.ref (X.E.1 + k)), some (.int (nI (x))), some (.int (nI (y))), some (.int (bI (P.oR x y ii))), some (.int (bI (P.oU x y ii))), some (.int (nI (ii))), some (.int (nI (0))), some (.int (iI (((x : Nat) : Int) - ((P.wl ii 0 : Nat) : Int)))), some (.int (iI (((y : Nat) : Int) - ((P.wl ii 1 : Nat) : Int)))), some (.int (iI (((x : Nat) : Int) - ((P.wl ii 0 : Nat) : Int)))), none]) F dX3_isEventPoint_69 rfl (hL _ (by decide)) rfl rfl ?_
        refine j_aload_n F dX3_isEventPoint_71 rfl rfl ?_
        refine j_iload F dX3_isEventPoint_72 rfl rfl ?_
        refine j_iconst (v := nI (2)) F dX3_isEventPoint_74 rfl (by decide) ?_
        refine kX3_51 hk F (As := [.int (nI (ii)), .int (nI (2))]) (rest := []) (c_X2_wallPart hn hk hP hBd ii 2 (by omega) (by decide)) (by decide) rfl rfl (Nat.le_of_ble_eq_true rfl) dX3_isEventPoint_75 rfl (ro_k ?_)
        refine j_istore (lv' := [some (.ref (X.E.1 + k)), some (.int (nI (x))), some (.int (nI (y))), some (.int (bI (P.oR x y ii))), some (.int (bI (P.oU x y ii))), some (.int (nI (ii))), some (.int (nI (0))), some (.int (iI (((x : Nat) : Int) - ((P.wl ii 0 : Nat) : Int)))), some (.int (iI (((y : Nat) : Int) - ((P.wl ii 1 : Nat) : Int)))), some (.int (iI (((x : Nat) : Int) - ((P.wl ii 0 : Nat) : Int)))), some (.int (nI (P.wl ii 2)))]) F dX3_isEventPoint_78 rfl (hL _ (by decide)) rfl rfl ?_
        refine j_iload F dX3_isEventPoint_80 rfl rfl ?_
        refine j_if_eqN (a := 0) F (by omega) (tgt := 90) dX3_isEventPoint_82 (by decide) rfl (fun c_82 => ?_) (fun c_82 => False.elim (by revert c_82; decide))
        refine j_iload F dX3_isEventPoint_90 rfl rfl ?_
        refine j_if_neZ F (a := ((y : Nat) : Int) - ((P.wl ii 1 : Nat) : Int)) rfl (bd_sub (bd_n (show y ≤ 40 by omega)) (bd_n (show P.wl ii 1 ≤ 40 by omega))) (by decide) (tgt := 156) dX3_isEventPoint_92 (by decide) rfl (fun c_92 => ?_) (fun c_92 => ?_)
        · have hon : ¬ P.onP ii x y := by unfold Pl.onP; omega
          have hnx : ¬ P.enP ii x y := fun q => hon (en_on q)
          have hR1 : P.oR x y (ii + 1) = P.oR x y ii := oR_no (fun q => hon q.1)
          have hU1 : P.oU x y (ii + 1) = P.oU x y ii := oU_no (fun q => hon q.1)
          refine j_iincN (a := ii) (c := 1) (lv' := [some (.ref (X.E.1 + k)), some (.int (nI (x))), some (.int (nI (y))), some (.int (bI (P.oR x y ii))), some (.int (bI (P.oU x y ii))), some (.int (nI (ii + 1))), some (.int (nI (0))), some (.int (iI (((x : Nat) : Int) - ((P.wl ii 0 : Nat) : Int)))), some (.int (iI (((y : Nat) : Int) - ((P.wl ii 1 : Nat) : Int)))), some (.int (iI (((x : Nat) : Int) - ((P.wl ii 0 : Nat) : Int)))), some (.int (nI (P.wl ii 2)))]) F dX3_isEventPoint_156 rfl rfl (by decide) (hL _ (by decide)) rfl rfl ?_
          refine j_goto (pc' := 8) F dX3_isEventPoint_159 (by decide) ?_
          refine j_lv (lv' := [some (.ref (X.E.1 + k)), some (.int (nI (x))), some (.int (nI (y))), some (.int (bI (P.oR x y ii))), some (.int (bI (P.oU x y ii))), some (.int (nI (ii + 1))), none, none, none, none, none]) (sbl (ks := [0, 1, 2, 3, 4, 5]) rfl) ?_
          refine j_lvq (lv' := [some (.ref (X.E.1 + k)), some (.int (nI (x))), some (.int (nI (y))), some (.int (bI (P.oR x y (ii + 1)))), some (.int (bI (P.oU x y (ii + 1)))), some (.int (nI (ii + 1))), none, none, none, none, none]) (by rw [hR1, hU1]) ?_
          exact ih_8 (by omega)  (fun w h => by rcases (show w < ii ∨ w = ii by omega) with t | rfl; exact hne w t; exact hnx)
        · refine j_iload F dX3_isEventPoint_95 rfl rfl ?_
          refine j_if_ltZ F (a := ((x : Nat) : Int) - ((P.wl ii 0 : Nat) : Int)) rfl (bd_sub (bd_n (show x ≤ 40 by omega)) (bd_n (show P.wl ii 0 ≤ 40 by omega))) (by decide) (tgt := 156) dX3_isEventPoint_97 (by decide) rfl (fun c_97 => ?_) (fun c_97 => ?_)
          · have hon : ¬ P.onP ii x y := by unfold Pl.onP; omega
            have hnx : ¬ P.enP ii x y := fun q => hon (en_on q)
            have hR1 : P.oR x y (ii + 1) = P.oR x y ii := oR_no (fun q => hon q.1)
            have hU1 : P.oU x y (ii + 1) = P.oU x y ii := oU_no (fun q => hon q.1)
            refine j_iincN (a := ii) (c := 1) (lv' := [some (.ref (X.E.1 + k)), some (.int (nI (x))), some (.int (nI (y))), some (.int (bI (P.oR x y ii))), some (.int (bI (P.oU x y ii))), some (.int (nI (ii + 1))), some (.int (nI (0))), some (.int (iI (((x : Nat) : Int) - ((P.wl ii 0 : Nat) : Int)))), some (.int (iI (((y : Nat) : Int) - ((P.wl ii 1 : Nat) : Int)))), some (.int (iI (((x : Nat) : Int) - ((P.wl ii 0 : Nat) : Int)))), some (.int (nI (P.wl ii 2)))]) F dX3_isEventPoint_156 rfl rfl (by decide) (hL _ (by decide)) rfl rfl ?_
            refine j_goto (pc' := 8) F dX3_isEventPoint_159 (by decide) ?_
            refine j_lv (lv' := [some (.ref (X.E.1 + k)), some (.int (nI (x))), some (.int (nI (y))), some (.int (bI (P.oR x y ii))), some (.int (bI (P.oU x y ii))), some (.int (nI (ii + 1))), none, none, none, none, none]) (sbl (ks := [0, 1, 2, 3, 4, 5]) rfl) ?_
            refine j_lvq (lv' := [some (.ref (X.E.1 + k)), some (.int (nI (x))), some (.int (nI (y))), some (.int (bI (P.oR x y (ii + 1)))), some (.int (bI (P.oU x y (ii + 1)))), some (.int (nI (ii + 1))), none, none, none, none, none]) (by rw [hR1, hU1]) ?_
            exact ih_8 (by omega)  (fun w h => by rcases (show w < ii ∨ w = ii by omega) with t | rfl; exact hne w t; exact hnx)
          · refine j_iload F dX3_isEventPoint_100 rfl rfl ?_
            refine j_iload F dX3_isEventPoint_102 rfl rfl ?_
            refine j_icmp_leZ F (a := ((x : Nat) : Int) - ((P.wl ii 0 : Nat) : Int)) (b := ((P.wl ii 2 : Nat) : Int)) rfl (nI_iI _) (bd_sub (bd_n (show x ≤ 40 by omega)) (bd_n (show P.wl ii 0 ≤ 40 by omega))) (bd_n (show P.wl ii 2 ≤ 40 by omega)) (by decide) (by decide) (tgt := 110) dX3_isEventPoint_104 (by decide) rfl (fun c_104 => ?_) (fun c_104 => ?_)
            · refine j_iload F dX3_isEventPoint_110 rfl rfl ?_
              refine j_if_eqZ F (a := ((x : Nat) : Int) - ((P.wl ii 0 : Nat) : Int)) rfl (bd_sub (bd_n (show x ≤ 40 by omega)) (bd_n (show P.wl ii 0 ≤ 40 by omega))) (by decide) (tgt := 122) dX3_isEventPoint_112 (by decide) rfl (fun c_112 => ?_) (fun c_112 => ?_)
              · have hz : dcP (P.evP x y) = true := dcP_t (Or.inl ⟨ii, c_14, by unfold Pl.enP; omega⟩)
                refine j_iconst (v := nI (1)) F dX3_isEventPoint_122 rfl (by decide) ?_
                exact j_iret F hRt rfl (roB_t hz) dX3_isEventPoint_123
              · refine j_iload F dX3_isEventPoint_115 rfl rfl ?_
                refine j_iload F dX3_isEventPoint_117 rfl rfl ?_
                refine j_icmp_neZ F (a := ((x : Nat) : Int) - ((P.wl ii 0 : Nat) : Int)) (b := ((P.wl ii 2 : Nat) : Int)) rfl (nI_iI _) (bd_sub (bd_n (show x ≤ 40 by omega)) (bd_n (show P.wl ii 0 ≤ 40 by omega))) (bd_n (show P.wl ii 2 ≤ 40 by omega)) (by decide) (by decide) (tgt := 124) dX3_isEventPoint_119 (by decide) rfl (fun c_119 => ?_) (fun c_119 => ?_)
                · have hon : P.onP ii x y := by unfold Pl.onP; omega
                  have hnx : ¬ P.enP ii x y := by unfold Pl.enP; omega
                  refine j_iload_n F dX3_isEventPoint_124 rfl rfl ?_
                  refine j_if_neB F (x := P.oR x y ii) (tgt := 133) dX3_isEventPoint_125 (by decide) rfl (fun c_125 => ?_) (fun c_125 => ?_)
                  · refine j_iconst (v := nI (1)) F dX3_isEventPoint_133 rfl (by decide) ?_
                    refine j_goto (pc' := 138) F dX3_isEventPoint_134 (by decide) ?_
                    refine j_int (y := bI true) (by decide) ?_
                    have hR1 : P.oR x y (ii + 1) = true := oR_yes ⟨hon, c_25⟩
                    refine j_istore_n (lv' := [some (.ref (X.E.1 + k)), some (.int (nI (x))), some (.int (nI (y))), some (.int (bI (true))), some (.int (bI (P.oU x y ii))), some (.int (nI (ii))), some (.int (nI (0))), some (.int (iI (((x : Nat) : Int) - ((P.wl ii 0 : Nat) : Int)))), some (.int (iI (((y : Nat) : Int) - ((P.wl ii 1 : Nat) : Int)))), some (.int (iI (((x : Nat) : Int) - ((P.wl ii 0 : Nat) : Int)))), some (.int (nI (P.wl ii 2)))]) F dX3_isEventPoint_138 rfl (hL _ (by decide)) rfl rfl ?_
                    refine j_iload F dX3_isEventPoint_139 rfl rfl ?_
                    refine j_if_neB F (x := P.oU x y ii) (tgt := 149) dX3_isEventPoint_141 (by decide) rfl (fun c_141 => ?_) (fun c_141 => ?_)
                    · refine j_iconst (v := nI (1)) F dX3_isEventPoint_149 rfl (by decide) ?_
                      refine j_goto (pc' := 154) F dX3_isEventPoint_150 (by decide) ?_
                      refine j_int (y := bI true) (by decide) ?_
                      have hU1 : P.oU x y (ii + 1) = true := (oU_no (fun q => c_25 q.2)).trans c_141
                      refine j_istore (lv' := [some (.ref (X.E.1 + k)), some (.int (nI (x))), some (.int (nI (y))), some (.int (bI (true))), some (.int (bI (true))), some (.int (nI (ii))), some (.int (nI (0))), some (.int (iI (((x : Nat) : Int) - ((P.wl ii 0 : Nat) : Int)))), some (.int (iI (((y : Nat) : Int) - ((P.wl ii 1 : Nat) : Int)))), some (.int (iI (((x : Nat) : Int) - ((P.wl ii 0 : Nat) : Int)))), some (.int (nI (P.wl ii 2)))]) F dX3_isEventPoint_154 rfl (hL _ (by decide)) rfl rfl ?_
                      refine j_iincN (a := ii) (c := 1) (lv' := [some (.ref (X.E.1 + k)), some (.int (nI (x))), some (.int (nI (y))), some (.int (bI (true))), some (.int (bI (true))), some (.int (nI (ii + 1))), some (.int (nI (0))), some (.int (iI (((x : Nat) : Int) - ((P.wl ii 0 : Nat) : Int)))), some (.int (iI (((y : Nat) : Int) - ((P.wl ii 1 : Nat) : Int)))), some (.int (iI (((x : Nat) : Int) - ((P.wl ii 0 : Nat) : Int)))), some (.int (nI (P.wl ii 2)))]) F dX3_isEventPoint_156 rfl rfl (by decide) (hL _ (by decide)) rfl rfl ?_
                      refine j_goto (pc' := 8) F dX3_isEventPoint_159 (by decide) ?_
                      refine j_lv (lv' := [some (.ref (X.E.1 + k)), some (.int (nI (x))), some (.int (nI (y))), some (.int (bI (true))), some (.int (bI (true))), some (.int (nI (ii + 1))), none, none, none, none, none]) (sbl (ks := [0, 1, 2, 3, 4, 5]) rfl) ?_
                      refine j_lvq (lv' := [some (.ref (X.E.1 + k)), some (.int (nI (x))), some (.int (nI (y))), some (.int (bI (P.oR x y (ii + 1)))), some (.int (bI (P.oU x y (ii + 1)))), some (.int (nI (ii + 1))), none, none, none, none, none]) (by rw [hR1, hU1]) ?_
                      exact ih_8 (by omega)  (fun w h => by rcases (show w < ii ∨ w = ii by omega) with t | rfl; exact hne w t; exact hnx)
                    · refine j_iload F dX3_isEventPoint_144 rfl rfl ?_
                      refine j_if_eqN (a := 0) F (by omega) (tgt := 153) dX3_isEventPoint_146 (by decide) rfl (fun c_146 => ?_) (fun c_146 => False.elim (by revert c_146; decide))
                      refine j_iconst (v := nI (0)) F dX3_isEventPoint_153 rfl (by decide) ?_
                      refine j_int (y := bI false) (by decide) ?_
                      have hU1 : P.oU x y (ii + 1) = false := (oU_no (fun q => c_25 q.2)).trans c_141
                      refine j_istore (lv' := [some (.ref (X.E.1 + k)), some (.int (nI (x))), some (.int (nI (y))), some (.int (bI (true))), some (.int (bI (false))), some (.int (nI (ii))), some (.int (nI (0))), some (.int (iI (((x : Nat) : Int) - ((P.wl ii 0 : Nat) : Int)))), some (.int (iI (((y : Nat) : Int) - ((P.wl ii 1 : Nat) : Int)))), some (.int (iI (((x : Nat) : Int) - ((P.wl ii 0 : Nat) : Int)))), some (.int (nI (P.wl ii 2)))]) F dX3_isEventPoint_154 rfl (hL _ (by decide)) rfl rfl ?_
                      refine j_iincN (a := ii) (c := 1) (lv' := [some (.ref (X.E.1 + k)), some (.int (nI (x))), some (.int (nI (y))), some (.int (bI (true))), some (.int (bI (false))), some (.int (nI (ii + 1))), some (.int (nI (0))), some (.int (iI (((x : Nat) : Int) - ((P.wl ii 0 : Nat) : Int)))), some (.int (iI (((y : Nat) : Int) - ((P.wl ii 1 : Nat) : Int)))), some (.int (iI (((x : Nat) : Int) - ((P.wl ii 0 : Nat) : Int)))), some (.int (nI (P.wl ii 2)))]) F dX3_isEventPoint_156 rfl rfl (by decide) (hL _ (by decide)) rfl rfl ?_
                      refine j_goto (pc' := 8) F dX3_isEventPoint_159 (by decide) ?_
                      refine j_lv (lv' := [some (.ref (X.E.1 + k)), some (.int (nI (x))), some (.int (nI (y))), some (.int (bI (true))), some (.int (bI (false))), some (.int (nI (ii + 1))), none, none, none, none, none]) (sbl (ks := [0, 1, 2, 3, 4, 5]) rfl) ?_
                      refine j_lvq (lv' := [some (.ref (X.E.1 + k)), some (.int (nI (x))), some (.int (nI (y))), some (.int (bI (P.oR x y (ii + 1)))), some (.int (bI (P.oU x y (ii + 1)))), some (.int (nI (ii + 1))), none, none, none, none, none]) (by rw [hR1, hU1]) ?_
                      exact ih_8 (by omega)  (fun w h => by rcases (show w < ii ∨ w = ii by omega) with t | rfl; exact hne w t; exact hnx)
                  · refine j_iload F dX3_isEventPoint_128 rfl rfl ?_
                    refine j_if_neN (a := 0) F (by omega) (tgt := 137) dX3_isEventPoint_130 (by decide) rfl (fun c_130 => False.elim (by revert c_130; decide)) (fun c_130 => ?_)
                    refine j_iconst (v := nI (1)) F dX3_isEventPoint_133 rfl (by decide) ?_
                    refine j_goto (pc' := 138) F dX3_isEventPoint_134 (by decide) ?_
                    refine j_int (y := bI true) (by decide) ?_
                    have hR1 : P.oR x y (ii + 1) = true := oR_yes ⟨hon, c_25⟩
                    refine j_istore_n (lv' := [some (.ref (X.E.1 + k)), some (.int (nI (x))), some (.int (nI (y))), some (.int (bI (true))), some (.int (bI (P.oU x y ii))), some (.int (nI (ii))), some (.int (nI (0))), some (.int (iI (((x : Nat) : Int) - ((P.wl ii 0 : Nat) : Int)))), some (.int (iI (((y : Nat) : Int) - ((P.wl ii 1 : Nat) : Int)))), some (.int (iI (((x : Nat) : Int) - ((P.wl ii 0 : Nat) : Int)))), some (.int (nI (P.wl ii 2)))]) F dX3_isEventPoint_138 rfl (hL _ (by decide)) rfl rfl ?_
                    refine j_iload F dX3_isEventPoint_139 rfl rfl ?_
                    refine j_if_neB F (x := P.oU x y ii) (tgt := 149) dX3_isEventPoint_141 (by decide) rfl (fun c_141 => ?_) (fun c_141 => ?_)
                    · refine j_iconst (v := nI (1)) F dX3_isEventPoint_149 rfl (by decide) ?_
                      refine j_goto (pc' := 154) F dX3_isEventPoint_150 (by decide) ?_
                      refine j_int (y := bI true) (by decide) ?_
                      have hU1 : P.oU x y (ii + 1) = true := (oU_no (fun q => c_25 q.2)).trans c_141
                      refine j_istore (lv' := [some (.ref (X.E.1 + k)), some (.int (nI (x))), some (.int (nI (y))), some (.int (bI (true))), some (.int (bI (true))), some (.int (nI (ii))), some (.int (nI (0))), some (.int (iI (((x : Nat) : Int) - ((P.wl ii 0 : Nat) : Int)))), some (.int (iI (((y : Nat) : Int) - ((P.wl ii 1 : Nat) : Int)))), some (.int (iI (((x : Nat) : Int) - ((P.wl ii 0 : Nat) : Int)))), some (.int (nI (P.wl ii 2)))]) F dX3_isEventPoint_154 rfl (hL _ (by decide)) rfl rfl ?_
                      refine j_iincN (a := ii) (c := 1) (lv' := [some (.ref (X.E.1 + k)), some (.int (nI (x))), some (.int (nI (y))), some (.int (bI (true))), some (.int (bI (true))), some (.int (nI (ii + 1))), some (.int (nI (0))), some (.int (iI (((x : Nat) : Int) - ((P.wl ii 0 : Nat) : Int)))), some (.int (iI (((y : Nat) : Int) - ((P.wl ii 1 : Nat) : Int)))), some (.int (iI (((x : Nat) : Int) - ((P.wl ii 0 : Nat) : Int)))), some (.int (nI (P.wl ii 2)))]) F dX3_isEventPoint_156 rfl rfl (by decide) (hL _ (by decide)) rfl rfl ?_
                      refine j_goto (pc' := 8) F dX3_isEventPoint_159 (by decide) ?_
                      refine j_lv (lv' := [some (.ref (X.E.1 + k)), some (.int (nI (x))), some (.int (nI (y))), some (.int (bI (true))), some (.int (bI (true))), some (.int (nI (ii + 1))), none, none, none, none, none]) (sbl (ks := [0, 1, 2, 3, 4, 5]) rfl) ?_
                      refine j_lvq (lv' := [some (.ref (X.E.1 + k)), some (.int (nI (x))), some (.int (nI (y))), some (.int (bI (P.oR x y (ii + 1)))), some (.int (bI (P.oU x y (ii + 1)))), some (.int (nI (ii + 1))), none, none, none, none, none]) (by rw [hR1, hU1]) ?_
                      exact ih_8 (by omega)  (fun w h => by rcases (show w < ii ∨ w = ii by omega) with t | rfl; exact hne w t; exact hnx)
                    · refine j_iload F dX3_isEventPoint_144 rfl rfl ?_
                      refine j_if_eqN (a := 0) F (by omega) (tgt := 153) dX3_isEventPoint_146 (by decide) rfl (fun c_146 => ?_) (fun c_146 => False.elim (by revert c_146; decide))
                      refine j_iconst (v := nI (0)) F dX3_isEventPoint_153 rfl (by decide) ?_
                      refine j_int (y := bI false) (by decide) ?_
                      have hU1 : P.oU x y (ii + 1) = false := (oU_no (fun q => c_25 q.2)).trans c_141
                      refine j_istore (lv' := [some (.ref (X.E.1 + k)), some (.int (nI (x))), some (.int (nI (y))), some (.int (bI (true))), some (.int (bI (false))), some (.int (nI (ii))), some (.int (nI (0))), some (.int (iI (((x : Nat) : Int) - ((P.wl ii 0 : Nat) : Int)))), some (.int (iI (((y : Nat) : Int) - ((P.wl ii 1 : Nat) : Int)))), some (.int (iI (((x : Nat) : Int) - ((P.wl ii 0 : Nat) : Int)))), some (.int (nI (P.wl ii 2)))]) F dX3_isEventPoint_154 rfl (hL _ (by decide)) rfl rfl ?_
                      refine j_iincN (a := ii) (c := 1) (lv' := [some (.ref (X.E.1 + k)), some (.int (nI (x))), some (.int (nI (y))), some (.int (bI (true))), some (.int (bI (false))), some (.int (nI (ii + 1))), some (.int (nI (0))), some (.int (iI (((x : Nat) : Int) - ((P.wl ii 0 : Nat) : Int)))), some (.int (iI (((y : Nat) : Int) - ((P.wl ii 1 : Nat) : Int)))), some (.int (iI (((x : Nat) : Int) - ((P.wl ii 0 : Nat) : Int)))), some (.int (nI (P.wl ii 2)))]) F dX3_isEventPoint_156 rfl rfl (by decide) (hL _ (by decide)) rfl rfl ?_
                      refine j_goto (pc' := 8) F dX3_isEventPoint_159 (by decide) ?_
                      refine j_lv (lv' := [some (.ref (X.E.1 + k)), some (.int (nI (x))), some (.int (nI (y))), some (.int (bI (true))), some (.int (bI (false))), some (.int (nI (ii + 1))), none, none, none, none, none]) (sbl (ks := [0, 1, 2, 3, 4, 5]) rfl) ?_
                      refine j_lvq (lv' := [some (.ref (X.E.1 + k)), some (.int (nI (x))), some (.int (nI (y))), some (.int (bI (P.oR x y (ii + 1)))), some (.int (bI (P.oU x y (ii + 1)))), some (.int (nI (ii + 1))), none, none, none, none, none]) (by rw [hR1, hU1]) ?_
                      exact ih_8 (by omega)  (fun w h => by rcases (show w < ii ∨ w = ii by omega) with t | rfl; exact hne w t; exact hnx)
                · have hz : dcP (P.evP x y) = true := dcP_t (Or.inl ⟨ii, c_14, by unfold Pl.enP; omega⟩)
                  refine j_iconst (v := nI (1)) F dX3_isEventPoint_122 rfl (by decide) ?_
                  exact j_iret F hRt rfl (roB_t hz) dX3_isEventPoint_123
            · have hon : ¬ P.onP ii x y := by unfold Pl.onP; omega
              have hnx : ¬ P.enP ii x y := fun q => hon (en_on q)
              have hR1 : P.oR x y (ii + 1) = P.oR x y ii := oR_no (fun q => hon q.1)
              have hU1 : P.oU x y (ii + 1) = P.oU x y ii := oU_no (fun q => hon q.1)
              refine j_goto (pc' := 156) F dX3_isEventPoint_107 (by decide) ?_
              refine j_iincN (a := ii) (c := 1) (lv' := [some (.ref (X.E.1 + k)), some (.int (nI (x))), some (.int (nI (y))), some (.int (bI (P.oR x y ii))), some (.int (bI (P.oU x y ii))), some (.int (nI (ii + 1))), some (.int (nI (0))), some (.int (iI (((x : Nat) : Int) - ((P.wl ii 0 : Nat) : Int)))), some (.int (iI (((y : Nat) : Int) - ((P.wl ii 1 : Nat) : Int)))), some (.int (iI (((x : Nat) : Int) - ((P.wl ii 0 : Nat) : Int)))), some (.int (nI (P.wl ii 2)))]) F dX3_isEventPoint_156 rfl rfl (by decide) (hL _ (by decide)) rfl rfl ?_
              refine j_goto (pc' := 8) F dX3_isEventPoint_159 (by decide) ?_
              refine j_lv (lv' := [some (.ref (X.E.1 + k)), some (.int (nI (x))), some (.int (nI (y))), some (.int (bI (P.oR x y ii))), some (.int (bI (P.oU x y ii))), some (.int (nI (ii + 1))), none, none, none, none, none]) (sbl (ks := [0, 1, 2, 3, 4, 5]) rfl) ?_
              refine j_lvq (lv' := [some (.ref (X.E.1 + k)), some (.int (nI (x))), some (.int (nI (y))), some (.int (bI (P.oR x y (ii + 1)))), some (.int (bI (P.oU x y (ii + 1)))), some (.int (nI (ii + 1))), none, none, none, none, none]) (by rw [hR1, hU1]) ?_
              exact ih_8 (by omega)  (fun w h => by rcases (show w < ii ∨ w = ii by omega) with t | rfl; exact hne w t; exact hnx)
      · refine j_iconst (v := nI (1)) F dX3_isEventPoint_28 rfl (by decide) ?_
        refine j_goto (pc' := 33) F dX3_isEventPoint_29 (by decide) ?_
        refine j_istore (lv' := [some (.ref (X.E.1 + k)), some (.int (nI (x))), some (.int (nI (y))), some (.int (bI (P.oR x y ii))), some (.int (bI (P.oU x y ii))), some (.int (nI (ii))), some (.int (nI (1))), none, none, none, none]) F dX3_isEventPoint_33 rfl (hL _ (by decide)) rfl rfl ?_
        refine j_iload_n F dX3_isEventPoint_35 rfl rfl ?_
        refine j_aload_n F dX3_isEventPoint_36 rfl rfl ?_
        refine j_iload F dX3_isEventPoint_37 rfl rfl ?_
        refine j_iconst (v := nI (0)) F dX3_isEventPoint_39 rfl (by decide) ?_
        refine kX3_51 hk F (As := [.int (nI (ii)), .int (nI (0))]) (rest := [.int (nI (x))]) (c_X2_wallPart hn hk hP hBd ii 0 (by omega) (by decide)) (by decide) rfl rfl (Nat.le_of_ble_eq_true rfl) dX3_isEventPoint_40 rfl (ro_k ?_)
        refine j_isubZ F (a := ((x : Nat) : Int)) (b := ((P.wl ii 0 : Nat) : Int)) (nI_iI _) (nI_iI _) dX3_isEventPoint_43 rfl ?_
        refine j_istore (lv' := [some (.ref (X.E.1 + k)), some (.int (nI (x))), some (.int (nI (y))), some (.int (bI (P.oR x y ii))), some (.int (bI (P.oU x y ii))), some (.int (nI (ii))), some (.int (nI (1))), some (.int (iI (((x : Nat) : Int) - ((P.wl ii 0 : Nat) : Int)))), none, none, none]) F dX3_isEventPoint_44 rfl (hL _ (by decide)) rfl rfl ?_
        refine j_iload_n F dX3_isEventPoint_46 rfl rfl ?_
        refine j_aload_n F dX3_isEventPoint_47 rfl rfl ?_
        refine j_iload F dX3_isEventPoint_48 rfl rfl ?_
        refine j_iconst (v := nI (1)) F dX3_isEventPoint_50 rfl (by decide) ?_
        refine kX3_51 hk F (As := [.int (nI (ii)), .int (nI (1))]) (rest := [.int (nI (y))]) (c_X2_wallPart hn hk hP hBd ii 1 (by omega) (by decide)) (by decide) rfl rfl (Nat.le_of_ble_eq_true rfl) dX3_isEventPoint_51 rfl (ro_k ?_)
        refine j_isubZ F (a := ((y : Nat) : Int)) (b := ((P.wl ii 1 : Nat) : Int)) (nI_iI _) (nI_iI _) dX3_isEventPoint_54 rfl ?_
        refine j_istore (lv' := [some (.ref (X.E.1 + k)), some (.int (nI (x))), some (.int (nI (y))), some (.int (bI (P.oR x y ii))), some (.int (bI (P.oU x y ii))), some (.int (nI (ii))), some (.int (nI (1))), some (.int (iI (((x : Nat) : Int) - ((P.wl ii 0 : Nat) : Int)))), some (.int (iI (((y : Nat) : Int) - ((P.wl ii 1 : Nat) : Int)))), none, none]) F dX3_isEventPoint_55 rfl (hL _ (by decide)) rfl rfl ?_
        refine j_iload F dX3_isEventPoint_57 rfl rfl ?_
        refine j_if_eqN (a := 1) F (by omega) (tgt := 67) dX3_isEventPoint_59 (by decide) rfl (fun c_59 => False.elim (by revert c_59; decide)) (fun c_59 => ?_)
        refine j_iload F dX3_isEventPoint_62 rfl rfl ?_
        refine j_goto (pc' := 69) F dX3_isEventPoint_64 (by decide) ?_
        refine j_istore (lv' := [some (.ref (X.E.1 + k)), some (.int (nI (x))), some (.int (nI (y))), some (.int (bI (P.oR x y ii))), some (.int (bI (P.oU x y ii))), some (.int (nI (ii))), some (.int (nI (1))), some (.int (iI (((x : Nat) : Int) - ((P.wl ii 0 : Nat) : Int)))), some (.int (iI (((y : Nat) : Int) - ((P.wl ii 1 : Nat) : Int)))), some (.int (iI (((y : Nat) : Int) - ((P.wl ii 1 : Nat) : Int)))), none]) F dX3_isEventPoint_69 rfl (hL _ (by decide)) rfl rfl ?_
        refine j_aload_n F dX3_isEventPoint_71 rfl rfl ?_
        refine j_iload F dX3_isEventPoint_72 rfl rfl ?_
        refine j_iconst (v := nI (2)) F dX3_isEventPoint_74 rfl (by decide) ?_
        refine kX3_51 hk F (As := [.int (nI (ii)), .int (nI (2))]) (rest := []) (c_X2_wallPart hn hk hP hBd ii 2 (by omega) (by decide)) (by decide) rfl rfl (Nat.le_of_ble_eq_true rfl) dX3_isEventPoint_75 rfl (ro_k ?_)
        refine j_istore (lv' := [some (.ref (X.E.1 + k)), some (.int (nI (x))), some (.int (nI (y))), some (.int (bI (P.oR x y ii))), some (.int (bI (P.oU x y ii))), some (.int (nI (ii))), some (.int (nI (1))), some (.int (iI (((x : Nat) : Int) - ((P.wl ii 0 : Nat) : Int)))), some (.int (iI (((y : Nat) : Int) - ((P.wl ii 1 : Nat) : Int)))), some (.int (iI (((y : Nat) : Int) - ((P.wl ii 1 : Nat) : Int)))), some (.int (nI (P.wl ii 2)))]) F dX3_isEventPoint_78 rfl (hL _ (by decide)) rfl rfl ?_
        refine j_iload F dX3_isEventPoint_80 rfl rfl ?_
        refine j_if_eqN (a := 1) F (by omega) (tgt := 90) dX3_isEventPoint_82 (by decide) rfl (fun c_82 => False.elim (by revert c_82; decide)) (fun c_82 => ?_)
        refine j_iload F dX3_isEventPoint_85 rfl rfl ?_
        refine j_goto (pc' := 92) F dX3_isEventPoint_87 (by decide) ?_
        refine j_if_neZ F (a := ((x : Nat) : Int) - ((P.wl ii 0 : Nat) : Int)) rfl (bd_sub (bd_n (show x ≤ 40 by omega)) (bd_n (show P.wl ii 0 ≤ 40 by omega))) (by decide) (tgt := 156) dX3_isEventPoint_92 (by decide) rfl (fun c_92 => ?_) (fun c_92 => ?_)
        · have hon : ¬ P.onP ii x y := by unfold Pl.onP; omega
          have hnx : ¬ P.enP ii x y := fun q => hon (en_on q)
          have hR1 : P.oR x y (ii + 1) = P.oR x y ii := oR_no (fun q => hon q.1)
          have hU1 : P.oU x y (ii + 1) = P.oU x y ii := oU_no (fun q => hon q.1)
          refine j_iincN (a := ii) (c := 1) (lv' := [some (.ref (X.E.1 + k)), some (.int (nI (x))), some (.int (nI (y))), some (.int (bI (P.oR x y ii))), some (.int (bI (P.oU x y ii))), some (.int (nI (ii + 1))), some (.int (nI (1))), some (.int (iI (((x : Nat) : Int) - ((P.wl ii 0 : Nat) : Int)))), some (.int (iI (((y : Nat) : Int) - ((P.wl ii 1 : Nat) : Int)))), some (.int (iI (((y : Nat) : Int) - ((P.wl ii 1 : Nat) : Int)))), some (.int (nI (P.wl ii 2)))]) F dX3_isEventPoint_156 rfl rfl (by decide) (hL _ (by decide)) rfl rfl ?_
          refine j_goto (pc' := 8) F dX3_isEventPoint_159 (by decide) ?_
          refine j_lv (lv' := [some (.ref (X.E.1 + k)), some (.int (nI (x))), some (.int (nI (y))), some (.int (bI (P.oR x y ii))), some (.int (bI (P.oU x y ii))), some (.int (nI (ii + 1))), none, none, none, none, none]) (sbl (ks := [0, 1, 2, 3, 4, 5]) rfl) ?_
          refine j_lvq (lv' := [some (.ref (X.E.1 + k)), some (.int (nI (x))), some (.int (nI (y))), some (.int (bI (P.oR x y (ii + 1)))), some (.int (bI (P.oU x y (ii + 1)))), some (.int (nI (ii + 1))), none, none, none, none, none]) (by rw [hR1, hU1]) ?_
          exact ih_8 (by omega)  (fun w h => by rcases (show w < ii ∨ w = ii by omega) with t | rfl; exact hne w t; exact hnx)
        · refine j_iload F dX3_isEventPoint_95 rfl rfl ?_
          refine j_if_ltZ F (a := ((y : Nat) : Int) - ((P.wl ii 1 : Nat) : Int)) rfl (bd_sub (bd_n (show y ≤ 40 by omega)) (bd_n (show P.wl ii 1 ≤ 40 by omega))) (by decide) (tgt := 156) dX3_isEventPoint_97 (by decide) rfl (fun c_97 => ?_) (fun c_97 => ?_)
          · have hon : ¬ P.onP ii x y := by unfold Pl.onP; omega
            have hnx : ¬ P.enP ii x y := fun q => hon (en_on q)
            have hR1 : P.oR x y (ii + 1) = P.oR x y ii := oR_no (fun q => hon q.1)
            have hU1 : P.oU x y (ii + 1) = P.oU x y ii := oU_no (fun q => hon q.1)
            refine j_iincN (a := ii) (c := 1) (lv' := [some (.ref (X.E.1 + k)), some (.int (nI (x))), some (.int (nI (y))), some (.int (bI (P.oR x y ii))), some (.int (bI (P.oU x y ii))), some (.int (nI (ii + 1))), some (.int (nI (1))), some (.int (iI (((x : Nat) : Int) - ((P.wl ii 0 : Nat) : Int)))), some (.int (iI (((y : Nat) : Int) - ((P.wl ii 1 : Nat) : Int)))), some (.int (iI (((y : Nat) : Int) - ((P.wl ii 1 : Nat) : Int)))), some (.int (nI (P.wl ii 2)))]) F dX3_isEventPoint_156 rfl rfl (by decide) (hL _ (by decide)) rfl rfl ?_
            refine j_goto (pc' := 8) F dX3_isEventPoint_159 (by decide) ?_
            refine j_lv (lv' := [some (.ref (X.E.1 + k)), some (.int (nI (x))), some (.int (nI (y))), some (.int (bI (P.oR x y ii))), some (.int (bI (P.oU x y ii))), some (.int (nI (ii + 1))), none, none, none, none, none]) (sbl (ks := [0, 1, 2, 3, 4, 5]) rfl) ?_
            refine j_lvq (lv' := [some (.ref (X.E.1 + k)), some (.int (nI (x))), some (.int (nI (y))), some (.int (bI (P.oR x y (ii + 1)))), some (.int (bI (P.oU x y (ii + 1)))), some (.int (nI (ii + 1))), none, none, none, none, none]) (by rw [hR1, hU1]) ?_
            exact ih_8 (by omega)  (fun w h => by rcases (show w < ii ∨ w = ii by omega) with t | rfl; exact hne w t; exact hnx)
          · refine j_iload F dX3_isEventPoint_100 rfl rfl ?_
            refine j_iload F dX3_isEventPoint_102 rfl rfl ?_
            refine j_icmp_leZ F (a := ((y : Nat) : Int) - ((P.wl ii 1 : Nat) : Int)) (b := ((P.wl ii 2 : Nat) : Int)) rfl (nI_iI _) (bd_sub (bd_n (show y ≤ 40 by omega)) (bd_n (show P.wl ii 1 ≤ 40 by omega))) (bd_n (show P.wl ii 2 ≤ 40 by omega)) (by decide) (by decide) (tgt := 110) dX3_isEventPoint_104 (by decide) rfl (fun c_104 => ?_) (fun c_104 => ?_)
            · refine j_iload F dX3_isEventPoint_110 rfl rfl ?_
              refine j_if_eqZ F (a := ((y : Nat) : Int) - ((P.wl ii 1 : Nat) : Int)) rfl (bd_sub (bd_n (show y ≤ 40 by omega)) (bd_n (show P.wl ii 1 ≤ 40 by omega))) (by decide) (tgt := 122) dX3_isEventPoint_112 (by decide) rfl (fun c_112 => ?_) (fun c_112 => ?_)
              · have hz : dcP (P.evP x y) = true := dcP_t (Or.inl ⟨ii, c_14, by unfold Pl.enP; omega⟩)
                refine j_iconst (v := nI (1)) F dX3_isEventPoint_122 rfl (by decide) ?_
                exact j_iret F hRt rfl (roB_t hz) dX3_isEventPoint_123
              · refine j_iload F dX3_isEventPoint_115 rfl rfl ?_
                refine j_iload F dX3_isEventPoint_117 rfl rfl ?_
                refine j_icmp_neZ F (a := ((y : Nat) : Int) - ((P.wl ii 1 : Nat) : Int)) (b := ((P.wl ii 2 : Nat) : Int)) rfl (nI_iI _) (bd_sub (bd_n (show y ≤ 40 by omega)) (bd_n (show P.wl ii 1 ≤ 40 by omega))) (bd_n (show P.wl ii 2 ≤ 40 by omega)) (by decide) (by decide) (tgt := 124) dX3_isEventPoint_119 (by decide) rfl (fun c_119 => ?_) (fun c_119 => ?_)
                · have hon : P.onP ii x y := by unfold Pl.onP; omega
                  have hnx : ¬ P.enP ii x y := by unfold Pl.enP; omega
                  refine j_iload_n F dX3_isEventPoint_124 rfl rfl ?_
                  refine j_if_neB F (x := P.oR x y ii) (tgt := 133) dX3_isEventPoint_125 (by decide) rfl (fun c_125 => ?_) (fun c_125 => ?_)
                  · refine j_iconst (v := nI (1)) F dX3_isEventPoint_133 rfl (by decide) ?_
                    refine j_goto (pc' := 138) F dX3_isEventPoint_134 (by decide) ?_
                    refine j_int (y := bI true) (by decide) ?_
                    have hR1 : P.oR x y (ii + 1) = true := (oR_no (fun q => q.2 c_25)).trans c_125
                    refine j_istore_n (lv' := [some (.ref (X.E.1 + k)), some (.int (nI (x))), some (.int (nI (y))), some (.int (bI (true))), some (.int (bI (P.oU x y ii))), some (.int (nI (ii))), some (.int (nI (1))), some (.int (iI (((x : Nat) : Int) - ((P.wl ii 0 : Nat) : Int)))), some (.int (iI (((y : Nat) : Int) - ((P.wl ii 1 : Nat) : Int)))), some (.int (iI (((y : Nat) : Int) - ((P.wl ii 1 : Nat) : Int)))), some (.int (nI (P.wl ii 2)))]) F dX3_isEventPoint_138 rfl (hL _ (by decide)) rfl rfl ?_
                    refine j_iload F dX3_isEventPoint_139 rfl rfl ?_
                    refine j_if_neB F (x := P.oU x y ii) (tgt := 149) dX3_isEventPoint_141 (by decide) rfl (fun c_141 => ?_) (fun c_141 => ?_)
                    · refine j_iconst (v := nI (1)) F dX3_isEventPoint_149 rfl (by decide) ?_
                      refine j_goto (pc' := 154) F dX3_isEventPoint_150 (by decide) ?_
                      refine j_int (y := bI true) (by decide) ?_
                      have hU1 : P.oU x y (ii + 1) = true := oU_yes ⟨hon, c_25⟩
                      refine j_istore (lv' := [some (.ref (X.E.1 + k)), some (.int (nI (x))), some (.int (nI (y))), some (.int (bI (true))), some (.int (bI (true))), some (.int (nI (ii))), some (.int (nI (1))), some (.int (iI (((x : Nat) : Int) - ((P.wl ii 0 : Nat) : Int)))), some (.int (iI (((y : Nat) : Int) - ((P.wl ii 1 : Nat) : Int)))), some (.int (iI (((y : Nat) : Int) - ((P.wl ii 1 : Nat) : Int)))), some (.int (nI (P.wl ii 2)))]) F dX3_isEventPoint_154 rfl (hL _ (by decide)) rfl rfl ?_
                      refine j_iincN (a := ii) (c := 1) (lv' := [some (.ref (X.E.1 + k)), some (.int (nI (x))), some (.int (nI (y))), some (.int (bI (true))), some (.int (bI (true))), some (.int (nI (ii + 1))), some (.int (nI (1))), some (.int (iI (((x : Nat) : Int) - ((P.wl ii 0 : Nat) : Int)))), some (.int (iI (((y : Nat) : Int) - ((P.wl ii 1 : Nat) : Int)))), some (.int (iI (((y : Nat) : Int) - ((P.wl ii 1 : Nat) : Int)))), some (.int (nI (P.wl ii 2)))]) F dX3_isEventPoint_156 rfl rfl (by decide) (hL _ (by decide)) rfl rfl ?_
                      refine j_goto (pc' := 8) F dX3_isEventPoint_159 (by decide) ?_
                      refine j_lv (lv' := [some (.ref (X.E.1 + k)), some (.int (nI (x))), some (.int (nI (y))), some (.int (bI (true))), some (.int (bI (true))), some (.int (nI (ii + 1))), none, none, none, none, none]) (sbl (ks := [0, 1, 2, 3, 4, 5]) rfl) ?_
                      refine j_lvq (lv' := [some (.ref (X.E.1 + k)), some (.int (nI (x))), some (.int (nI (y))), some (.int (bI (P.oR x y (ii + 1)))), some (.int (bI (P.oU x y (ii + 1)))), some (.int (nI (ii + 1))), none, none, none, none, none]) (by rw [hR1, hU1]) ?_
                      exact ih_8 (by omega)  (fun w h => by rcases (show w < ii ∨ w = ii by omega) with t | rfl; exact hne w t; exact hnx)
                    · refine j_iload F dX3_isEventPoint_144 rfl rfl ?_
                      refine j_if_eqN (a := 1) F (by omega) (tgt := 153) dX3_isEventPoint_146 (by decide) rfl (fun c_146 => False.elim (by revert c_146; decide)) (fun c_146 => ?_)
                      refine j_iconst (v := nI (1)) F dX3_isEventPoint_149 rfl (by decide) ?_
                      refine j_goto (pc' := 154) F dX3_isEventPoint_150 (by decide) ?_
                      refine j_int (y := bI true) (by decide) ?_
                      have hU1 : P.oU x y (ii + 1) = true := oU_yes ⟨hon, c_25⟩
                      refine j_istore (lv' := [some (.ref (X.E.1 + k)), some (.int (nI (x))), some (.int (nI (y))), some (.int (bI (true))), some (.int (bI (true))), some (.int (nI (ii))), some (.int (nI (1))), some (.int (iI (((x : Nat) : Int) - ((P.wl ii 0 : Nat) : Int)))), some (.int (iI (((y : Nat) : Int) - ((P.wl ii 1 : Nat) : Int)))), some (.int (iI (((y : Nat) : Int) - ((P.wl ii 1 : Nat) : Int)))), some (.int (nI (P.wl ii 2)))]) F dX3_isEventPoint_154 rfl (hL _ (by decide)) rfl rfl ?_
                      refine j_iincN (a := ii) (c := 1) (lv' := [some (.ref (X.E.1 + k)), some (.int (nI (x))), some (.int (nI (y))), some (.int (bI (true))), some (.int (bI (true))), some (.int (nI (ii + 1))), some (.int (nI (1))), some (.int (iI (((x : Nat) : Int) - ((P.wl ii 0 : Nat) : Int)))), some (.int (iI (((y : Nat) : Int) - ((P.wl ii 1 : Nat) : Int)))), some (.int (iI (((y : Nat) : Int) - ((P.wl ii 1 : Nat) : Int)))), some (.int (nI (P.wl ii 2)))]) F dX3_isEventPoint_156 rfl rfl (by decide) (hL _ (by decide)) rfl rfl ?_
                      refine j_goto (pc' := 8) F dX3_isEventPoint_159 (by decide) ?_
                      refine j_lv (lv' := [some (.ref (X.E.1 + k)), some (.int (nI (x))), some (.int (nI (y))), some (.int (bI (true))), some (.int (bI (true))), some (.int (nI (ii + 1))), none, none, none, none, none]) (sbl (ks := [0, 1, 2, 3, 4, 5]) rfl) ?_
                      refine j_lvq (lv' := [some (.ref (X.E.1 + k)), some (.int (nI (x))), some (.int (nI (y))), some (.int (bI (P.oR x y (ii + 1)))), some (.int (bI (P.oU x y (ii + 1)))), some (.int (nI (ii + 1))), none, none, none, none, none]) (by rw [hR1, hU1]) ?_
                      exact ih_8 (by omega)  (fun w h => by rcases (show w < ii ∨ w = ii by omega) with t | rfl; exact hne w t; exact hnx)
                  · refine j_iload F dX3_isEventPoint_128 rfl rfl ?_
                    refine j_if_neN (a := 1) F (by omega) (tgt := 137) dX3_isEventPoint_130 (by decide) rfl (fun c_130 => ?_) (fun c_130 => False.elim (by revert c_130; decide))
                    refine j_iconst (v := nI (0)) F dX3_isEventPoint_137 rfl (by decide) ?_
                    refine j_int (y := bI false) (by decide) ?_
                    have hR1 : P.oR x y (ii + 1) = false := (oR_no (fun q => q.2 c_25)).trans c_125
                    refine j_istore_n (lv' := [some (.ref (X.E.1 + k)), some (.int (nI (x))), some (.int (nI (y))), some (.int (bI (false))), some (.int (bI (P.oU x y ii))), some (.int (nI (ii))), some (.int (nI (1))), some (.int (iI (((x : Nat) : Int) - ((P.wl ii 0 : Nat) : Int)))), some (.int (iI (((y : Nat) : Int) - ((P.wl ii 1 : Nat) : Int)))), some (.int (iI (((y : Nat) : Int) - ((P.wl ii 1 : Nat) : Int)))), some (.int (nI (P.wl ii 2)))]) F dX3_isEventPoint_138 rfl (hL _ (by decide)) rfl rfl ?_
                    refine j_iload F dX3_isEventPoint_139 rfl rfl ?_
                    refine j_if_neB F (x := P.oU x y ii) (tgt := 149) dX3_isEventPoint_141 (by decide) rfl (fun c_141 => ?_) (fun c_141 => ?_)
                    · refine j_iconst (v := nI (1)) F dX3_isEventPoint_149 rfl (by decide) ?_
                      refine j_goto (pc' := 154) F dX3_isEventPoint_150 (by decide) ?_
                      refine j_int (y := bI true) (by decide) ?_
                      have hU1 : P.oU x y (ii + 1) = true := oU_yes ⟨hon, c_25⟩
                      refine j_istore (lv' := [some (.ref (X.E.1 + k)), some (.int (nI (x))), some (.int (nI (y))), some (.int (bI (false))), some (.int (bI (true))), some (.int (nI (ii))), some (.int (nI (1))), some (.int (iI (((x : Nat) : Int) - ((P.wl ii 0 : Nat) : Int)))), some (.int (iI (((y : Nat) : Int) - ((P.wl ii 1 : Nat) : Int)))), some (.int (iI (((y : Nat) : Int) - ((P.wl ii 1 : Nat) : Int)))), some (.int (nI (P.wl ii 2)))]) F dX3_isEventPoint_154 rfl (hL _ (by decide)) rfl rfl ?_
                      refine j_iincN (a := ii) (c := 1) (lv' := [some (.ref (X.E.1 + k)), some (.int (nI (x))), some (.int (nI (y))), some (.int (bI (false))), some (.int (bI (true))), some (.int (nI (ii + 1))), some (.int (nI (1))), some (.int (iI (((x : Nat) : Int) - ((P.wl ii 0 : Nat) : Int)))), some (.int (iI (((y : Nat) : Int) - ((P.wl ii 1 : Nat) : Int)))), some (.int (iI (((y : Nat) : Int) - ((P.wl ii 1 : Nat) : Int)))), some (.int (nI (P.wl ii 2)))]) F dX3_isEventPoint_156 rfl rfl (by decide) (hL _ (by decide)) rfl rfl ?_
                      refine j_goto (pc' := 8) F dX3_isEventPoint_159 (by decide) ?_
                      refine j_lv (lv' := [some (.ref (X.E.1 + k)), some (.int (nI (x))), some (.int (nI (y))), some (.int (bI (false))), some (.int (bI (true))), some (.int (nI (ii + 1))), none, none, none, none, none]) (sbl (ks := [0, 1, 2, 3, 4, 5]) rfl) ?_
                      refine j_lvq (lv' := [some (.ref (X.E.1 + k)), some (.int (nI (x))), some (.int (nI (y))), some (.int (bI (P.oR x y (ii + 1)))), some (.int (bI (P.oU x y (ii + 1)))), some (.int (nI (ii + 1))), none, none, none, none, none]) (by rw [hR1, hU1]) ?_
                      exact ih_8 (by omega)  (fun w h => by rcases (show w < ii ∨ w = ii by omega) with t | rfl; exact hne w t; exact hnx)
                    · refine j_iload F dX3_isEventPoint_144 rfl rfl ?_
                      refine j_if_eqN (a := 1) F (by omega) (tgt := 153) dX3_isEventPoint_146 (by decide) rfl (fun c_146 => False.elim (by revert c_146; decide)) (fun c_146 => ?_)
                      refine j_iconst (v := nI (1)) F dX3_isEventPoint_149 rfl (by decide) ?_
                      refine j_goto (pc' := 154) F dX3_isEventPoint_150 (by decide) ?_
                      refine j_int (y := bI true) (by decide) ?_
                      have hU1 : P.oU x y (ii + 1) = true := oU_yes ⟨hon, c_25⟩
                      refine j_istore (lv' := [some (.ref (X.E.1 + k)), some (.int (nI (x))), some (.int (nI (y))), some (.int (bI (false))), some (.int (bI (true))), some (.int (nI (ii))), some (.int (nI (1))), some (.int (iI (((x : Nat) : Int) - ((P.wl ii 0 : Nat) : Int)))), some (.int (iI (((y : Nat) : Int) - ((P.wl ii 1 : Nat) : Int)))), some (.int (iI (((y : Nat) : Int) - ((P.wl ii 1 : Nat) : Int)))), some (.int (nI (P.wl ii 2)))]) F dX3_isEventPoint_154 rfl (hL _ (by decide)) rfl rfl ?_
                      refine j_iincN (a := ii) (c := 1) (lv' := [some (.ref (X.E.1 + k)), some (.int (nI (x))), some (.int (nI (y))), some (.int (bI (false))), some (.int (bI (true))), some (.int (nI (ii + 1))), some (.int (nI (1))), some (.int (iI (((x : Nat) : Int) - ((P.wl ii 0 : Nat) : Int)))), some (.int (iI (((y : Nat) : Int) - ((P.wl ii 1 : Nat) : Int)))), some (.int (iI (((y : Nat) : Int) - ((P.wl ii 1 : Nat) : Int)))), some (.int (nI (P.wl ii 2)))]) F dX3_isEventPoint_156 rfl rfl (by decide) (hL _ (by decide)) rfl rfl ?_
                      refine j_goto (pc' := 8) F dX3_isEventPoint_159 (by decide) ?_
                      refine j_lv (lv' := [some (.ref (X.E.1 + k)), some (.int (nI (x))), some (.int (nI (y))), some (.int (bI (false))), some (.int (bI (true))), some (.int (nI (ii + 1))), none, none, none, none, none]) (sbl (ks := [0, 1, 2, 3, 4, 5]) rfl) ?_
                      refine j_lvq (lv' := [some (.ref (X.E.1 + k)), some (.int (nI (x))), some (.int (nI (y))), some (.int (bI (P.oR x y (ii + 1)))), some (.int (bI (P.oU x y (ii + 1)))), some (.int (nI (ii + 1))), none, none, none, none, none]) (by rw [hR1, hU1]) ?_
                      exact ih_8 (by omega)  (fun w h => by rcases (show w < ii ∨ w = ii by omega) with t | rfl; exact hne w t; exact hnx)
                · have hz : dcP (P.evP x y) = true := dcP_t (Or.inl ⟨ii, c_14, by unfold Pl.enP; omega⟩)
                  refine j_iconst (v := nI (1)) F dX3_isEventPoint_122 rfl (by decide) ?_
                  exact j_iret F hRt rfl (roB_t hz) dX3_isEventPoint_123
            · have hon : ¬ P.onP ii x y := by unfold Pl.onP; omega
              have hnx : ¬ P.enP ii x y := fun q => hon (en_on q)
              have hR1 : P.oR x y (ii + 1) = P.oR x y ii := oR_no (fun q => hon q.1)
              have hU1 : P.oU x y (ii + 1) = P.oU x y ii := oU_no (fun q => hon q.1)
              refine j_goto (pc' := 156) F dX3_isEventPoint_107 (by decide) ?_
              refine j_iincN (a := ii) (c := 1) (lv' := [some (.ref (X.E.1 + k)), some (.int (nI (x))), some (.int (nI (y))), some (.int (bI (P.oR x y ii))), some (.int (bI (P.oU x y ii))), some (.int (nI (ii + 1))), some (.int (nI (1))), some (.int (iI (((x : Nat) : Int) - ((P.wl ii 0 : Nat) : Int)))), some (.int (iI (((y : Nat) : Int) - ((P.wl ii 1 : Nat) : Int)))), some (.int (iI (((y : Nat) : Int) - ((P.wl ii 1 : Nat) : Int)))), some (.int (nI (P.wl ii 2)))]) F dX3_isEventPoint_156 rfl rfl (by decide) (hL _ (by decide)) rfl rfl ?_
              refine j_goto (pc' := 8) F dX3_isEventPoint_159 (by decide) ?_
              refine j_lv (lv' := [some (.ref (X.E.1 + k)), some (.int (nI (x))), some (.int (nI (y))), some (.int (bI (P.oR x y ii))), some (.int (bI (P.oU x y ii))), some (.int (nI (ii + 1))), none, none, none, none, none]) (sbl (ks := [0, 1, 2, 3, 4, 5]) rfl) ?_
              refine j_lvq (lv' := [some (.ref (X.E.1 + k)), some (.int (nI (x))), some (.int (nI (y))), some (.int (bI (P.oR x y (ii + 1)))), some (.int (bI (P.oU x y (ii + 1)))), some (.int (nI (ii + 1))), none, none, none, none, none]) (by rw [hR1, hU1]) ?_
              exact ih_8 (by omega)  (fun w h => by rcases (show w < ii ∨ w = ii by omega) with t | rfl; exact hne w t; exact hnx)
  exact loop_8 0 (by omega)  (fun w h => absurd h (by omega))

set_option maxRecDepth 10000 in
set_option maxHeartbeats 2000000 in
theorem c_X3_turnRound {l : Launch} {n : Nat} {E : Ev} {σ : St} {P : Pl} (hn : 55 ≤ n) (hP : PlanOK σ 1 P) (hBd : PB P) (hWl : ∀ w, w < P.nw → WallOK P w) (hLm : ∀ l, l < P.nl → LampOK P l) (l0 : Nat) (hl : l0 < P.nl) : Ct l yX3_turnRound cX3_turnRound 5 none 3 n E [.ref (E.1 + 43), .ref (E.1 + 1), .int (nI (l0))] σ (fun v' σ' => v' = none ∧ RayOK σ' (P.EC l0) ∧ LamOK σ' (P.lp l0 0) (P.lp l0 1) ∧ Fr [43, 44, 45] σ σ') := by
  refine Ct.of (lv0 := [some (.ref (E.1 + 43)), some (.ref (E.1 + 1)), some (.int (nI (l0))), none, none]) (by decide) (Nat.le_of_ble_eq_true rfl) rfl ?_
  intro X hXn hXE hXl hXL F hRt
  subst hXn hXE hXl
  have hL : ∀ i, i < 5 → i < X.nL := fun i h => by rw [hXL]; exact h
  have hB0 := hBd
  obtain ⟨b1, b2, b3, b4, b5, b6, b7⟩ := hB0
  have hlo := hLm l0 hl
  unfold LampOK at hlo
  obtain ⟨o1, o2, o3⟩ := hlo
  have hsz : (P.W + 1) * (P.H + 1) ≤ 100 := Nat.mul_le_mul (show P.W + 1 ≤ 10 by omega) (show P.H + 1 ≤ 10 by omega)
  refine j_aload_n F dX3_turnRound_0 rfl rfl ?_
  refine j_iconst (v := nI (2)) F dX3_turnRound_1 rfl (by decide) ?_
  refine j_aload_n F dX3_turnRound_2 rfl rfl ?_
  refine j_iload_n F dX3_turnRound_3 rfl rfl ?_
  refine j_iconst (v := nI (0)) F dX3_turnRound_4 rfl (by decide) ?_
  refine kX3_18 (isPl_1 hn) F (As := [.int (nI (l0)), .int (nI (0))]) (rest := [.int (nI (2)), .ref (X.E.1 + 43)]) (c_X2_lampPart hn (isPl_1 hn) hP hBd l0 0 (by omega) (by decide)) (by decide) rfl rfl (Nat.le_of_ble_eq_true rfl) dX3_turnRound_5 rfl (ro_k ?_)
  refine j_imulN (a := 2) (b := P.lp l0 0) F dX3_turnRound_8 rfl ?_
  refine j_iconst (v := nI (1)) F dX3_turnRound_9 rfl (by decide) ?_
  refine j_iaddN (a := 2 * (P.lp l0 0)) (b := 1) F dX3_turnRound_10 rfl ?_
  refine pX3_24 hn F dX3_turnRound_11 rfl ?_
  refine j_nm (fun σa eσa => ?_)
  have hPa : PlanOK σa 1 P := by rw [eσa]; exact hP.frame (upR_n _ _ (by decide)) (upR_n _ _ (by decide)) (upR_n _ _ (by decide))
  refine j_aload_n F dX3_turnRound_14 rfl rfl ?_
  refine j_iconst (v := nI (2)) F dX3_turnRound_15 rfl (by decide) ?_
  refine j_aload_n F dX3_turnRound_16 rfl rfl ?_
  refine j_iload_n F dX3_turnRound_17 rfl rfl ?_
  refine j_iconst (v := nI (1)) F dX3_turnRound_18 rfl (by decide) ?_
  refine kX3_18 (isPl_1 hn) F (As := [.int (nI (l0)), .int (nI (1))]) (rest := [.int (nI (2)), .ref (X.E.1 + 43)]) (c_X2_lampPart hn (isPl_1 hn) hPa hBd l0 1 (by omega) (by decide)) (by decide) rfl rfl (Nat.le_of_ble_eq_true rfl) dX3_turnRound_19 rfl (ro_k ?_)
  refine j_imulN (a := 2) (b := P.lp l0 1) F dX3_turnRound_22 rfl ?_
  refine j_iconst (v := nI (1)) F dX3_turnRound_23 rfl (by decide) ?_
  refine j_iaddN (a := 2 * (P.lp l0 1)) (b := 1) F dX3_turnRound_24 rfl ?_
  refine pX3_28 hn F dX3_turnRound_25 rfl ?_
  refine j_nm (fun σb eσb => ?_)
  refine j_aload_n F dX3_turnRound_28 rfl rfl ?_
  refine j_iconst (v := nI (0)) F dX3_turnRound_29 rfl (by decide) ?_
  refine pX3_31 hn F dX3_turnRound_30 rfl ?_
  refine j_nm (fun σ0 eσ0 => ?_)
  have r_0 : RayOK σ0 [] := ⟨by rw [eσ0]; simp only [up, upR_s, upd_s]; rfl, fun i h => absurd h (Nat.not_lt_zero i)⟩
  have l_0 : LamOK σ0 (P.lp l0 0) (P.lp l0 1) := by
    rw [eσ0, eσb, eσa]
    refine ⟨?_, ?_⟩
    · simp only [up, upR_s]; rw [upd_n _ _ (by decide), upd_n _ _ (by decide), upd_s]
    · simp only [up, upR_s]; rw [upd_n _ _ (by decide), upd_s]
  have f_0 : Fr [43, 44, 45] σ σ0 := by rw [eσ0, eσb, eσa]; exact Fr.put (Fr.put (Fr.put Fr.rf (by simp)) (by simp)) (by simp)
  refine j_iconst (v := nI (0)) F dX3_turnRound_33 rfl (by decide) ?_
  refine j_istore_n (lv' := [some (.ref (X.E.1 + 43)), some (.ref (X.E.1 + 1)), some (.int (nI (l0))), some (.int (nI (0))), none]) F dX3_turnRound_34 rfl (hL _ (by decide)) rfl rfl ?_
  have loop_35 : ∀ (ii : Nat), ii ≤ (P.H + 1) → ∀ (τ : St), (RayOK τ (P.EVc (P.lp l0 0) (P.lp l0 1) (ii * (P.W + 1)))) → (LamOK τ (P.lp l0 0) (P.lp l0 1)) → (Fr [43, 44, 45] σ τ) → J X 35 [some (.ref (X.E.1 + 43)), some (.ref (X.E.1 + 1)), some (.int (nI (l0))), some (.int (nI (ii))), none] [] τ := by
    refine dnL (fun ii hii ih_35 => ?_)
    intro τ hτR hτL hτF
    have hPt : PlanOK τ 1 P := hP.frame (hτF 1 (by decide)) (hτF 2 (by decide)) (hτF 3 (by decide))
    refine j_iload_n F dX3_turnRound_35 rfl rfl ?_
    refine j_aload_n F dX3_turnRound_36 rfl rfl ?_
    refine gX3_34 (isPl_1 hn) F dX3_turnRound_37 rfl ?_
    refine j_int (y := nI (P.H)) (hPt.h) ?_
    refine j_icmp_gtN (a := ii) (b := P.H) F (by omega) (by omega) (tgt := 98) dX3_turnRound_40 (by decide) rfl (fun c_40 => ?_) (fun c_40 => ?_)
    · have hiH : ii = P.H + 1 := by omega
      exact j_vret F hRt (⟨rfl, by rw [hiH, Nat.mul_comm] at hτR; exact hτR, hτL, hτF⟩) dX3_turnRound_98
    · refine j_iconst (v := nI (0)) F dX3_turnRound_43 rfl (by decide) ?_
      refine j_istore (lv' := [some (.ref (X.E.1 + 43)), some (.ref (X.E.1 + 1)), some (.int (nI (l0))), some (.int (nI (ii))), some (.int (nI (0)))]) F dX3_turnRound_44 rfl (hL _ (by decide)) rfl rfl ?_
      have loop_46 : ∀ (jj : Nat), jj ≤ (P.W + 1) → ∀ (τ : St), (RayOK τ (P.EVc (P.lp l0 0) (P.lp l0 1) (ii * (P.W + 1) + jj))) → (LamOK τ (P.lp l0 0) (P.lp l0 1)) → (Fr [43, 44, 45] σ τ) → J X 46 [some (.ref (X.E.1 + 43)), some (.ref (X.E.1 + 1)), some (.int (nI (l0))), some (.int (nI (ii))), some (.int (nI (jj)))] [] τ := by
        refine dnL (fun jj hjj ih_46 => ?_)
        intro τ hτR hτL hτF
        have hPt : PlanOK τ 1 P := hP.frame (hτF 1 (by decide)) (hτF 2 (by decide)) (hτF 3 (by decide))
        refine j_iload F dX3_turnRound_46 rfl rfl ?_
        refine j_aload_n F dX3_turnRound_48 rfl rfl ?_
        refine gX3_37 (isPl_1 hn) F dX3_turnRound_49 rfl ?_
        refine j_int (y := nI (P.W)) (hPt.w) ?_
        refine j_icmp_gtN (a := jj) (b := P.W) F (by omega) (by omega) (tgt := 92) dX3_turnRound_52 (by decide) rfl (fun c_52 => ?_) (fun c_52 => ?_)
        · have hjw : jj = P.W + 1 := by omega
          refine j_iincN (a := ii) (c := 1) (lv' := [some (.ref (X.E.1 + 43)), some (.ref (X.E.1 + 1)), some (.int (nI (l0))), some (.int (nI (ii + 1))), some (.int (nI (jj)))]) F dX3_turnRound_92 rfl rfl (by decide) (hL _ (by decide)) rfl rfl ?_
          refine j_goto (pc' := 35) F dX3_turnRound_95 (by decide) ?_
          refine j_lv (lv' := [some (.ref (X.E.1 + 43)), some (.ref (X.E.1 + 1)), some (.int (nI (l0))), some (.int (nI (ii + 1))), none]) (sbl (ks := [0, 1, 2, 3]) rfl) ?_
          exact ih_35 (by omega) τ (by rw [Nat.add_mul, Nat.one_mul]; rw [hjw] at hτR; exact hτR) hτL hτF
        · have hsp := sp_lt (show ii < P.H + 1 by omega) (show jj < P.W + 1 by omega)
          refine j_aload_n F dX3_turnRound_55 rfl rfl ?_
          refine j_iload F dX3_turnRound_56 rfl rfl ?_
          refine j_iload_n F dX3_turnRound_58 rfl rfl ?_
          refine kX3_40 F (As := [.ref (X.E.1 + 1), .int (nI (jj)), .int (nI (ii))]) (rest := []) (c_X3_isEventPoint hn (isPl_1 hn) hPt hBd hWl jj ii (by omega) (by omega)) (by decide) rfl rfl (Nat.le_of_ble_eq_true rfl) dX3_turnRound_59 rfl (ro_k ?_)
          refine j_if_eqB F (x := dcP (P.evP jj ii)) (tgt := 86) dX3_turnRound_62 (by decide) rfl (fun c_62 => ?_) (fun c_62 => ?_)
          · refine j_iincN (a := jj) (c := 1) (lv' := [some (.ref (X.E.1 + 43)), some (.ref (X.E.1 + 1)), some (.int (nI (l0))), some (.int (nI (ii))), some (.int (nI (jj + 1)))]) F dX3_turnRound_86 rfl rfl (by decide) (hL _ (by decide)) rfl rfl ?_
            refine j_goto (pc' := 46) F dX3_turnRound_89 (by decide) ?_
            exact ih_46 (by omega) τ (by rw [show ii * (P.W + 1) + (jj + 1) = (ii * (P.W + 1) + jj) + 1 by omega, Pl.EVc, dm_1 (show jj < P.W + 1 by omega), dm_2 (show jj < P.W + 1 by omega), if_neg (by rw [c_62]; decide)]; exact hτR) hτL hτF
          · refine j_aload_n F dX3_turnRound_65 rfl rfl ?_
            refine j_iconst (v := nI (2)) F dX3_turnRound_66 rfl (by decide) ?_
            refine j_iload F dX3_turnRound_67 rfl rfl ?_
            refine j_imulN (a := 2) (b := jj) F dX3_turnRound_69 rfl ?_
            refine j_aload_n F dX3_turnRound_70 rfl rfl ?_
            refine gX3_24 hn F dX3_turnRound_71 rfl ?_
            refine j_int (y := nI (2 * P.lp l0 0 + 1)) (hτL.1) ?_
            refine j_isubZ F (a := ((2 * jj : Nat) : Int)) (b := ((2 * P.lp l0 0 + 1 : Nat) : Int)) (nI_iI _) (nI_iI _) dX3_turnRound_74 rfl ?_
            refine j_int (y := iI (2 * (jj : Int) - (2 * (P.lp l0 0 : Int) + 1))) (by congr 1 <;> omega) ?_
            refine j_iconst (v := nI (2)) F dX3_turnRound_75 rfl (by decide) ?_
            refine j_iload_n F dX3_turnRound_76 rfl rfl ?_
            refine j_imulN (a := 2) (b := ii) F dX3_turnRound_77 rfl ?_
            refine j_aload_n F dX3_turnRound_78 rfl rfl ?_
            refine gX3_28 hn F dX3_turnRound_79 rfl ?_
            refine j_int (y := nI (2 * P.lp l0 1 + 1)) (hτL.2) ?_
            refine j_isubZ F (a := ((2 * ii : Nat) : Int)) (b := ((2 * P.lp l0 1 + 1 : Nat) : Int)) (nI_iI _) (nI_iI _) dX3_turnRound_82 rfl ?_
            refine j_int (y := iI (2 * (ii : Int) - (2 * (P.lp l0 1 : Int) + 1))) (by congr 1 <;> omega) ?_
            refine kX3_44 hn F (As := [.int (iI (2 * (jj : Int) - (2 * (P.lp l0 0 : Int) + 1))), .int (iI (2 * (ii : Int) - (2 * (P.lp l0 1 : Int) + 1)))]) (rest := []) (c_X3_addEvent hn hτR hτL (EVc_RB P (by omega) (by omega) b2 b4 _ (Nat.le_of_lt hsp)) (Nat.lt_of_le_of_lt (EVc_len P _ _ _) (by omega)) (2 * (jj : Int) - (2 * (P.lp l0 0 : Int) + 1)) (2 * (ii : Int) - (2 * (P.lp l0 1 : Int) + 1)) ⟨by omega, by omega⟩ ⟨by omega, by omega⟩ (odd_ne jj (P.lp l0 0)) (odd_ne ii (P.lp l0 1))) (by decide) rfl rfl (Nat.le_of_ble_eq_true rfl) dX3_turnRound_83 rfl (fun v_83 σ_83 q_83 => ?_)
            obtain ⟨rfl, hR_83, hL_83, hF_83⟩ := q_83
            refine j_iincN (a := jj) (c := 1) (lv' := [some (.ref (X.E.1 + 43)), some (.ref (X.E.1 + 1)), some (.int (nI (l0))), some (.int (nI (ii))), some (.int (nI (jj + 1)))]) F dX3_turnRound_86 rfl rfl (by decide) (hL _ (by decide)) rfl rfl ?_
            refine j_goto (pc' := 46) F dX3_turnRound_89 (by decide) ?_
            exact ih_46 (by omega) σ_83 (by rw [show ii * (P.W + 1) + (jj + 1) = (ii * (P.W + 1) + jj) + 1 by omega, Pl.EVc, dm_1 (show jj < P.W + 1 by omega), dm_2 (show jj < P.W + 1 by omega), if_pos c_62]; exact hR_83) hL_83 (hτF.tr hF_83)
      exact loop_46 0 (by omega) τ hτR hτL hτF
  exact loop_35 0 (by omega) σ0 (by rw [Nat.zero_mul]; exact r_0) l_0 f_0

set_option maxRecDepth 10000 in
set_option maxHeartbeats 2000000 in
theorem c_X3_gapTo {l : Launch} {n : Nat} {E : Ev} {σ : St} {P : Pl} (hn : 55 ≤ n) (hP : PlanOK σ 1 P) (hBd : PB P) (hWl : ∀ w, w < P.nw → WallOK P w) (hLm : ∀ l, l < P.nl → LampOK P l) (lx ly : Nat) (hLa : LamOK σ lx ly) (hx9 : lx ≤ 9) (hy9 : ly ≤ 9) (w : Nat) (hw : w < P.nw) : Ct l yX3_gapTo cX3_gapTo 3 (some .int) 1 n E [.ref (E.1 + 43), .ref (E.1 + 1), .int (nI (w))] σ (ro (.int (iI (P.lin lx ly w))) σ) := by
  refine Ct.of (lv0 := [some (.ref (E.1 + 43)), some (.ref (E.1 + 1)), some (.int (nI (w)))]) (by decide) (Nat.le_of_ble_eq_true rfl) rfl ?_
  intro X hXn hXE hXl hXL F hRt
  subst hXn hXE hXl
  have hL : ∀ i, i < 3 → i < X.nL := fun i h => by rw [hXL]; exact h
  have hB0 := hBd
  obtain ⟨b1, b2, b3, b4, b5, b6, b7⟩ := hB0
  obtain ⟨w1, w2, w3, w4, w5, w6⟩ := hWl w hw
  refine j_aload_n F dX3_gapTo_0 rfl rfl ?_
  refine j_iload_n F dX3_gapTo_1 rfl rfl ?_
  refine j_iconst (v := nI (3)) F dX3_gapTo_2 rfl (by decide) ?_
  refine kX3_51 (isPl_1 hn) F (As := [.int (nI (w)), .int (nI (3))]) (rest := []) (c_X2_wallPart hn (isPl_1 hn) hP hBd w 3 (by omega) (by decide)) (by decide) rfl rfl (Nat.le_of_ble_eq_true rfl) dX3_gapTo_3 rfl (ro_k ?_)
  refine j_iconst (v := nI (1)) F dX3_gapTo_6 rfl (by decide) ?_
  refine j_icmp_neN (a := P.wl w 3) (b := 1) F (by omega) (by omega) (tgt := 26) dX3_gapTo_7 (by decide) rfl (fun c_7 => ?_) (fun c_7 => ?_)
  · refine j_iconst (v := nI (2)) F dX3_gapTo_26 rfl (by decide) ?_
    refine j_aload_n F dX3_gapTo_27 rfl rfl ?_
    refine j_iload_n F dX3_gapTo_28 rfl rfl ?_
    refine j_iconst (v := nI (1)) F dX3_gapTo_29 rfl (by decide) ?_
    refine kX3_51 (isPl_1 hn) F (As := [.int (nI (w)), .int (nI (1))]) (rest := [.int (nI (2))]) (c_X2_wallPart hn (isPl_1 hn) hP hBd w 1 (by omega) (by decide)) (by decide) rfl rfl (Nat.le_of_ble_eq_true rfl) dX3_gapTo_30 rfl (ro_k ?_)
    refine j_imulN (a := 2) (b := P.wl w 1) F dX3_gapTo_33 rfl ?_
    refine j_aload_n F dX3_gapTo_34 rfl rfl ?_
    refine gX3_28 hn F dX3_gapTo_35 rfl ?_
    refine j_int (y := nI (2 * ly + 1)) (hLa.2) ?_
    refine j_isubZ F (a := ((2 * (P.wl w 1) : Nat) : Int)) (b := ((2 * ly + 1 : Nat) : Int)) (nI_iI _) (nI_iI _) dX3_gapTo_38 rfl ?_
    exact j_iret F hRt rfl (roI (by unfold Pl.lin; first | rw [if_pos c_7] | rw [if_neg c_7])) dX3_gapTo_39
  · refine j_iconst (v := nI (2)) F dX3_gapTo_10 rfl (by decide) ?_
    refine j_aload_n F dX3_gapTo_11 rfl rfl ?_
    refine j_iload_n F dX3_gapTo_12 rfl rfl ?_
    refine j_iconst (v := nI (0)) F dX3_gapTo_13 rfl (by decide) ?_
    refine kX3_51 (isPl_1 hn) F (As := [.int (nI (w)), .int (nI (0))]) (rest := [.int (nI (2))]) (c_X2_wallPart hn (isPl_1 hn) hP hBd w 0 (by omega) (by decide)) (by decide) rfl rfl (Nat.le_of_ble_eq_true rfl) dX3_gapTo_14 rfl (ro_k ?_)
    refine j_imulN (a := 2) (b := P.wl w 0) F dX3_gapTo_17 rfl ?_
    refine j_aload_n F dX3_gapTo_18 rfl rfl ?_
    refine gX3_24 hn F dX3_gapTo_19 rfl ?_
    refine j_int (y := nI (2 * lx + 1)) (hLa.1) ?_
    refine j_isubZ F (a := ((2 * (P.wl w 0) : Nat) : Int)) (b := ((2 * lx + 1 : Nat) : Int)) (nI_iI _) (nI_iI _) dX3_gapTo_22 rfl ?_
    refine j_goto (pc' := 39) F dX3_gapTo_23 (by decide) ?_
    exact j_iret F hRt rfl (roI (by unfold Pl.lin; first | rw [if_pos c_7] | rw [if_neg c_7])) dX3_gapTo_39

set_option maxRecDepth 10000 in
set_option maxHeartbeats 2000000 in
theorem c_X3_isOnWall {l : Launch} {n : Nat} {E : Ev} {σ : St} {P : Pl} (hn : 55 ≤ n) (hP : PlanOK σ 1 P) (hBd : PB P) (hWl : ∀ w, w < P.nw → WallOK P w) (hLm : ∀ l, l < P.nl → LampOK P l) (lx ly : Nat) (hLa : LamOK σ lx ly) (hx9 : lx ≤ 9) (hy9 : ly ≤ 9) (w : Nat) (hw : w < P.nw) (mv s0 : Int) (hm : bd mv 4000) (hs : bd s0 50) : Ct l yX3_isOnWall cX3_isOnWall 8 (some .boolean) 1 n E [.ref (E.1 + 43), .ref (E.1 + 1), .int (nI (w)), .int (iI (mv)), .int (iI (s0))] σ (ro (.int (bI (P.onB lx ly w mv s0))) σ) := by
  refine Ct.of (lv0 := [some (.ref (E.1 + 43)), some (.ref (E.1 + 1)), some (.int (nI (w))), some (.int (iI (mv))), some (.int (iI (s0))), none, none, none]) (by decide) (Nat.le_of_ble_eq_true rfl) rfl ?_
  intro X hXn hXE hXl hXL F hRt
  subst hXn hXE hXl
  have hL : ∀ i, i < 8 → i < X.nL := fun i h => by rw [hXL]; exact h
  have hB0 := hBd
  obtain ⟨b1, b2, b3, b4, b5, b6, b7⟩ := hB0
  obtain ⟨w1, w2, w3, w4, w5, w6⟩ := hWl w hw
  refine j_aload_n F dX3_isOnWall_0 rfl rfl ?_
  refine j_iload_n F dX3_isOnWall_1 rfl rfl ?_
  refine j_iconst (v := nI (3)) F dX3_isOnWall_2 rfl (by decide) ?_
  refine kX3_51 (isPl_1 hn) F (As := [.int (nI (w)), .int (nI (3))]) (rest := []) (c_X2_wallPart hn (isPl_1 hn) hP hBd w 3 (by omega) (by decide)) (by decide) rfl rfl (Nat.le_of_ble_eq_true rfl) dX3_isOnWall_3 rfl (ro_k ?_)
  refine j_iconst (v := nI (1)) F dX3_isOnWall_6 rfl (by decide) ?_
  refine j_icmp_neN (a := P.wl w 3) (b := 1) F (by omega) (by omega) (tgt := 14) dX3_isOnWall_7 (by decide) rfl (fun c_7 => ?_) (fun c_7 => ?_)
  · refine j_iconst (v := nI (0)) F dX3_isOnWall_14 rfl (by decide) ?_
    refine j_istore (lv' := [some (.ref (X.E.1 + 43)), some (.ref (X.E.1 + 1)), some (.int (nI (w))), some (.int (iI (mv))), some (.int (iI (s0))), some (.int (nI (0))), none, none]) F dX3_isOnWall_15 rfl (hL _ (by decide)) rfl rfl ?_
    refine j_iconst (v := nI (2)) F dX3_isOnWall_17 rfl (by decide) ?_
    refine j_aload_n F dX3_isOnWall_18 rfl rfl ?_
    refine j_iload_n F dX3_isOnWall_19 rfl rfl ?_
    refine j_iload F dX3_isOnWall_20 rfl rfl ?_
    refine j_if_eqN (a := 0) F (by omega) (tgt := 29) dX3_isOnWall_22 (by decide) rfl (fun c_22 => ?_) (fun c_22 => False.elim (by revert c_22; decide))
    refine j_iconst (v := nI (0)) F dX3_isOnWall_29 rfl (by decide) ?_
    refine kX3_51 (isPl_1 hn) F (As := [.int (nI (w)), .int (nI (0))]) (rest := [.int (nI (2))]) (c_X2_wallPart hn (isPl_1 hn) hP hBd w 0 (by omega) (by decide)) (by decide) rfl rfl (Nat.le_of_ble_eq_true rfl) dX3_isOnWall_30 rfl (ro_k ?_)
    refine j_imulN (a := 2) (b := P.wl w 0) F dX3_isOnWall_33 rfl ?_
    refine j_iload F dX3_isOnWall_34 rfl rfl ?_
    refine j_if_eqN (a := 0) F (by omega) (tgt := 46) dX3_isOnWall_36 (by decide) rfl (fun c_36 => ?_) (fun c_36 => False.elim (by revert c_36; decide))
    refine j_aload_n F dX3_isOnWall_46 rfl rfl ?_
    refine gX3_24 hn F dX3_isOnWall_47 rfl ?_
    refine j_int (y := nI (2 * lx + 1)) (hLa.1) ?_
    refine j_isubZ F (a := ((2 * (P.wl w 0) : Nat) : Int)) (b := ((2 * lx + 1 : Nat) : Int)) (nI_iI _) (nI_iI _) dX3_isOnWall_50 rfl ?_
    refine j_istore (lv' := [some (.ref (X.E.1 + 43)), some (.ref (X.E.1 + 1)), some (.int (nI (w))), some (.int (iI (mv))), some (.int (iI (s0))), some (.int (nI (0))), some (.int (iI (((2 * (P.wl w 0) : Nat) : Int) - ((2 * lx + 1 : Nat) : Int)))), none]) F dX3_isOnWall_51 rfl (hL _ (by decide)) rfl rfl ?_
    refine j_iload F dX3_isOnWall_53 rfl rfl ?_
    refine j_iconst (v := nI (2)) F dX3_isOnWall_55 rfl (by decide) ?_
    refine j_aload_n F dX3_isOnWall_56 rfl rfl ?_
    refine j_iload_n F dX3_isOnWall_57 rfl rfl ?_
    refine j_iconst (v := nI (2)) F dX3_isOnWall_58 rfl (by decide) ?_
    refine kX3_51 (isPl_1 hn) F (As := [.int (nI (w)), .int (nI (2))]) (rest := [.int (nI (2)), .int (iI (((2 * (P.wl w 0) : Nat) : Int) - ((2 * lx + 1 : Nat) : Int)))]) (c_X2_wallPart hn (isPl_1 hn) hP hBd w 2 (by omega) (by decide)) (by decide) rfl rfl (Nat.le_of_ble_eq_true rfl) dX3_isOnWall_59 rfl (ro_k ?_)
    refine j_imulN (a := 2) (b := P.wl w 2) F dX3_isOnWall_62 rfl ?_
    refine j_iaddZ F (a := ((2 * (P.wl w 0) : Nat) : Int) - ((2 * lx + 1 : Nat) : Int)) (b := ((2 * (P.wl w 2) : Nat) : Int)) rfl (nI_iI _) dX3_isOnWall_63 rfl ?_
    refine j_istore (lv' := [some (.ref (X.E.1 + 43)), some (.ref (X.E.1 + 1)), some (.int (nI (w))), some (.int (iI (mv))), some (.int (iI (s0))), some (.int (nI (0))), some (.int (iI (((2 * (P.wl w 0) : Nat) : Int) - ((2 * lx + 1 : Nat) : Int)))), some (.int (iI ((((2 * (P.wl w 0) : Nat) : Int) - ((2 * lx + 1 : Nat) : Int)) + ((2 * (P.wl w 2) : Nat) : Int))))]) F dX3_isOnWall_64 rfl (hL _ (by decide)) rfl rfl ?_
    refine j_iload F dX3_isOnWall_66 rfl rfl ?_
    refine j_iload F dX3_isOnWall_68 rfl rfl ?_
    refine j_imulZ F (a := ((2 * (P.wl w 0) : Nat) : Int) - ((2 * lx + 1 : Nat) : Int)) (b := s0) rfl rfl dX3_isOnWall_70 rfl ?_
    refine j_iload_n F dX3_isOnWall_71 rfl rfl ?_
    refine j_icmp_gtZ F (a := (((2 * (P.wl w 0) : Nat) : Int) - ((2 * lx + 1 : Nat) : Int)) * s0) (b := mv) rfl rfl (bd_mul (bd_sub (bd_n (show 2 * (P.wl w 0) ≤ 40 by omega)) (bd_n (show 2 * lx + 1 ≤ 40 by omega))) hs) hm (by decide) (by decide) (tgt := 88) dX3_isOnWall_72 (by decide) rfl (fun c_72 => ?_) (fun c_72 => ?_)
    · have hz : P.onB lx ly w mv s0 = false := by
        unfold Pl.onB Pl.low
        first | rw [if_pos c_7] | rw [if_neg c_7]
        exact decide_eq_false (fun q => absurd q.1 (by omega))
      refine j_iconst (v := nI (0)) F dX3_isOnWall_88 rfl (by decide) ?_
      exact j_iret F hRt rfl (roB_f hz) dX3_isOnWall_89
    · refine j_iload_n F dX3_isOnWall_75 rfl rfl ?_
      refine j_iload F dX3_isOnWall_76 rfl rfl ?_
      refine j_iload F dX3_isOnWall_78 rfl rfl ?_
      refine j_imulZ F (a := (((2 * (P.wl w 0) : Nat) : Int) - ((2 * lx + 1 : Nat) : Int)) + ((2 * (P.wl w 2) : Nat) : Int)) (b := s0) rfl rfl dX3_isOnWall_80 rfl ?_
      refine j_icmp_gtZ F (a := mv) (b := ((((2 * (P.wl w 0) : Nat) : Int) - ((2 * lx + 1 : Nat) : Int)) + ((2 * (P.wl w 2) : Nat) : Int)) * s0) rfl rfl hm (bd_mul (bd_add (bd_sub (bd_n (show 2 * (P.wl w 0) ≤ 40 by omega)) (bd_n (show 2 * lx + 1 ≤ 40 by omega))) (bd_n (show 2 * (P.wl w 2) ≤ 40 by omega))) hs) (by decide) (by decide) (tgt := 88) dX3_isOnWall_81 (by decide) rfl (fun c_81 => ?_) (fun c_81 => ?_)
      · have hz : P.onB lx ly w mv s0 = false := by
          unfold Pl.onB Pl.low
          first | rw [if_pos c_7] | rw [if_neg c_7]
          exact decide_eq_false (fun q => absurd q.2 (by omega))
        refine j_iconst (v := nI (0)) F dX3_isOnWall_88 rfl (by decide) ?_
        exact j_iret F hRt rfl (roB_f hz) dX3_isOnWall_89
      · have hz : P.onB lx ly w mv s0 = true := by
          unfold Pl.onB Pl.low
          first | rw [if_pos c_7] | rw [if_neg c_7]
          exact decide_eq_true ⟨c_72, c_81⟩
        refine j_iconst (v := nI (1)) F dX3_isOnWall_84 rfl (by decide) ?_
        refine j_goto (pc' := 89) F dX3_isOnWall_85 (by decide) ?_
        exact j_iret F hRt rfl (roB_t hz) dX3_isOnWall_89
  · refine j_iconst (v := nI (1)) F dX3_isOnWall_10 rfl (by decide) ?_
    refine j_goto (pc' := 15) F dX3_isOnWall_11 (by decide) ?_
    refine j_istore (lv' := [some (.ref (X.E.1 + 43)), some (.ref (X.E.1 + 1)), some (.int (nI (w))), some (.int (iI (mv))), some (.int (iI (s0))), some (.int (nI (1))), none, none]) F dX3_isOnWall_15 rfl (hL _ (by decide)) rfl rfl ?_
    refine j_iconst (v := nI (2)) F dX3_isOnWall_17 rfl (by decide) ?_
    refine j_aload_n F dX3_isOnWall_18 rfl rfl ?_
    refine j_iload_n F dX3_isOnWall_19 rfl rfl ?_
    refine j_iload F dX3_isOnWall_20 rfl rfl ?_
    refine j_if_eqN (a := 1) F (by omega) (tgt := 29) dX3_isOnWall_22 (by decide) rfl (fun c_22 => False.elim (by revert c_22; decide)) (fun c_22 => ?_)
    refine j_iconst (v := nI (1)) F dX3_isOnWall_25 rfl (by decide) ?_
    refine j_goto (pc' := 30) F dX3_isOnWall_26 (by decide) ?_
    refine kX3_51 (isPl_1 hn) F (As := [.int (nI (w)), .int (nI (1))]) (rest := [.int (nI (2))]) (c_X2_wallPart hn (isPl_1 hn) hP hBd w 1 (by omega) (by decide)) (by decide) rfl rfl (Nat.le_of_ble_eq_true rfl) dX3_isOnWall_30 rfl (ro_k ?_)
    refine j_imulN (a := 2) (b := P.wl w 1) F dX3_isOnWall_33 rfl ?_
    refine j_iload F dX3_isOnWall_34 rfl rfl ?_
    refine j_if_eqN (a := 1) F (by omega) (tgt := 46) dX3_isOnWall_36 (by decide) rfl (fun c_36 => False.elim (by revert c_36; decide)) (fun c_36 => ?_)
    refine j_aload_n F dX3_isOnWall_39 rfl rfl ?_
    refine gX3_28 hn F dX3_isOnWall_40 rfl ?_
    refine j_int (y := nI (2 * ly + 1)) (hLa.2) ?_
    refine j_goto (pc' := 50) F dX3_isOnWall_43 (by decide) ?_
    refine j_isubZ F (a := ((2 * (P.wl w 1) : Nat) : Int)) (b := ((2 * ly + 1 : Nat) : Int)) (nI_iI _) (nI_iI _) dX3_isOnWall_50 rfl ?_
    refine j_istore (lv' := [some (.ref (X.E.1 + 43)), some (.ref (X.E.1 + 1)), some (.int (nI (w))), some (.int (iI (mv))), some (.int (iI (s0))), some (.int (nI (1))), some (.int (iI (((2 * (P.wl w 1) : Nat) : Int) - ((2 * ly + 1 : Nat) : Int)))), none]) F dX3_isOnWall_51 rfl (hL _ (by decide)) rfl rfl ?_
    refine j_iload F dX3_isOnWall_53 rfl rfl ?_
    refine j_iconst (v := nI (2)) F dX3_isOnWall_55 rfl (by decide) ?_
    refine j_aload_n F dX3_isOnWall_56 rfl rfl ?_
    refine j_iload_n F dX3_isOnWall_57 rfl rfl ?_
    refine j_iconst (v := nI (2)) F dX3_isOnWall_58 rfl (by decide) ?_
    refine kX3_51 (isPl_1 hn) F (As := [.int (nI (w)), .int (nI (2))]) (rest := [.int (nI (2)), .int (iI (((2 * (P.wl w 1) : Nat) : Int) - ((2 * ly + 1 : Nat) : Int)))]) (c_X2_wallPart hn (isPl_1 hn) hP hBd w 2 (by omega) (by decide)) (by decide) rfl rfl (Nat.le_of_ble_eq_true rfl) dX3_isOnWall_59 rfl (ro_k ?_)
    refine j_imulN (a := 2) (b := P.wl w 2) F dX3_isOnWall_62 rfl ?_
    refine j_iaddZ F (a := ((2 * (P.wl w 1) : Nat) : Int) - ((2 * ly + 1 : Nat) : Int)) (b := ((2 * (P.wl w 2) : Nat) : Int)) rfl (nI_iI _) dX3_isOnWall_63 rfl ?_
    refine j_istore (lv' := [some (.ref (X.E.1 + 43)), some (.ref (X.E.1 + 1)), some (.int (nI (w))), some (.int (iI (mv))), some (.int (iI (s0))), some (.int (nI (1))), some (.int (iI (((2 * (P.wl w 1) : Nat) : Int) - ((2 * ly + 1 : Nat) : Int)))), some (.int (iI ((((2 * (P.wl w 1) : Nat) : Int) - ((2 * ly + 1 : Nat) : Int)) + ((2 * (P.wl w 2) : Nat) : Int))))]) F dX3_isOnWall_64 rfl (hL _ (by decide)) rfl rfl ?_
    refine j_iload F dX3_isOnWall_66 rfl rfl ?_
    refine j_iload F dX3_isOnWall_68 rfl rfl ?_
    refine j_imulZ F (a := ((2 * (P.wl w 1) : Nat) : Int) - ((2 * ly + 1 : Nat) : Int)) (b := s0) rfl rfl dX3_isOnWall_70 rfl ?_
    refine j_iload_n F dX3_isOnWall_71 rfl rfl ?_
    refine j_icmp_gtZ F (a := (((2 * (P.wl w 1) : Nat) : Int) - ((2 * ly + 1 : Nat) : Int)) * s0) (b := mv) rfl rfl (bd_mul (bd_sub (bd_n (show 2 * (P.wl w 1) ≤ 40 by omega)) (bd_n (show 2 * ly + 1 ≤ 40 by omega))) hs) hm (by decide) (by decide) (tgt := 88) dX3_isOnWall_72 (by decide) rfl (fun c_72 => ?_) (fun c_72 => ?_)
    · have hz : P.onB lx ly w mv s0 = false := by
        unfold Pl.onB Pl.low
        first | rw [if_pos c_7] | rw [if_neg c_7]
        exact decide_eq_false (fun q => absurd q.1 (by omega))
      refine j_iconst (v := nI (0)) F dX3_isOnWall_88 rfl (by decide) ?_
      exact j_iret F hRt rfl (roB_f hz) dX3_isOnWall_89
    · refine j_iload_n F dX3_isOnWall_75 rfl rfl ?_
      refine j_iload F dX3_isOnWall_76 rfl rfl ?_
      refine j_iload F dX3_isOnWall_78 rfl rfl ?_
      refine j_imulZ F (a := (((2 * (P.wl w 1) : Nat) : Int) - ((2 * ly + 1 : Nat) : Int)) + ((2 * (P.wl w 2) : Nat) : Int)) (b := s0) rfl rfl dX3_isOnWall_80 rfl ?_
      refine j_icmp_gtZ F (a := mv) (b := ((((2 * (P.wl w 1) : Nat) : Int) - ((2 * ly + 1 : Nat) : Int)) + ((2 * (P.wl w 2) : Nat) : Int)) * s0) rfl rfl hm (bd_mul (bd_add (bd_sub (bd_n (show 2 * (P.wl w 1) ≤ 40 by omega)) (bd_n (show 2 * ly + 1 ≤ 40 by omega))) (bd_n (show 2 * (P.wl w 2) ≤ 40 by omega))) hs) (by decide) (by decide) (tgt := 88) dX3_isOnWall_81 (by decide) rfl (fun c_81 => ?_) (fun c_81 => ?_)
      · have hz : P.onB lx ly w mv s0 = false := by
          unfold Pl.onB Pl.low
          first | rw [if_pos c_7] | rw [if_neg c_7]
          exact decide_eq_false (fun q => absurd q.2 (by omega))
        refine j_iconst (v := nI (0)) F dX3_isOnWall_88 rfl (by decide) ?_
        exact j_iret F hRt rfl (roB_f hz) dX3_isOnWall_89
      · have hz : P.onB lx ly w mv s0 = true := by
          unfold Pl.onB Pl.low
          first | rw [if_pos c_7] | rw [if_neg c_7]
          exact decide_eq_true ⟨c_72, c_81⟩
        refine j_iconst (v := nI (1)) F dX3_isOnWall_84 rfl (by decide) ?_
        refine j_goto (pc' := 89) F dX3_isOnWall_85 (by decide) ?_
        exact j_iret F hRt rfl (roB_t hz) dX3_isOnWall_89
