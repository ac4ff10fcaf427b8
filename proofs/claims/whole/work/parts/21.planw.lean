/-! ===== plans changed ===== -/
def Pl.addW (P : Pl) (x y len u : Nat) : Pl := (P.W, P.H, P.nw + 1, P.nl, fun w p => if w = P.nw then (if p = 0 then x else if p = 1 then y else if p = 2 then len else u) else P.wl w p, P.lp)
def Pl.addL (P : Pl) (x y : Nat) : Pl := (P.W, P.H, P.nw, P.nl + 1, P.wl, fun l p => if l = P.nl then (if p = 0 then x else if p = 1 then y else 1) else P.lp l p)
def Pl.remW (P : Pl) (w : Nat) : Pl := (P.W, P.H, P.nw - 1, P.nl, fun j p => P.wl (if j < w then j else j + 1) p, P.lp)
def Pl.remL (P : Pl) (l : Nat) : Pl := (P.W, P.H, P.nw, P.nl - 1, P.wl, fun j p => P.lp (if j < l then j else j + 1) p)
def Pl.swL (P : Pl) (l : Nat) : Pl := (P.W, P.H, P.nw, P.nl, P.wl, fun j p => if j = l ∧ p = 2 then 1 - P.lp l 2 else P.lp j p)
def P0 (w h : Nat) : Pl := Pl.addW (Pl.addW (Pl.addW (Pl.addW (w, h, 0, 0, fun _ _ => 0, fun _ _ => 0) 0 0 w 0) w 0 h 1) 0 h w 0) 0 0 h 1
def Fr (S : List Nat) (σ σ' : St) : Prop := ∀ a, a ∉ S → σ' a = σ a
theorem Fr.rf {S : List Nat} {σ : St} : Fr S σ σ := fun _ _ => rfl
theorem Fr.tr {S : List Nat} {σ σ' σ'' : St} (h : Fr S σ σ') (h2 : Fr S σ' σ'') : Fr S σ σ'' := fun a ha => (h2 a ha).trans (h a ha)
theorem Fr.put {S : List Nat} {σ σ' : St} (h : Fr S σ σ') {k i : Nat} {v : Int32} (hk : k ∈ S) : Fr S σ (up σ' k i v) := fun a ha => by
  rw [show up σ' k i v a = σ' a from upR_n _ _ (fun q => ha (by rw [q]; exact hk))]
  exact h a ha
theorem Fr.row {S : List Nat} {σ σ' : St} (h : Fr S σ σ') {k : Nat} {g : Nat → Int32} (hk : k ∈ S) : Fr S σ (upR σ' k g) := fun a ha => by
  rw [upR_n _ _ (fun q => ha (by rw [q]; exact hk))]
  exact h a ha
theorem Fr.sub {S T : List Nat} {σ σ' : St} (h : Fr S σ σ') (hs : ∀ a ∈ S, a ∈ T) : Fr T σ σ' := fun a ha => h a (fun q => ha (hs a q))
theorem addW_ok {σ : St} {k : Nat} {P : Pl} {x y len u : Nat} (hP : PlanOK σ k P) : PlanOK (up (up (up (up (up σ (k + 1) (P.nw * 4 + 0) (nI x)) (k + 1) (P.nw * 4 + 1) (nI y)) (k + 1) (P.nw * 4 + 2) (nI len)) (k + 1) (P.nw * 4 + 3) (nI u)) k 2 (nI (P.nw + 1))) k (P.addW x y len u) := by
  have e0 : (up (up (up (up (up σ (k + 1) (P.nw * 4 + 0) (nI x)) (k + 1) (P.nw * 4 + 1) (nI y)) (k + 1) (P.nw * 4 + 2) (nI len)) (k + 1) (P.nw * 4 + 3) (nI u)) k 2 (nI (P.nw + 1))) k = upd (σ k) 2 (nI (P.nw + 1)) := by
    simp only [up, upR_s, upR_n _ _ (show k ≠ k + 1 by omega)]
  have e1 : (up (up (up (up (up σ (k + 1) (P.nw * 4 + 0) (nI x)) (k + 1) (P.nw * 4 + 1) (nI y)) (k + 1) (P.nw * 4 + 2) (nI len)) (k + 1) (P.nw * 4 + 3) (nI u)) k 2 (nI (P.nw + 1))) (k + 1) = upd (upd (upd (upd (σ (k + 1)) (P.nw * 4 + 0) (nI x)) (P.nw * 4 + 1) (nI y)) (P.nw * 4 + 2) (nI len)) (P.nw * 4 + 3) (nI u) := by
    simp only [up, upR_s, upR_n _ _ (show k + 1 ≠ k by omega)]
  have e2 : (up (up (up (up (up σ (k + 1) (P.nw * 4 + 0) (nI x)) (k + 1) (P.nw * 4 + 1) (nI y)) (k + 1) (P.nw * 4 + 2) (nI len)) (k + 1) (P.nw * 4 + 3) (nI u)) k 2 (nI (P.nw + 1))) (k + 2) = σ (k + 2) := by
    simp only [up, upR_n _ _ (show k + 2 ≠ k by omega), upR_n _ _ (show k + 2 ≠ k + 1 by omega)]
  unfold PlanOK
  rw [e0, e1, e2]
  refine ⟨by rw [upd_n _ _ (by decide)]; exact hP.w, by rw [upd_n _ _ (by decide)]; exact hP.h, by rw [upd_s]; rfl, by rw [upd_n _ _ (by decide)]; exact hP.nl, fun w p hw hp => ?_, fun l p hl hp => hP.lp hl hp⟩
  have hw2 : w < P.nw + 1 := hw
  by_cases he : w = P.nw
  · subst he
    rcases (show p = 0 ∨ p = 1 ∨ p = 2 ∨ p = 3 by omega) with rfl | rfl | rfl | rfl
    · rw [upd_n _ _ (by omega), upd_n _ _ (by omega), upd_n _ _ (by omega), upd_s]; simp [Pl.addW, Pl.wl, Pl.nw]
    · rw [upd_n _ _ (by omega), upd_n _ _ (by omega), upd_s]; simp [Pl.addW, Pl.wl, Pl.nw]
    · rw [upd_n _ _ (by omega), upd_s]; simp [Pl.addW, Pl.wl, Pl.nw]
    · rw [upd_s]; simp [Pl.addW, Pl.wl, Pl.nw]
  · rw [upd_n _ _ (by omega), upd_n _ _ (by omega), upd_n _ _ (by omega), upd_n _ _ (by omega), hP.wl (by omega) hp]
    show nI (P.wl w p) = nI (if w = P.nw then _ else P.wl w p)
    rw [if_neg he]
theorem addL_ok {σ : St} {k : Nat} {P : Pl} {x y : Nat} (hP : PlanOK σ k P) : PlanOK (up (up (up (up σ (k + 2) (P.nl * 3 + 0) (nI x)) (k + 2) (P.nl * 3 + 1) (nI y)) (k + 2) (P.nl * 3 + 2) (nI 1)) k 3 (nI (P.nl + 1))) k (P.addL x y) := by
  have e0 : (up (up (up (up σ (k + 2) (P.nl * 3 + 0) (nI x)) (k + 2) (P.nl * 3 + 1) (nI y)) (k + 2) (P.nl * 3 + 2) (nI 1)) k 3 (nI (P.nl + 1))) k = upd (σ k) 3 (nI (P.nl + 1)) := by
    simp only [up, upR_s, upR_n _ _ (show k ≠ k + 2 by omega)]
  have e1 : (up (up (up (up σ (k + 2) (P.nl * 3 + 0) (nI x)) (k + 2) (P.nl * 3 + 1) (nI y)) (k + 2) (P.nl * 3 + 2) (nI 1)) k 3 (nI (P.nl + 1))) (k + 1) = σ (k + 1) := by
    simp only [up, upR_n _ _ (show k + 1 ≠ k by omega), upR_n _ _ (show k + 1 ≠ k + 2 by omega)]
  have e2 : (up (up (up (up σ (k + 2) (P.nl * 3 + 0) (nI x)) (k + 2) (P.nl * 3 + 1) (nI y)) (k + 2) (P.nl * 3 + 2) (nI 1)) k 3 (nI (P.nl + 1))) (k + 2) = upd (upd (upd (σ (k + 2)) (P.nl * 3 + 0) (nI x)) (P.nl * 3 + 1) (nI y)) (P.nl * 3 + 2) (nI 1) := by
    simp only [up, upR_s, upR_n _ _ (show k + 2 ≠ k by omega)]
  unfold PlanOK
  rw [e0, e1, e2]
  refine ⟨by rw [upd_n _ _ (by decide)]; exact hP.w, by rw [upd_n _ _ (by decide)]; exact hP.h, by rw [upd_n _ _ (by decide)]; exact hP.nw, by rw [upd_s]; rfl, fun w p hw hp => hP.wl hw hp, fun w p hw hp => ?_⟩
  have hw2 : w < P.nl + 1 := hw
  by_cases he : w = P.nl
  · subst he
    rcases (show p = 0 ∨ p = 1 ∨ p = 2 by omega) with rfl | rfl | rfl
    · rw [upd_n _ _ (by omega), upd_n _ _ (by omega), upd_s]; simp [Pl.addL, Pl.lp, Pl.nl]
    · rw [upd_n _ _ (by omega), upd_s]; simp [Pl.addL, Pl.lp, Pl.nl]
    · rw [upd_s]; simp [Pl.addL, Pl.lp, Pl.nl]
  · rw [upd_n _ _ (by omega), upd_n _ _ (by omega), upd_n _ _ (by omega), hP.lp (by omega) hp]
    show nI (P.lp w p) = nI (if w = P.nl then _ else P.lp w p)
    rw [if_neg he]
/-- rows from a on, moved down by p, as far as i -/
def gp (f : Nat → Int32) (a p i : Nat) : Nat → Int32 := fun j => if a ≤ j ∧ j < i then f (j + p) else f j
theorem gp_0 (f : Nat → Int32) (a p : Nat) : gp f a p a = f := by
  funext j
  unfold gp
  rw [if_neg (by omega)]
theorem gp_s {σ : St} {c a p i : Nat} (h : a ≤ i) : up (upR σ c (gp (σ c) a p i)) c i (upR σ c (gp (σ c) a p i) c (i + p)) = upR σ c (gp (σ c) a p (i + 1)) := by
  funext q
  by_cases hq : q = c
  · subst hq
    simp only [up, upR_s]
    funext j
    by_cases hj : j = i
    · subst hj
      rw [upd_s]
      unfold gp
      rw [if_neg (by omega), if_pos (by omega)]
    · rw [upd_n _ _ hj]
      unfold gp
      by_cases h2 : a ≤ j ∧ j < i
      · rw [if_pos h2, if_pos (by omega)]
      · rw [if_neg h2, if_neg (by omega)]
  · simp only [up, upR_n _ _ hq]
theorem remW_ok {σ : St} {k w : Nat} {P : Pl} (hP : PlanOK σ k P) (hw : w < P.nw) : PlanOK (up (upR σ (k + 1) (gp (σ (k + 1)) (w * 4) 4 (P.nw * 4 - 4))) k 2 (nI (P.nw - 1))) k (P.remW w) := by
  have e0 : (up (upR σ (k + 1) (gp (σ (k + 1)) (w * 4) 4 (P.nw * 4 - 4))) k 2 (nI (P.nw - 1))) k = upd (σ k) 2 (nI (P.nw - 1)) := by
    simp only [up, upR_s, upR_n _ _ (show k ≠ k + 1 by omega)]
  have e1 : (up (upR σ (k + 1) (gp (σ (k + 1)) (w * 4) 4 (P.nw * 4 - 4))) k 2 (nI (P.nw - 1))) (k + 1) = gp (σ (k + 1)) (w * 4) 4 (P.nw * 4 - 4) := by
    simp only [up, upR_s, upR_n _ _ (show k + 1 ≠ k by omega)]
  have e2 : (up (upR σ (k + 1) (gp (σ (k + 1)) (w * 4) 4 (P.nw * 4 - 4))) k 2 (nI (P.nw - 1))) (k + 2) = σ (k + 2) := by
    simp only [up, upR_n _ _ (show k + 2 ≠ k by omega), upR_n _ _ (show k + 2 ≠ k + 1 by omega)]
  unfold PlanOK
  rw [e0, e1, e2]
  refine ⟨by rw [upd_n _ _ (by decide)]; exact hP.w, by rw [upd_n _ _ (by decide)]; exact hP.h, by rw [upd_s]; rfl, by rw [upd_n _ _ (by decide)]; exact hP.nl, fun j p hj hp => ?_, fun l p hl hp => hP.lp hl hp⟩
  have hj2 : j < P.nw - 1 := hj
  show _ = nI (P.wl (if j < w then j else j + 1) p)
  unfold gp
  by_cases h2 : j < w
  · rw [if_neg (by omega), if_pos h2]
    exact hP.wl (by omega) hp
  · rw [if_pos (by omega), if_neg h2, show j * 4 + p + 4 = (j + 1) * 4 + p by omega]
    exact hP.wl (by omega) hp
theorem remL_ok {σ : St} {k w : Nat} {P : Pl} (hP : PlanOK σ k P) (hw : w < P.nl) : PlanOK (up (upR σ (k + 2) (gp (σ (k + 2)) (w * 3) 3 (P.nl * 3 - 3))) k 3 (nI (P.nl - 1))) k (P.remL w) := by
  have e0 : (up (upR σ (k + 2) (gp (σ (k + 2)) (w * 3) 3 (P.nl * 3 - 3))) k 3 (nI (P.nl - 1))) k = upd (σ k) 3 (nI (P.nl - 1)) := by
    simp only [up, upR_s, upR_n _ _ (show k ≠ k + 2 by omega)]
  have e1 : (up (upR σ (k + 2) (gp (σ (k + 2)) (w * 3) 3 (P.nl * 3 - 3))) k 3 (nI (P.nl - 1))) (k + 1) = σ (k + 1) := by
    simp only [up, upR_n _ _ (show k + 1 ≠ k by omega), upR_n _ _ (show k + 1 ≠ k + 2 by omega)]
  have e2 : (up (upR σ (k + 2) (gp (σ (k + 2)) (w * 3) 3 (P.nl * 3 - 3))) k 3 (nI (P.nl - 1))) (k + 2) = gp (σ (k + 2)) (w * 3) 3 (P.nl * 3 - 3) := by
    simp only [up, upR_s, upR_n _ _ (show k + 2 ≠ k by omega)]
  unfold PlanOK
  rw [e0, e1, e2]
  refine ⟨by rw [upd_n _ _ (by decide)]; exact hP.w, by rw [upd_n _ _ (by decide)]; exact hP.h, by rw [upd_n _ _ (by decide)]; exact hP.nw, by rw [upd_s]; rfl, fun j p hj hp => hP.wl hj hp, fun j p hj hp => ?_⟩
  have hj2 : j < P.nl - 1 := hj
  show _ = nI (P.lp (if j < w then j else j + 1) p)
  unfold gp
  by_cases h2 : j < w
  · rw [if_neg (by omega), if_pos h2]
    exact hP.lp (by omega) hp
  · rw [if_pos (by omega), if_neg h2, show j * 3 + p + 3 = (j + 1) * 3 + p by omega]
    exact hP.lp (by omega) hp
theorem swL_ok {σ : St} {k w : Nat} {P : Pl} (hP : PlanOK σ k P) (hw : w < P.nl) : PlanOK (up σ (k + 2) (w * 3 + 2) (nI (1 - P.lp w 2))) k (P.swL w) := by
  unfold PlanOK
  rw [show up σ (k + 2) (w * 3 + 2) (nI (1 - P.lp w 2)) k = σ k from upR_n _ _ (by omega), show up σ (k + 2) (w * 3 + 2) (nI (1 - P.lp w 2)) (k + 1) = σ (k + 1) from upR_n _ _ (by omega), show up σ (k + 2) (w * 3 + 2) (nI (1 - P.lp w 2)) (k + 2) = _ from upR_s _ _ _]
  refine ⟨hP.w, hP.h, hP.nw, hP.nl, fun j p hj hp => hP.wl hj hp, fun j p hj hp => ?_⟩
  show _ = nI (if j = w ∧ p = 2 then 1 - P.lp w 2 else P.lp j p)
  by_cases h2 : j = w ∧ p = 2
  · rw [if_pos h2, h2.1, h2.2, upd_s]
  · rw [if_neg h2, upd_n _ _ (by omega)]
    exact hP.lp hj hp
theorem copy_ok {σ : St} {k c : Nat} {P : Pl} (hP : PlanOK σ c P) (h1 : c + 2 < k ∨ k + 2 < c) (hw : P.nw ≤ 14) (hl : P.nl ≤ 8) {σ' : St} (hσ : σ' = upR (upR (up (up (up (up σ k 0 (nI P.W)) k 1 (nI P.H)) k 2 (nI P.nw)) k 3 (nI P.nl)) (k + 1) (va_cpy (σ (c + 1)) (σ (k + 1)) 0 0 56)) (k + 2) (va_cpy (σ (c + 2)) (σ (k + 2)) 0 0 24)) : PlanOK σ' k P ∧ Fr [k, k + 1, k + 2] σ σ' := by
  subst hσ
  refine ⟨?_, ?_⟩
  · unfold PlanOK
    simp only [up, upR_s, upR_n _ _ (show k ≠ k + 1 by omega), upR_n _ _ (show k ≠ k + 2 by omega), upR_n _ _ (show k + 1 ≠ k + 2 by omega), upR_n _ _ (show k + 1 ≠ k by omega)]
    refine ⟨?_, ?_, ?_, ?_, fun w p hw' hp => ?_, fun l p hl' hp => ?_⟩
    · rw [upd_n _ _ (by decide), upd_n _ _ (by decide), upd_n _ _ (by decide), upd_s]
    · rw [upd_n _ _ (by decide), upd_n _ _ (by decide), upd_s]
    · rw [upd_n _ _ (by decide), upd_s]
    · rw [upd_s]
    · rw [pk_cpy_in (Nat.zero_le _) (by omega), Nat.zero_add, Nat.sub_zero]
      exact hP.wl hw' hp
    · rw [pk_cpy_in (Nat.zero_le _) (by omega), Nat.zero_add, Nat.sub_zero]
      exact hP.lp hl' hp
  · exact Fr.row (Fr.row (Fr.put (Fr.put (Fr.put (Fr.put Fr.rf (by simp)) (by simp)) (by simp)) (by simp)) (by simp)) (by simp)
set_option maxRecDepth 10000 in
set_option maxHeartbeats 2000000 in
theorem c_X2_addWall {l : Launch} {n : Nat} {E : Ev} {σ : St} {k : Nat} {P : Pl} (hn : 55 ≤ n) (hk : isPl n k) (hP : PlanOK σ k P) (x y len u : Nat) (hw : P.nw < 14) : Ct l yX2_addWall cX2_addWall 6 none 0 n E [.ref (E.1 + k), .int (nI (x)), .int (nI (y)), .int (nI (len)), .int (nI (u))] σ (fun v' σ' => v' = none ∧ PlanOK σ' k (P.addW x y len u) ∧ Fr [k, k + 1, k + 2] σ σ') := by
  refine Ct.of (lv0 := [some (.ref (E.1 + k)), some (.int (nI (x))), some (.int (nI (y))), some (.int (nI (len))), some (.int (nI (u))), none]) (by decide) (Nat.le_of_ble_eq_true rfl) rfl ?_
  intro X hXn hXE hXl hXL F hRt
  subst hXn hXE hXl
  have hL : ∀ i, i < 6 → i < X.nL := fun i h => by rw [hXL]; exact h
  refine j_aload_n F dX2_addWall_0 rfl rfl ?_
  refine gX2_25 hk F dX2_addWall_1 rfl ?_
  refine j_int (y := nI (P.nw)) (hP.nw) ?_
  refine j_bipush (v := nI (14)) F dX2_addWall_4 rfl (by decide) ?_
  refine j_icmp_ltN (a := P.nw) (b := 14) F (by omega) (by omega) (tgt := 10) dX2_addWall_6 (by decide) rfl (fun c_6 => ?_) (fun c_6 => False.elim (by omega))
  refine j_aload_n F dX2_addWall_10 rfl rfl ?_
  refine gX2_25 hk F dX2_addWall_11 rfl ?_
  refine j_int (y := nI (P.nw)) (hP.nw) ?_
  refine j_iconst (v := nI (4)) F dX2_addWall_14 rfl (by decide) ?_
  refine j_imulN (a := P.nw) (b := 4) F dX2_addWall_15 rfl ?_
  refine j_istore (lv' := [some (.ref (X.E.1 + k)), some (.int (nI (x))), some (.int (nI (y))), some (.int (nI (len))), some (.int (nI (u))), some (.int (nI (P.nw * 4)))]) F dX2_addWall_16 rfl (hL _ (by decide)) rfl rfl ?_
  refine j_aload_n F dX2_addWall_18 rfl rfl ?_
  refine gX2_9 hk F dX2_addWall_19 rfl ?_
  refine j_iload F dX2_addWall_22 rfl rfl ?_
  refine j_iconst (v := nI (0)) F dX2_addWall_24 rfl (by decide) ?_
  refine j_iaddN (a := P.nw * 4) (b := 0) F dX2_addWall_25 rfl ?_
  refine j_iload_n F dX2_addWall_26 rfl rfl ?_
  refine j_iastore (a := (P.nw * 4) + 0) F (by have := hk.1; omega) hk.2.2.1 rfl (by omega) (by decide) dX2_addWall_27 rfl ?_
  refine j_aload_n F dX2_addWall_28 rfl rfl ?_
  refine gX2_9 hk F dX2_addWall_29 rfl ?_
  refine j_iload F dX2_addWall_32 rfl rfl ?_
  refine j_iconst (v := nI (1)) F dX2_addWall_34 rfl (by decide) ?_
  refine j_iaddN (a := P.nw * 4) (b := 1) F dX2_addWall_35 rfl ?_
  refine j_iload_n F dX2_addWall_36 rfl rfl ?_
  refine j_iastore (a := (P.nw * 4) + 1) F (by have := hk.1; omega) hk.2.2.1 rfl (by omega) (by decide) dX2_addWall_37 rfl ?_
  refine j_aload_n F dX2_addWall_38 rfl rfl ?_
  refine gX2_9 hk F dX2_addWall_39 rfl ?_
  refine j_iload F dX2_addWall_42 rfl rfl ?_
  refine j_iconst (v := nI (2)) F dX2_addWall_44 rfl (by decide) ?_
  refine j_iaddN (a := P.nw * 4) (b := 2) F dX2_addWall_45 rfl ?_
  refine j_iload_n F dX2_addWall_46 rfl rfl ?_
  refine j_iastore (a := (P.nw * 4) + 2) F (by have := hk.1; omega) hk.2.2.1 rfl (by omega) (by decide) dX2_addWall_47 rfl ?_
  refine j_aload_n F dX2_addWall_48 rfl rfl ?_
  refine gX2_9 hk F dX2_addWall_49 rfl ?_
  refine j_iload F dX2_addWall_52 rfl rfl ?_
  refine j_iconst (v := nI (3)) F dX2_addWall_54 rfl (by decide) ?_
  refine j_iaddN (a := P.nw * 4) (b := 3) F dX2_addWall_55 rfl ?_
  refine j_iload F dX2_addWall_56 rfl rfl ?_
  refine j_iastore (a := (P.nw * 4) + 3) F (by have := hk.1; omega) hk.2.2.1 rfl (by omega) (by decide) dX2_addWall_58 rfl ?_
  refine j_aload_n F dX2_addWall_59 rfl rfl ?_
  refine j_dup F dX2_addWall_60 rfl rfl ?_
  refine gX2_25 hk F dX2_addWall_61 rfl ?_
  refine j_int (y := nI (P.nw)) (by simp only [up, upR_n _ _ (show k ≠ k + 1 by omega)]; exact hP.nw) ?_
  refine j_iconst (v := nI (1)) F dX2_addWall_64 rfl (by decide) ?_
  refine j_iaddN (a := P.nw) (b := 1) F dX2_addWall_65 rfl ?_
  refine pX2_25 hk F dX2_addWall_66 rfl ?_
  exact j_vret F hRt (⟨rfl, addW_ok hP, Fr.put (Fr.put (Fr.put (Fr.put (Fr.put Fr.rf (by simp)) (by simp)) (by simp)) (by simp)) (by simp)⟩) dX2_addWall_69

set_option maxRecDepth 10000 in
set_option maxHeartbeats 2000000 in
theorem c_X2_addLamp {l : Launch} {n : Nat} {E : Ev} {σ : St} {k : Nat} {P : Pl} (hn : 55 ≤ n) (hk : isPl n k) (hP : PlanOK σ k P) (x y : Nat) (hw : P.nl < 8) : Ct l yX2_addLamp cX2_addLamp 4 none 0 n E [.ref (E.1 + k), .int (nI (x)), .int (nI (y))] σ (fun v' σ' => v' = none ∧ PlanOK σ' k (P.addL x y) ∧ Fr [k, k + 1, k + 2] σ σ') := by
  refine Ct.of (lv0 := [some (.ref (E.1 + k)), some (.int (nI (x))), some (.int (nI (y))), none]) (by decide) (Nat.le_of_ble_eq_true rfl) rfl ?_
  intro X hXn hXE hXl hXL F hRt
  subst hXn hXE hXl
  have hL : ∀ i, i < 4 → i < X.nL := fun i h => by rw [hXL]; exact h
  refine j_aload_n F dX2_addLamp_0 rfl rfl ?_
  refine gX2_28 hk F dX2_addLamp_1 rfl ?_
  refine j_int (y := nI (P.nl)) (hP.nl) ?_
  refine j_bipush (v := nI (8)) F dX2_addLamp_4 rfl (by decide) ?_
  refine j_icmp_ltN (a := P.nl) (b := 8) F (by omega) (by omega) (tgt := 10) dX2_addLamp_6 (by decide) rfl (fun c_6 => ?_) (fun c_6 => False.elim (by omega))
  refine j_aload_n F dX2_addLamp_10 rfl rfl ?_
  refine gX2_28 hk F dX2_addLamp_11 rfl ?_
  refine j_int (y := nI (P.nl)) (hP.nl) ?_
  refine j_iconst (v := nI (3)) F dX2_addLamp_14 rfl (by decide) ?_
  refine j_imulN (a := P.nl) (b := 3) F dX2_addLamp_15 rfl ?_
  refine j_istore_n (lv' := [some (.ref (X.E.1 + k)), some (.int (nI (x))), some (.int (nI (y))), some (.int (nI (P.nl * 3)))]) F dX2_addLamp_16 rfl (hL _ (by decide)) rfl rfl ?_
  refine j_aload_n F dX2_addLamp_17 rfl rfl ?_
  refine gX2_15 hk F dX2_addLamp_18 rfl ?_
  refine j_iload_n F dX2_addLamp_21 rfl rfl ?_
  refine j_iconst (v := nI (0)) F dX2_addLamp_22 rfl (by decide) ?_
  refine j_iaddN (a := P.nl * 3) (b := 0) F dX2_addLamp_23 rfl ?_
  refine j_iload_n F dX2_addLamp_24 rfl rfl ?_
  refine j_iastore (a := (P.nl * 3) + 0) F (by have := hk.1; omega) hk.2.2.2 rfl (by omega) (by decide) dX2_addLamp_25 rfl ?_
  refine j_aload_n F dX2_addLamp_26 rfl rfl ?_
  refine gX2_15 hk F dX2_addLamp_27 rfl ?_
  refine j_iload_n F dX2_addLamp_30 rfl rfl ?_
  refine j_iconst (v := nI (1)) F dX2_addLamp_31 rfl (by decide) ?_
  refine j_iaddN (a := P.nl * 3) (b := 1) F dX2_addLamp_32 rfl ?_
  refine j_iload_n F dX2_addLamp_33 rfl rfl ?_
  refine j_iastore (a := (P.nl * 3) + 1) F (by have := hk.1; omega) hk.2.2.2 rfl (by omega) (by decide) dX2_addLamp_34 rfl ?_
  refine j_aload_n F dX2_addLamp_35 rfl rfl ?_
  refine gX2_15 hk F dX2_addLamp_36 rfl ?_
  refine j_iload_n F dX2_addLamp_39 rfl rfl ?_
  refine j_iconst (v := nI (2)) F dX2_addLamp_40 rfl (by decide) ?_
  refine j_iaddN (a := P.nl * 3) (b := 2) F dX2_addLamp_41 rfl ?_
  refine j_iconst (v := nI (1)) F dX2_addLamp_42 rfl (by decide) ?_
  refine j_iastore (a := (P.nl * 3) + 2) F (by have := hk.1; omega) hk.2.2.2 rfl (by omega) (by decide) dX2_addLamp_43 rfl ?_
  refine j_aload_n F dX2_addLamp_44 rfl rfl ?_
  refine j_dup F dX2_addLamp_45 rfl rfl ?_
  refine gX2_28 hk F dX2_addLamp_46 rfl ?_
  refine j_int (y := nI (P.nl)) (by simp only [up, upR_n _ _ (show k ≠ k + 2 by omega)]; exact hP.nl) ?_
  refine j_iconst (v := nI (1)) F dX2_addLamp_49 rfl (by decide) ?_
  refine j_iaddN (a := P.nl) (b := 1) F dX2_addLamp_50 rfl ?_
  refine pX2_28 hk F dX2_addLamp_51 rfl ?_
  exact j_vret F hRt (⟨rfl, addL_ok hP, Fr.put (Fr.put (Fr.put (Fr.put Fr.rf (by simp)) (by simp)) (by simp)) (by simp)⟩) dX2_addLamp_54

set_option maxRecDepth 10000 in
set_option maxHeartbeats 2000000 in
theorem c_X2_closeGap {l : Launch} {n : Nat} {E : Ev} {σ : St} {c N : Nat} (hc : c < n) (hs : shpL[c]? = some (.inl (0, N, 0))) (hN : N < 100) (a p z : Nat) (hap : a + p ≤ z) (hz : z ≤ N) : Ct l yX2_closeGap cX2_closeGap 5 none 0 n E [.ref (E.1 + c), .int (nI (a)), .int (nI (p)), .int (nI (z))] σ (fun v' σ' => v' = none ∧ σ' = upR σ c (gp (σ c) a p (z - p))) := by
  refine Ct.of (lv0 := [some (.ref (E.1 + c)), some (.int (nI (a))), some (.int (nI (p))), some (.int (nI (z))), none]) (by decide) (Nat.le_of_ble_eq_true rfl) rfl ?_
  intro X hXn hXE hXl hXL F hRt
  subst hXn hXE hXl
  have hL : ∀ i, i < 5 → i < X.nL := fun i h => by rw [hXL]; exact h
  refine j_iload_n F dX2_closeGap_0 rfl rfl ?_
  refine j_istore (lv' := [some (.ref (X.E.1 + c)), some (.int (nI (a))), some (.int (nI (p))), some (.int (nI (z))), some (.int (nI (a)))]) F dX2_closeGap_1 rfl (hL _ (by decide)) rfl rfl ?_
  refine j_store (σ' := upR σ c (gp (σ c) a p a)) (by rw [gp_0]; funext q; by_cases h : q = c; (subst h; rw [upR_s]); rw [upR_n _ _ h]) ?_
  have loop_3 : ∀ (i : Nat), i ≤ (z - p) → (a ≤ i) → J X 3 [some (.ref (X.E.1 + c)), some (.int (nI (a))), some (.int (nI (p))), some (.int (nI (z))), some (.int (nI (i)))] [] (upR σ c (gp (σ c) a p i)) := by
    refine dnL (fun i hi ih_3 => ?_)
    intro hai
    refine j_iload F dX2_closeGap_3 rfl rfl ?_
    refine j_iload_n F dX2_closeGap_5 rfl rfl ?_
    refine j_iaddN (a := i) (b := p) F dX2_closeGap_6 rfl ?_
    refine j_iload_n F dX2_closeGap_7 rfl rfl ?_
    refine j_icmp_geN (a := i + p) (b := z) F (by omega) (by omega) (tgt := 27) dX2_closeGap_8 (by decide) rfl (fun c_8 => ?_) (fun c_8 => ?_)
    · obtain rfl : i = z - p := by omega
      exact j_vret F hRt (⟨rfl, rfl⟩) dX2_closeGap_27
    · refine j_aload_n F dX2_closeGap_11 rfl rfl ?_
      refine j_iload F dX2_closeGap_12 rfl rfl ?_
      refine j_aload_n F dX2_closeGap_14 rfl rfl ?_
      refine j_iload F dX2_closeGap_15 rfl rfl ?_
      refine j_iload_n F dX2_closeGap_17 rfl rfl ?_
      refine j_iaddN (a := i) (b := p) F dX2_closeGap_18 rfl ?_
      refine j_iaload (a := i + p) F hc hs rfl (by omega) (by omega) dX2_closeGap_19 rfl ?_
      refine j_iastore (a := i) F hc hs rfl (by omega) (by omega) dX2_closeGap_20 rfl ?_
      refine j_store (σ' := upR σ c (gp (σ c) a p (i + 1))) (gp_s hai) ?_
      refine j_iincN (a := i) (c := 1) (lv' := [some (.ref (X.E.1 + c)), some (.int (nI (a))), some (.int (nI (p))), some (.int (nI (z))), some (.int (nI (i + 1)))]) F dX2_closeGap_21 rfl rfl (by decide) (hL _ (by decide)) rfl rfl ?_
      refine j_goto (pc' := 3) F dX2_closeGap_24 (by decide) ?_
      exact ih_3 (by omega)  (by omega)
  exact loop_3 a (by omega)  (Nat.le_refl a)

set_option maxRecDepth 10000 in
set_option maxHeartbeats 2000000 in
theorem c_X2_removeWall {l : Launch} {n : Nat} {E : Ev} {σ : St} {k : Nat} {P : Pl} (hn : 55 ≤ n) (hk : isPl n k) (hP : PlanOK σ k P) (w : Nat) (hw : w < P.nw) (hc : P.nw ≤ 14) : Ct l yX2_removeWall cX2_removeWall 2 none 1 n E [.ref (E.1 + k), .int (nI (w))] σ (fun v' σ' => v' = none ∧ PlanOK σ' k (P.remW w) ∧ Fr [k, k + 1, k + 2] σ σ') := by
  refine Ct.of (lv0 := [some (.ref (E.1 + k)), some (.int (nI (w)))]) (by decide) (Nat.le_of_ble_eq_true rfl) rfl ?_
  intro X hXn hXE hXl hXL F hRt
  subst hXn hXE hXl
  have hL : ∀ i, i < 2 → i < X.nL := fun i h => by rw [hXL]; exact h
  refine j_aload_n F dX2_removeWall_0 rfl rfl ?_
  refine gX2_9 hk F dX2_removeWall_1 rfl ?_
  refine j_iload_n F dX2_removeWall_4 rfl rfl ?_
  refine j_iconst (v := nI (4)) F dX2_removeWall_5 rfl (by decide) ?_
  refine j_imulN (a := w) (b := 4) F dX2_removeWall_6 rfl ?_
  refine j_iconst (v := nI (4)) F dX2_removeWall_7 rfl (by decide) ?_
  refine j_aload_n F dX2_removeWall_8 rfl rfl ?_
  refine gX2_25 hk F dX2_removeWall_9 rfl ?_
  refine j_int (y := nI (P.nw)) (hP.nw) ?_
  refine j_iconst (v := nI (4)) F dX2_removeWall_12 rfl (by decide) ?_
  refine j_imulN (a := P.nw) (b := 4) F dX2_removeWall_13 rfl ?_
  refine kX2_45 F (As := [.ref (X.E.1 + (k + 1)), .int (nI (w * 4)), .int (nI (4)), .int (nI (P.nw * 4))]) (rest := []) (c_X2_closeGap (N := 56) (by have := hk.1; omega) hk.2.2.1 (by decide) (w * 4) 4 (P.nw * 4) (by omega) (by omega)) (by decide) rfl rfl (Nat.le_of_ble_eq_true rfl) dX2_removeWall_14 rfl (fun v_14 σ_14 q_14 => ?_)
  obtain ⟨rfl, rfl⟩ := q_14
  refine j_aload_n F dX2_removeWall_17 rfl rfl ?_
  refine j_dup F dX2_removeWall_18 rfl rfl ?_
  refine gX2_25 hk F dX2_removeWall_19 rfl ?_
  refine j_int (y := nI (P.nw)) (by simp only [upR_n _ _ (show k ≠ k + 1 by omega)]; exact hP.nw) ?_
  refine j_iconst (v := nI (1)) F dX2_removeWall_22 rfl (by decide) ?_
  refine j_isubN (a := P.nw) (b := 1) F (by omega) dX2_removeWall_23 rfl ?_
  refine pX2_25 hk F dX2_removeWall_24 rfl ?_
  exact j_vret F hRt (⟨rfl, remW_ok hP hw, Fr.put (Fr.row Fr.rf (by simp)) (by simp)⟩) dX2_removeWall_27

set_option maxRecDepth 10000 in
set_option maxHeartbeats 2000000 in
theorem c_X2_removeLamp {l : Launch} {n : Nat} {E : Ev} {σ : St} {k : Nat} {P : Pl} (hn : 55 ≤ n) (hk : isPl n k) (hP : PlanOK σ k P) (w : Nat) (hw : w < P.nl) (hc : P.nl ≤ 8) : Ct l yX2_removeLamp cX2_removeLamp 2 none 1 n E [.ref (E.1 + k), .int (nI (w))] σ (fun v' σ' => v' = none ∧ PlanOK σ' k (P.remL w) ∧ Fr [k, k + 1, k + 2] σ σ') := by
  refine Ct.of (lv0 := [some (.ref (E.1 + k)), some (.int (nI (w)))]) (by decide) (Nat.le_of_ble_eq_true rfl) rfl ?_
  intro X hXn hXE hXl hXL F hRt
  subst hXn hXE hXl
  have hL : ∀ i, i < 2 → i < X.nL := fun i h => by rw [hXL]; exact h
  refine j_aload_n F dX2_removeLamp_0 rfl rfl ?_
  refine gX2_15 hk F dX2_removeLamp_1 rfl ?_
  refine j_iload_n F dX2_removeLamp_4 rfl rfl ?_
  refine j_iconst (v := nI (3)) F dX2_removeLamp_5 rfl (by decide) ?_
  refine j_imulN (a := w) (b := 3) F dX2_removeLamp_6 rfl ?_
  refine j_iconst (v := nI (3)) F dX2_removeLamp_7 rfl (by decide) ?_
  refine j_aload_n F dX2_removeLamp_8 rfl rfl ?_
  refine gX2_28 hk F dX2_removeLamp_9 rfl ?_
  refine j_int (y := nI (P.nl)) (hP.nl) ?_
  refine j_iconst (v := nI (3)) F dX2_removeLamp_12 rfl (by decide) ?_
  refine j_imulN (a := P.nl) (b := 3) F dX2_removeLamp_13 rfl ?_
  refine kX2_45 F (As := [.ref (X.E.1 + (k + 2)), .int (nI (w * 3)), .int (nI (3)), .int (nI (P.nl * 3))]) (rest := []) (c_X2_closeGap (N := 24) (by have := hk.1; omega) hk.2.2.2 (by decide) (w * 3) 3 (P.nl * 3) (by omega) (by omega)) (by decide) rfl rfl (Nat.le_of_ble_eq_true rfl) dX2_removeLamp_14 rfl (fun v_14 σ_14 q_14 => ?_)
  obtain ⟨rfl, rfl⟩ := q_14
  refine j_aload_n F dX2_removeLamp_17 rfl rfl ?_
  refine j_dup F dX2_removeLamp_18 rfl rfl ?_
  refine gX2_28 hk F dX2_removeLamp_19 rfl ?_
  refine j_int (y := nI (P.nl)) (by simp only [upR_n _ _ (show k ≠ k + 2 by omega)]; exact hP.nl) ?_
  refine j_iconst (v := nI (1)) F dX2_removeLamp_22 rfl (by decide) ?_
  refine j_isubN (a := P.nl) (b := 1) F (by omega) dX2_removeLamp_23 rfl ?_
  refine pX2_28 hk F dX2_removeLamp_24 rfl ?_
  exact j_vret F hRt (⟨rfl, remL_ok hP hw, Fr.put (Fr.row Fr.rf (by simp)) (by simp)⟩) dX2_removeLamp_27

set_option maxRecDepth 10000 in
set_option maxHeartbeats 2000000 in
theorem c_X2_switchLamp {l : Launch} {n : Nat} {E : Ev} {σ : St} {k : Nat} {P : Pl} (hn : 55 ≤ n) (hk : isPl n k) (hP : PlanOK σ k P) (w : Nat) (hw : w < P.nl) (hc : P.nl ≤ 8) (h1 : P.lp w 2 ≤ 1) : Ct l yX2_switchLamp cX2_switchLamp 3 (some .int) 0 n E [.ref (E.1 + k), .int (nI (w))] σ (fun v' σ' => v' = some (.int (nI (1 - P.lp w 2))) ∧ PlanOK σ' k (P.swL w) ∧ Fr [k, k + 1, k + 2] σ σ') := by
  refine Ct.of (lv0 := [some (.ref (E.1 + k)), some (.int (nI (w))), none]) (by decide) (Nat.le_of_ble_eq_true rfl) rfl ?_
  intro X hXn hXE hXl hXL F hRt
  subst hXn hXE hXl
  have hL : ∀ i, i < 3 → i < X.nL := fun i h => by rw [hXL]; exact h
  refine j_iload_n F dX2_switchLamp_0 rfl rfl ?_
  refine j_iconst (v := nI (3)) F dX2_switchLamp_1 rfl (by decide) ?_
  refine j_imulN (a := w) (b := 3) F dX2_switchLamp_2 rfl ?_
  refine j_iconst (v := nI (2)) F dX2_switchLamp_3 rfl (by decide) ?_
  refine j_iaddN (a := w * 3) (b := 2) F dX2_switchLamp_4 rfl ?_
  refine j_istore_n (lv' := [some (.ref (X.E.1 + k)), some (.int (nI (w))), some (.int (nI ((w * 3) + 2)))]) F dX2_switchLamp_5 rfl (hL _ (by decide)) rfl rfl ?_
  refine j_aload_n F dX2_switchLamp_6 rfl rfl ?_
  refine gX2_15 hk F dX2_switchLamp_7 rfl ?_
  refine j_iload_n F dX2_switchLamp_10 rfl rfl ?_
  refine j_iconst (v := nI (1)) F dX2_switchLamp_11 rfl (by decide) ?_
  refine j_aload_n F dX2_switchLamp_12 rfl rfl ?_
  refine gX2_15 hk F dX2_switchLamp_13 rfl ?_
  refine j_iload_n F dX2_switchLamp_16 rfl rfl ?_
  refine j_iaload (a := (w * 3) + 2) F (by have := hk.1; omega) hk.2.2.2 rfl (by omega) (by decide) dX2_switchLamp_17 rfl ?_
  refine j_int (y := nI (P.lp w 2)) (hP.lp hw (by decide)) ?_
  refine j_isubN (a := 1) (b := P.lp w 2) F (by omega) dX2_switchLamp_18 rfl ?_
  refine j_iastore (a := (w * 3) + 2) F (by have := hk.1; omega) hk.2.2.2 rfl (by omega) (by decide) dX2_switchLamp_19 rfl ?_
  refine j_aload_n F dX2_switchLamp_20 rfl rfl ?_
  refine gX2_15 hk F dX2_switchLamp_21 rfl ?_
  refine j_iload_n F dX2_switchLamp_24 rfl rfl ?_
  refine j_iaload (a := (w * 3) + 2) F (by have := hk.1; omega) hk.2.2.2 rfl (by omega) (by decide) dX2_switchLamp_25 rfl ?_
  refine j_int (y := nI (1 - P.lp w 2)) (by simp only [up, upR_s, upd_s]) ?_
  exact j_iret F hRt rfl (⟨rfl, swL_ok hP hw, Fr.put Fr.rf (by simp)⟩) dX2_switchLamp_26

set_option maxRecDepth 10000 in
set_option maxHeartbeats 2000000 in
theorem c_X2_begin {l : Launch} {n : Nat} {E : Ev} {σ : St} {k : Nat} (hn : 55 ≤ n) (hk : isPl n k) (w h : Nat) : Ct l yX2_begin cX2_begin 3 none 1 n E [.ref (E.1 + k), .int (nI (w)), .int (nI (h))] σ (fun v' σ' => v' = none ∧ PlanOK σ' k (P0 w h) ∧ Fr [k, k + 1, k + 2] σ σ') := by
  refine Ct.of (lv0 := [some (.ref (E.1 + k)), some (.int (nI (w))), some (.int (nI (h)))]) (by decide) (Nat.le_of_ble_eq_true rfl) rfl ?_
  intro X hXn hXE hXl hXL F hRt
  subst hXn hXE hXl
  have hL : ∀ i, i < 3 → i < X.nL := fun i h => by rw [hXL]; exact h
  refine j_aload_n F dX2_begin_0 rfl rfl ?_
  refine j_iload_n F dX2_begin_1 rfl rfl ?_
  refine pX2_18 hk F dX2_begin_2 rfl ?_
  refine j_aload_n F dX2_begin_5 rfl rfl ?_
  refine j_iload_n F dX2_begin_6 rfl rfl ?_
  refine pX2_22 hk F dX2_begin_7 rfl ?_
  refine j_aload_n F dX2_begin_10 rfl rfl ?_
  refine j_iconst (v := nI (0)) F dX2_begin_11 rfl (by decide) ?_
  refine pX2_25 hk F dX2_begin_12 rfl ?_
  refine j_aload_n F dX2_begin_15 rfl rfl ?_
  refine j_iconst (v := nI (0)) F dX2_begin_16 rfl (by decide) ?_
  refine pX2_28 hk F dX2_begin_17 rfl ?_
  refine j_nm (fun σ0 eσ0 => ?_)
  have p_0 : PlanOK σ0 k ((w, h, 0, 0, fun _ _ => 0, fun _ _ => 0) : Pl) := by
    rw [eσ0]
    refine ⟨?_, ?_, ?_, ?_, fun w' p hw => absurd hw (Nat.not_lt_zero _), fun w' p hw => absurd hw (Nat.not_lt_zero _)⟩
    · simp only [up, upR_s]
      rw [upd_n _ _ (by decide), upd_n _ _ (by decide), upd_n _ _ (by decide), upd_s]; rfl
    · simp only [up, upR_s]
      rw [upd_n _ _ (by decide), upd_n _ _ (by decide), upd_s]; rfl
    · simp only [up, upR_s]
      rw [upd_n _ _ (by decide), upd_s]; rfl
    · simp only [up, upR_s]
      rw [upd_s]; rfl
  have f_0 : Fr [k, k + 1, k + 2] σ σ0 := by rw [eσ0]; exact Fr.put (Fr.put (Fr.put (Fr.put Fr.rf (by simp)) (by simp)) (by simp)) (by simp)
  refine j_aload_n F dX2_begin_20 rfl rfl ?_
  refine j_iconst (v := nI (0)) F dX2_begin_21 rfl (by decide) ?_
  refine j_iconst (v := nI (0)) F dX2_begin_22 rfl (by decide) ?_
  refine j_aload_n F dX2_begin_23 rfl rfl ?_
  refine gX2_18 hk F dX2_begin_24 rfl ?_
  refine j_int (y := nI (w)) (p_0.w) ?_
  refine j_iconst (v := nI (0)) F dX2_begin_27 rfl (by decide) ?_
  refine kX2_31 hk F (As := [.int (nI (0)), .int (nI (0)), .int (nI (w)), .int (nI (0))]) (rest := []) (c_X2_addWall hn hk p_0 0 0 w 0 (by show 0 < 14; decide)) (by decide) rfl rfl (Nat.le_of_ble_eq_true rfl) dX2_begin_28 rfl (fun v_28 σ1 q_28 => ?_)
  obtain ⟨rfl, p_1, f_1⟩ := q_28
  refine j_aload_n F dX2_begin_31 rfl rfl ?_
  refine j_aload_n F dX2_begin_32 rfl rfl ?_
  refine gX2_18 hk F dX2_begin_33 rfl ?_
  refine j_int (y := nI (w)) (p_1.w) ?_
  refine j_iconst (v := nI (0)) F dX2_begin_36 rfl (by decide) ?_
  refine j_aload_n F dX2_begin_37 rfl rfl ?_
  refine gX2_22 hk F dX2_begin_38 rfl ?_
  refine j_int (y := nI (h)) (p_1.h) ?_
  refine j_iconst (v := nI (1)) F dX2_begin_41 rfl (by decide) ?_
  refine kX2_31 hk F (As := [.int (nI (w)), .int (nI (0)), .int (nI (h)), .int (nI (1))]) (rest := []) (c_X2_addWall hn hk p_1 w 0 h 1 (by show 1 < 14; decide)) (by decide) rfl rfl (Nat.le_of_ble_eq_true rfl) dX2_begin_42 rfl (fun v_42 σ2 q_42 => ?_)
  obtain ⟨rfl, p_2, f_2⟩ := q_42
  refine j_aload_n F dX2_begin_45 rfl rfl ?_
  refine j_iconst (v := nI (0)) F dX2_begin_46 rfl (by decide) ?_
  refine j_aload_n F dX2_begin_47 rfl rfl ?_
  refine gX2_22 hk F dX2_begin_48 rfl ?_
  refine j_int (y := nI (h)) (p_2.h) ?_
  refine j_aload_n F dX2_begin_51 rfl rfl ?_
  refine gX2_18 hk F dX2_begin_52 rfl ?_
  refine j_int (y := nI (w)) (p_2.w) ?_
  refine j_iconst (v := nI (0)) F dX2_begin_55 rfl (by decide) ?_
  refine kX2_31 hk F (As := [.int (nI (0)), .int (nI (h)), .int (nI (w)), .int (nI (0))]) (rest := []) (c_X2_addWall hn hk p_2 0 h w 0 (by show 2 < 14; decide)) (by decide) rfl rfl (Nat.le_of_ble_eq_true rfl) dX2_begin_56 rfl (fun v_56 σ3 q_56 => ?_)
  obtain ⟨rfl, p_3, f_3⟩ := q_56
  refine j_aload_n F dX2_begin_59 rfl rfl ?_
  refine j_iconst (v := nI (0)) F dX2_begin_60 rfl (by decide) ?_
  refine j_iconst (v := nI (0)) F dX2_begin_61 rfl (by decide) ?_
  refine j_aload_n F dX2_begin_62 rfl rfl ?_
  refine gX2_22 hk F dX2_begin_63 rfl ?_
  refine j_int (y := nI (h)) (p_3.h) ?_
  refine j_iconst (v := nI (1)) F dX2_begin_66 rfl (by decide) ?_
  refine kX2_31 hk F (As := [.int (nI (0)), .int (nI (0)), .int (nI (h)), .int (nI (1))]) (rest := []) (c_X2_addWall hn hk p_3 0 0 h 1 (by show 3 < 14; decide)) (by decide) rfl rfl (Nat.le_of_ble_eq_true rfl) dX2_begin_67 rfl (fun v_67 σ4 q_67 => ?_)
  obtain ⟨rfl, p_4, f_4⟩ := q_67
  exact j_vret F hRt (⟨rfl, p_4, f_0.tr (f_1.tr (f_2.tr (f_3.tr f_4)))⟩) dX2_begin_70

set_option maxRecDepth 10000 in
set_option maxHeartbeats 2000000 in
theorem c_X2_copyFrom {l : Launch} {n : Nat} {E : Ev} {σ : St} {k c : Nat} {P : Pl} (hn : 55 ≤ n) (hk : isPl n k) (hk_c : isPl n c) (hP : PlanOK σ c P) (hd : c + 2 < k ∨ k + 2 < c) (hw : P.nw ≤ 14) (hl : P.nl ≤ 8) : Ct l yX2_copyFrom cX2_copyFrom 2 none 1 n E [.ref (E.1 + k), .ref (E.1 + c)] σ (fun v' σ' => v' = none ∧ PlanOK σ' k P ∧ Fr [k, k + 1, k + 2] σ σ') := by
  refine Ct.of (lv0 := [some (.ref (E.1 + k)), some (.ref (E.1 + c))]) (by decide) (Nat.le_of_ble_eq_true rfl) rfl ?_
  intro X hXn hXE hXl hXL F hRt
  subst hXn hXE hXl
  have hL : ∀ i, i < 2 → i < X.nL := fun i h => by rw [hXL]; exact h
  refine j_aload_n F dX2_copyFrom_0 rfl rfl ?_
  refine j_aload_n F dX2_copyFrom_1 rfl rfl ?_
  refine gX2_18 hk_c F dX2_copyFrom_2 rfl ?_
  refine j_int (y := nI (P.W)) (hP.w) ?_
  refine pX2_18 hk F dX2_copyFrom_5 rfl ?_
  refine j_aload_n F dX2_copyFrom_8 rfl rfl ?_
  refine j_aload_n F dX2_copyFrom_9 rfl rfl ?_
  refine gX2_22 hk_c F dX2_copyFrom_10 rfl ?_
  refine j_int (y := nI (P.H)) (by simp only [up, upR_n _ _ (show c ≠ k by omega)]; exact hP.h) ?_
  refine pX2_22 hk F dX2_copyFrom_13 rfl ?_
  refine j_aload_n F dX2_copyFrom_16 rfl rfl ?_
  refine j_aload_n F dX2_copyFrom_17 rfl rfl ?_
  refine gX2_25 hk_c F dX2_copyFrom_18 rfl ?_
  refine j_int (y := nI (P.nw)) (by simp only [up, upR_n _ _ (show c ≠ k by omega)]; exact hP.nw) ?_
  refine pX2_25 hk F dX2_copyFrom_21 rfl ?_
  refine j_aload_n F dX2_copyFrom_24 rfl rfl ?_
  refine j_aload_n F dX2_copyFrom_25 rfl rfl ?_
  refine gX2_28 hk_c F dX2_copyFrom_26 rfl ?_
  refine j_int (y := nI (P.nl)) (by simp only [up, upR_n _ _ (show c ≠ k by omega)]; exact hP.nl) ?_
  refine pX2_28 hk F dX2_copyFrom_29 rfl ?_
  refine j_aload_n F dX2_copyFrom_32 rfl rfl ?_
  refine gX2_9 hk_c F dX2_copyFrom_33 rfl ?_
  refine j_iconst (v := nI (0)) F dX2_copyFrom_36 rfl (by decide) ?_
  refine j_aload_n F dX2_copyFrom_37 rfl rfl ?_
  refine gX2_9 hk F dX2_copyFrom_38 rfl ?_
  refine j_iconst (v := nI (0)) F dX2_copyFrom_41 rfl (by decide) ?_
  refine j_aload_n F dX2_copyFrom_42 rfl rfl ?_
  refine gX2_9 hk F dX2_copyFrom_43 rfl ?_
  refine j_alen F (by decide) (by have := hk.1; omega) hk.2.2.1 dX2_copyFrom_46 rfl ?_
  refine j_acopy F (k0 := c + 1) (k1 := k + 1) wd_302 wd_304 wd_303 wd_51 (by have := hk_c.1; omega) hk_c.2.2.1 (by have := hk.1; omega) hk.2.2.1 (by decide) (by decide) (by decide) dX2_copyFrom_47 rfl ?_
  refine j_store (σ' := upR (up (up (up (up σ k 0 (nI (P.W))) k 1 (nI (P.H))) k 2 (nI (P.nw))) k 3 (nI (P.nl))) (k + 1) (va_cpy (σ (c + 1)) (σ (k + 1)) 0 0 56)) (by simp only [up, upR_n _ _ (show c + 1 ≠ k by omega), upR_n _ _ (show k + 1 ≠ k by omega)]) ?_
  refine j_aload_n F dX2_copyFrom_50 rfl rfl ?_
  refine gX2_15 hk_c F dX2_copyFrom_51 rfl ?_
  refine j_iconst (v := nI (0)) F dX2_copyFrom_54 rfl (by decide) ?_
  refine j_aload_n F dX2_copyFrom_55 rfl rfl ?_
  refine gX2_15 hk F dX2_copyFrom_56 rfl ?_
  refine j_iconst (v := nI (0)) F dX2_copyFrom_59 rfl (by decide) ?_
  refine j_aload_n F dX2_copyFrom_60 rfl rfl ?_
  refine gX2_15 hk F dX2_copyFrom_61 rfl ?_
  refine j_alen F (by decide) (by have := hk.1; omega) hk.2.2.2 dX2_copyFrom_64 rfl ?_
  refine j_acopy F (k0 := c + 2) (k1 := k + 2) wd_302 wd_304 wd_303 wd_51 (by have := hk_c.1; omega) hk_c.2.2.2 (by have := hk.1; omega) hk.2.2.2 (by decide) (by decide) (by decide) dX2_copyFrom_65 rfl ?_
  refine j_store (σ' := upR (upR (up (up (up (up σ k 0 (nI (P.W))) k 1 (nI (P.H))) k 2 (nI (P.nw))) k 3 (nI (P.nl))) (k + 1) (va_cpy (σ (c + 1)) (σ (k + 1)) 0 0 56)) (k + 2) (va_cpy (σ (c + 2)) (σ (k + 2)) 0 0 24)) (by simp only [up, upR_n _ _ (show c + 2 ≠ k by omega), upR_n _ _ (show k + 2 ≠ k by omega), upR_n _ _ (show c + 2 ≠ k + 1 by omega), upR_n _ _ (show k + 2 ≠ k + 1 by omega)]) ?_
  exact j_vret F hRt (by have z := copy_ok hP hd hw hl rfl; exact ⟨rfl, z.1, z.2⟩) dX2_copyFrom_68
