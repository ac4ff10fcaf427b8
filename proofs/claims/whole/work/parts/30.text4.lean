def TLo (σ : St) (m : Nat) (r : Nat ⊕ (Nat × Pl)) : Option Value → St → Prop := fun v σ' => σ' 7 1 = nI m ∧ Fr [4, 5, 6, 7] σ σ' ∧ match r with
  | .inl s => v = some (.int ((-10 : Int32) - nI s))
  | .inr q => v = some (.int (nI q.1)) ∧ PlanOK σ' 4 q.2 ∧ PGt q.2
theorem TLo_l {σ σ' : St} {m s : Nat} {r : Nat ⊕ (Nat × Pl)} (hr : r = .inl s) (h1 : σ' 7 1 = nI m) (hf : Fr [4, 5, 6, 7] σ σ') : TLo σ m r (some (.int ((-10 : Int32) - nI s))) σ' := by
  subst hr
  exact ⟨h1, hf, rfl⟩
theorem TLo_r {σ σ' : St} {m : Nat} {r : Nat ⊕ (Nat × Pl)} {i : Nat} {P : Pl} (hr : r = .inr (i, P)) (h1 : σ' 7 1 = nI m) (hf : Fr [4, 5, 6, 7] σ σ') (hP : PlanOK σ' 4 P) (hG : PGt P) : TLo σ m r (some (.int (nI i))) σ' := by
  subst hr
  exact ⟨h1, hf, rfl, hP, hG⟩
theorem tl_end {t : Nat → Nat} {m p i : Nat} {P : Pl} {R : Nat ⊕ (Nat × Pl)} (hi : i ≤ 120) (hR : tlR t m (121 - i) P p i = R) (h : tkC t m p = 3000) : R = .inr (i, P) := by
  rw [show 121 - i = (120 - i) + 1 by omega, tlR, if_pos h] at hR
  exact hR.symm
theorem tl_bad {t : Nat → Nat} {m p i s : Nat} {P : Pl} {R : Nat ⊕ (Nat × Pl)} (hi : i ≤ 120) (hR : tlR t m (121 - i) P p i = R) (h : ¬ tkC t m p = 3000) (h2 : itemR t m P i (tkC t m p) (tkS t m p) (tkE t m p) = .inl s) : R = .inl s := by
  rw [show 121 - i = (120 - i) + 1 by omega, tlR, if_neg h, h2] at hR
  exact hR.symm
theorem tl_go {t : Nat → Nat} {m p i : Nat} {P : Pl} {q : Pl × Nat} {R : Nat ⊕ (Nat × Pl)} (hi : i ≤ 120) (hR : tlR t m (121 - i) P p i = R) (h : ¬ tkC t m p = 3000) (h2 : itemR t m P i (tkC t m p) (tkS t m p) (tkE t m p) = .inr q) : tlR t m (121 - (i + 1)) q.1 q.2 (i + 1) = R := by
  rw [show 121 - i = (121 - (i + 1)) + 1 by omega, tlR, if_neg h, h2] at hR
  exact hR
set_option maxRecDepth 10000 in
set_option maxHeartbeats 2000000 in
theorem c_X4_readItem {l : Launch} {n : Nat} {E : Ev} {σ : St} {t : Nat → Nat} {m : Nat} (hn : 55 ≤ n) (hT : TxtOK σ t m) (p : Nat) (hp : σ 7 5 = nI p) (hpm : p ≤ m) {P : Pl} (hP : PlanOK σ 4 P) (hG : PGt P) (items c s : Nat) (hit : items ≤ 120) (h3 : σ 7 3 = sgI c) (h2 : σ 7 2 = nI s) (hc : c < 3000) : Ct l yX4_readItem cX4_readItem 3 (some .boolean) 4 n E [.ref (E.1 + 7), .ref (E.1 + 4), .int (nI (items))] σ (PRo σ m (itemR t m P items c s p)) := by
  refine Ct.of (lv0 := [some (.ref (E.1 + 7)), some (.ref (E.1 + 4)), some (.int (nI (items)))]) (by decide) (Nat.le_of_ble_eq_true rfl) rfl ?_
  intro X hXn hXE hXl hXL F hRt
  subst hXn hXE hXl
  have hL : ∀ i, i < 3 → i < X.nL := fun i h => by rw [hXL]; exact h
  obtain ⟨b1, b2, b3, b4, b5, b6, b7⟩ := hG.1.1
  refine j_aload_n F dX4_readItem_0 rfl rfl ?_
  refine gX4_31 hn F dX4_readItem_1 rfl ?_
  refine j_int (y := sgI c) (h3) ?_
  by_cases s98 : c = 98
  · refine j_lookup F (tgt := 48) (off := 44) dX4_readItem_4 (by decide) (by rw [s98]; decide) (by decide) ?_
    refine j_iload_n F dX4_readItem_48 rfl rfl ?_
    refine j_if_neN (a := items) F (by omega) (tgt := 64) dX4_readItem_49 (by decide) rfl (fun c_49 => ?_) (fun c_49 => ?_)
    · refine j_iconst (v := nI (0)) F dX4_readItem_64 rfl (by decide) ?_
      exact j_iret F hRt rfl (PRo_l (by unfold itemR; rw [if_pos s98, if_neg c_49]) hT.1 Fr.rf h2) dX4_readItem_65
    · refine j_aload_n F dX4_readItem_52 rfl rfl ?_
      refine j_aload_n F dX4_readItem_53 rfl rfl ?_
      refine kX4_41 hn F (As := [.ref (X.E.1 + 4)]) (rest := []) (c_X4_readSize hn hT p hp hpm) (by decide) rfl rfl (Nat.le_of_ble_eq_true rfl) dX4_readItem_54 rfl (fun v_54 σ_54 q_54 => ?_)
      obtain ⟨b_54, rfl, t_54, g_54, l_54, f_54⟩ := PRo_b q_54
      refine j_if_eqB F (x := b_54) (tgt := 64) dX4_readItem_57 (by decide) rfl (fun c_57 => ?_) (fun c_57 => ?_)
      · obtain ⟨s1, r1, r2⟩ := g_54 c_57
        refine j_iconst (v := nI (0)) F dX4_readItem_64 rfl (by decide) ?_
        exact j_iret F hRt rfl (PRo_l (by unfold itemR; rw [if_pos s98, if_pos c_49]; exact r1) l_54 f_54 r2) dX4_readItem_65
      · obtain ⟨q1, r1, r2, r3⟩ := t_54 c_57
        refine j_iconst (v := nI (1)) F dX4_readItem_60 rfl (by decide) ?_
        refine j_goto (pc' := 65) F dX4_readItem_61 (by decide) ?_
        exact j_iret F hRt rfl (PRo_r (by unfold itemR; rw [if_pos s98, if_pos c_49]; exact r1) l_54 f_54 r2 r3) dX4_readItem_65
  · skip
    by_cases s114 : c = 114
    · refine j_lookup F (tgt := 66) (off := 62) dX4_readItem_4 (by decide) (by rw [s114]; decide) (by decide) ?_
      refine j_aload_n F dX4_readItem_66 rfl rfl ?_
      refine gX4_45 (isPl_4 hn) F dX4_readItem_67 rfl ?_
      refine j_int (y := nI (P.nw)) (hP.nw) ?_
      refine j_bipush (v := nI (14)) F dX4_readItem_70 rfl (by decide) ?_
      refine j_icmp_geN (a := P.nw) (b := 14) F (by omega) (by omega) (tgt := 88) dX4_readItem_72 (by decide) rfl (fun c_72 => ?_) (fun c_72 => ?_)
      · refine j_iconst (v := nI (0)) F dX4_readItem_88 rfl (by decide) ?_
        exact j_iret F hRt rfl (PRo_l (by unfold itemR; rw [if_neg s98, if_pos s114, if_neg (by omega)]) hT.1 Fr.rf h2) dX4_readItem_89
      · refine j_aload_n F dX4_readItem_75 rfl rfl ?_
        refine j_aload_n F dX4_readItem_76 rfl rfl ?_
        refine j_iconst (v := nI (0)) F dX4_readItem_77 rfl (by decide) ?_
        refine kX4_48 hn F (As := [.ref (X.E.1 + 4), .int (nI (0))]) (rest := []) (c_X4_readWall_0 hn hT p hp hpm hP hG c_72) (by decide) rfl rfl (Nat.le_of_ble_eq_true rfl) dX4_readItem_78 rfl (fun v_78 σ_78 q_78 => ?_)
        obtain ⟨b_78, rfl, t_78, g_78, l_78, f_78⟩ := PRo_b q_78
        refine j_if_eqB F (x := b_78) (tgt := 88) dX4_readItem_81 (by decide) rfl (fun c_81 => ?_) (fun c_81 => ?_)
        · obtain ⟨s1, r1, r2⟩ := g_78 c_81
          refine j_iconst (v := nI (0)) F dX4_readItem_88 rfl (by decide) ?_
          exact j_iret F hRt rfl (PRo_l (by unfold itemR; rw [if_neg s98, if_pos s114, if_pos c_72]; exact r1) l_78 f_78 r2) dX4_readItem_89
        · obtain ⟨q1, r1, r2, r3⟩ := t_78 c_81
          refine j_iconst (v := nI (1)) F dX4_readItem_84 rfl (by decide) ?_
          refine j_goto (pc' := 89) F dX4_readItem_85 (by decide) ?_
          exact j_iret F hRt rfl (PRo_r (by unfold itemR; rw [if_neg s98, if_pos s114, if_pos c_72]; exact r1) l_78 f_78 r2 r3) dX4_readItem_89
    · skip
      by_cases s117 : c = 117
      · refine j_lookup F (tgt := 90) (off := 86) dX4_readItem_4 (by decide) (by rw [s117]; decide) (by decide) ?_
        refine j_aload_n F dX4_readItem_90 rfl rfl ?_
        refine gX4_45 (isPl_4 hn) F dX4_readItem_91 rfl ?_
        refine j_int (y := nI (P.nw)) (hP.nw) ?_
        refine j_bipush (v := nI (14)) F dX4_readItem_94 rfl (by decide) ?_
        refine j_icmp_geN (a := P.nw) (b := 14) F (by omega) (by omega) (tgt := 112) dX4_readItem_96 (by decide) rfl (fun c_96 => ?_) (fun c_96 => ?_)
        · refine j_iconst (v := nI (0)) F dX4_readItem_112 rfl (by decide) ?_
          exact j_iret F hRt rfl (PRo_l (by unfold itemR; rw [if_neg s98, if_neg s114, if_pos s117, if_neg (by omega)]) hT.1 Fr.rf h2) dX4_readItem_113
        · refine j_aload_n F dX4_readItem_99 rfl rfl ?_
          refine j_aload_n F dX4_readItem_100 rfl rfl ?_
          refine j_iconst (v := nI (1)) F dX4_readItem_101 rfl (by decide) ?_
          refine kX4_48 hn F (As := [.ref (X.E.1 + 4), .int (nI (1))]) (rest := []) (c_X4_readWall_1 hn hT p hp hpm hP hG c_96) (by decide) rfl rfl (Nat.le_of_ble_eq_true rfl) dX4_readItem_102 rfl (fun v_102 σ_102 q_102 => ?_)
          obtain ⟨b_102, rfl, t_102, g_102, l_102, f_102⟩ := PRo_b q_102
          refine j_if_eqB F (x := b_102) (tgt := 112) dX4_readItem_105 (by decide) rfl (fun c_105 => ?_) (fun c_105 => ?_)
          · obtain ⟨s1, r1, r2⟩ := g_102 c_105
            refine j_iconst (v := nI (0)) F dX4_readItem_112 rfl (by decide) ?_
            exact j_iret F hRt rfl (PRo_l (by unfold itemR; rw [if_neg s98, if_neg s114, if_pos s117, if_pos c_96]; exact r1) l_102 f_102 r2) dX4_readItem_113
          · obtain ⟨q1, r1, r2, r3⟩ := t_102 c_105
            refine j_iconst (v := nI (1)) F dX4_readItem_108 rfl (by decide) ?_
            refine j_goto (pc' := 113) F dX4_readItem_109 (by decide) ?_
            exact j_iret F hRt rfl (PRo_r (by unfold itemR; rw [if_neg s98, if_neg s114, if_pos s117, if_pos c_96]; exact r1) l_102 f_102 r2 r3) dX4_readItem_113
      · skip
        by_cases s108 : c = 108
        · refine j_lookup F (tgt := 114) (off := 110) dX4_readItem_4 (by decide) (by rw [s108]; decide) (by decide) ?_
          refine j_aload_n F dX4_readItem_114 rfl rfl ?_
          refine gX4_51 (isPl_4 hn) F dX4_readItem_115 rfl ?_
          refine j_int (y := nI (P.nl)) (hP.nl) ?_
          refine j_bipush (v := nI (8)) F dX4_readItem_118 rfl (by decide) ?_
          refine j_icmp_geN (a := P.nl) (b := 8) F (by omega) (by omega) (tgt := 135) dX4_readItem_120 (by decide) rfl (fun c_120 => ?_) (fun c_120 => ?_)
          · refine j_iconst (v := nI (0)) F dX4_readItem_135 rfl (by decide) ?_
            exact j_iret F hRt rfl (PRo_l (by unfold itemR; rw [if_neg s98, if_neg s114, if_neg s117, if_pos s108, if_neg (by omega)]) hT.1 Fr.rf h2) dX4_readItem_136
          · refine j_aload_n F dX4_readItem_123 rfl rfl ?_
            refine j_aload_n F dX4_readItem_124 rfl rfl ?_
            refine kX4_54 hn F (As := [.ref (X.E.1 + 4)]) (rest := []) (c_X4_readLamp hn hT p hp hpm hP hG c_120) (by decide) rfl rfl (Nat.le_of_ble_eq_true rfl) dX4_readItem_125 rfl (fun v_125 σ_125 q_125 => ?_)
            obtain ⟨b_125, rfl, t_125, g_125, l_125, f_125⟩ := PRo_b q_125
            refine j_if_eqB F (x := b_125) (tgt := 135) dX4_readItem_128 (by decide) rfl (fun c_128 => ?_) (fun c_128 => ?_)
            · obtain ⟨s1, r1, r2⟩ := g_125 c_128
              refine j_iconst (v := nI (0)) F dX4_readItem_135 rfl (by decide) ?_
              exact j_iret F hRt rfl (PRo_l (by unfold itemR; rw [if_neg s98, if_neg s114, if_neg s117, if_pos s108, if_pos c_120]; exact r1) l_125 f_125 r2) dX4_readItem_136
            · obtain ⟨q1, r1, r2, r3⟩ := t_125 c_128
              refine j_iconst (v := nI (1)) F dX4_readItem_131 rfl (by decide) ?_
              refine j_goto (pc' := 136) F dX4_readItem_132 (by decide) ?_
              exact j_iret F hRt rfl (PRo_r (by unfold itemR; rw [if_neg s98, if_neg s114, if_neg s117, if_pos s108, if_pos c_120]; exact r1) l_125 f_125 r2 r3) dX4_readItem_136
        · skip
          refine j_lookup F (tgt := 137) (off := 133) dX4_readItem_4 (by decide) (by show Op.lookupswitch.offset [(98, 44), (108, 110), (114, 62), (117, 86)] 133 _ = 133; rw [lv_osw (k := nI 98) (fun q => s98 ((sgI_lit (by decide) (by omega)).mp q)) (by decide), lv_osw (k := nI 108) (fun q => s108 ((sgI_lit (by decide) (by omega)).mp q)) (by decide), lv_osw (k := nI 114) (fun q => s114 ((sgI_lit (by decide) (by omega)).mp q)) (by decide), lv_osw (k := nI 117) (fun q => s117 ((sgI_lit (by decide) (by omega)).mp q)) (by decide)]; rfl) (by decide) ?_
          refine j_iconst (v := nI (0)) F dX4_readItem_137 rfl (by decide) ?_
          exact j_iret F hRt rfl (PRo_l (by unfold itemR; rw [if_neg s98, if_neg s114, if_neg s117, if_neg s108]) hT.1 Fr.rf h2) dX4_readItem_138

set_option maxRecDepth 10000 in
set_option maxHeartbeats 2000000 in
theorem c_X4_tell {l : Launch} {n : Nat} {E : Ev} {σ : St} {t : Nat → Nat} {m : Nat} (hn : 55 ≤ n) (hT : TxtOK σ t m) : Ct l yX4_tell cX4_tell 3 (some .int) 5 n E [.ref (E.1 + 7), .ref (E.1 + 4)] σ (TLo σ m (tlR t m 121 (P0 6 6) 0 0)) := by
  refine Ct.of (lv0 := [some (.ref (E.1 + 7)), some (.ref (E.1 + 4)), none]) (by decide) (Nat.le_of_ble_eq_true rfl) rfl ?_
  intro X hXn hXE hXl hXL F hRt
  subst hXn hXE hXl
  have hL : ∀ i, i < 3 → i < X.nL := fun i h => by rw [hXL]; exact h
  have hm120 := hT.2.1
  refine j_aload_n F dX4_tell_0 rfl rfl ?_
  refine j_bipush (v := nI (6)) F dX4_tell_1 rfl (by decide) ?_
  refine j_bipush (v := nI (6)) F dX4_tell_3 rfl (by decide) ?_
  refine kX4_19 (isPl_4 hn) F (As := [.int (nI (6)), .int (nI (6))]) (rest := []) (c_X2_begin hn (isPl_4 hn) 6 6) (by decide) rfl rfl (Nat.le_of_ble_eq_true rfl) dX4_tell_5 rfl (fun v_5 σ_5 q_5 => ?_)
  obtain ⟨rfl, p_5, f_5⟩ := q_5
  refine j_aload_n F dX4_tell_8 rfl rfl ?_
  refine j_iconst (v := nI (0)) F dX4_tell_9 rfl (by decide) ?_
  refine pX4_25 hn F dX4_tell_10 rfl ?_
  refine j_nm (fun σ0 eσ0 => ?_)
  have hF0 : Fr [4, 5, 6, 7] σ σ0 := by rw [eσ0]; exact Fr.put (f_5.sub (by simp)) (by simp)
  have T0 : TxtOK σ0 t m := hT.fr (by rw [eσ0]; simp only [up, upR_s]; rw [upd_n _ _ (by decide), f_5 7 (by decide)]; exact hT.1) (hF0 8 (by decide))
  have hp0 : σ0 7 5 = nI 0 := by rw [eσ0]; simp only [up, upR_s, upd_s]
  have hP0 : PlanOK σ0 4 (P0 6 6) := by rw [eσ0]; exact p_5.frame (upR_n _ _ (by decide)) (upR_n _ _ (by decide)) (upR_n _ _ (by decide))
  refine j_iconst (v := nI (0)) F dX4_tell_13 rfl (by decide) ?_
  refine j_istore_n (lv' := [some (.ref (X.E.1 + 7)), some (.ref (X.E.1 + 4)), some (.int (nI (0)))]) F dX4_tell_14 rfl (hL _ (by decide)) rfl rfl ?_
  have loop_15 : ∀ (ii : Nat), ii ≤ 121 → ∀ (τ : St) (P : Pl) (p : Nat), (TxtOK τ t m) → (τ 7 5 = nI p) → (p ≤ m) → (ii ≤ p) → (PlanOK τ 4 P) → (PGt P) → (Fr [4, 5, 6, 7] σ τ) → (tlR t m (121 - ii) P p ii = tlR t m 121 (P0 6 6) 0 0) → J X 15 [some (.ref (X.E.1 + 7)), some (.ref (X.E.1 + 4)), some (.int (nI (ii)))] [] τ := by
    refine dnL (fun ii hii ih_15 => ?_)
    intro τ P p T hp hpm hip hP hG hF hR
    refine j_iload_n F dX4_tell_15 rfl rfl ?_
    refine j_bipush (v := nI (120)) F dX4_tell_16 rfl (by decide) ?_
    refine j_icmp_gtN (a := ii) (b := 120) F (by omega) (by omega) (tgt := 58) dX4_tell_18 (by decide) rfl (fun c_18 => False.elim (by omega)) (fun c_18 => ?_)
    refine j_aload_n F dX4_tell_21 rfl rfl ?_
    refine kX4_28 hn F (As := []) (rest := []) (c_X4_readToken hn T p hp hpm) (by decide) rfl rfl (Nat.le_of_ble_eq_true rfl) dX4_tell_22 rfl (fun v_22 σ_22 q_22 => ?_)
    obtain ⟨rfl, k_22, f_22, l_22⟩ := q_22
    have T_22 : TxtOK σ_22 t m := T.fr l_22 (f_22 8 (by decide))
    have hP_22 : PlanOK σ_22 4 P := hP.frame (f_22 4 (by decide)) (f_22 5 (by decide)) (f_22 6 (by decide))
    have hlt := tkC_lt (t := t) (m := m) (p := p) (fun i hi => (hT.2.2 i hi).2)
    have e_22 := tkE_le (t := t) hpm
    refine j_aload_n F dX4_tell_25 rfl rfl ?_
    refine gX4_31 hn F dX4_tell_26 rfl ?_
    refine j_int (y := sgI (tkC t m p)) (k_22.2.2.1) ?_
    refine j_iconst (v := (-1 : Int32)) F dX4_tell_29 rfl (by decide) ?_
    refine j_icmp_ne F (tgt := 35) dX4_tell_30 (by decide) rfl (fun c_30 => ?_) (fun c_30 => ?_)
    · have c_30z : ¬ tkC t m p = 3000 := fun q => c_30 ((sgI_m1 (by omega)).mpr q)
      refine j_aload_n F dX4_tell_35 rfl rfl ?_
      refine j_aload_n F dX4_tell_36 rfl rfl ?_
      refine j_iload_n F dX4_tell_37 rfl rfl ?_
      refine kX4_34 hn F (As := [.ref (X.E.1 + 4), .int (nI (ii))]) (rest := []) (c_X4_readItem hn T_22 (tkE t m p) k_22.2.1 e_22.2 hP_22 hG ii (tkC t m p) (tkS t m p) (by omega) k_22.2.2.1 k_22.1 (by omega)) (by decide) rfl rfl (Nat.le_of_ble_eq_true rfl) dX4_tell_38 rfl (fun v_38 σ_38 q_38 => ?_)
      obtain ⟨b_38, rfl, t_38, g_38, l_38, f_38⟩ := PRo_b q_38
      have T_38 : TxtOK σ_38 t m := T_22.fr l_38 (f_38 8 (by decide))
      refine j_if_neB F (x := b_38) (tgt := 52) dX4_tell_41 (by decide) rfl (fun c_41 => ?_) (fun c_41 => ?_)
      · obtain ⟨q1, r1, r2, r3⟩ := t_38 c_41
        have z3 := itemR_b hG e_22.2 r1
        have z4 := tkE_adv (t := t) hpm c_30z
        refine j_iincN (a := ii) (c := 1) (lv' := [some (.ref (X.E.1 + 7)), some (.ref (X.E.1 + 4)), some (.int (nI (ii + 1)))]) F dX4_tell_52 rfl rfl (by decide) (hL _ (by decide)) rfl rfl ?_
        refine j_goto (pc' := 15) F dX4_tell_55 (by decide) ?_
        exact ih_15 (by omega) σ_38 q1.1 q1.2 T_38 r3 z3.2.2 (by omega) r2 z3.1 (hF.tr ((f_22.sub (by simp)).tr f_38)) (tl_go (by omega) hR c_30z r1)
      · obtain ⟨s1, r1, r2⟩ := g_38 c_41
        refine j_bipush (v := (-10 : Int32)) F dX4_tell_44 rfl (by decide) ?_
        refine j_aload_n F dX4_tell_46 rfl rfl ?_
        refine gX4_38 hn F dX4_tell_47 rfl ?_
        refine j_int (y := nI (s1)) (r2) ?_
        refine j_isub F dX4_tell_50 rfl ?_
        exact j_iret F hRt rfl (TLo_l (tl_bad (by omega) hR c_30z r1) l_38 (hF.tr ((f_22.sub (by simp)).tr f_38))) dX4_tell_51
    · have c_30z : tkC t m p = 3000 := (sgI_m1 (by omega)).mp c_30
      refine j_iload_n F dX4_tell_33 rfl rfl ?_
      exact j_iret F hRt rfl (TLo_r (tl_end (by omega) hR c_30z) l_22 (hF.tr (f_22.sub (by simp))) hP_22 hG) dX4_tell_34
  exact loop_15 0 (by omega) σ0 (P0 6 6) 0 T0 hp0 (Nat.zero_le _) (Nat.le_refl _) hP0 (PG_P0 (by decide) (by decide) (by decide) (by decide)) hF0 rfl
