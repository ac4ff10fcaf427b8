set_option maxRecDepth 10000 in
set_option maxHeartbeats 2000000 in
theorem c_X6_isFigure {l : Launch} {n : Nat} {E : Ev} {σ : St} {t : Nat → Nat} {m : Nat} (hn : 69 ≤ n) (hT : MTx σ t m) (k : Nat) (hk : k ≤ m) : Ct l yX6_isFigure cX6_isFigure 2 (some .boolean) 1 n E [.ref (E.1 + 55), .int (nI (k))] σ (ro (.int (bI (decide (k < m) && isF (t k)))) σ) := by
  refine Ct.of (lv0 := [some (.ref (E.1 + 55)), some (.int (nI (k)))]) (by decide) (Nat.le_of_ble_eq_true rfl) rfl ?_
  intro X hXn hXE hXl hXL F hRt
  subst hXn hXE hXl
  have hL : ∀ i, i < 2 → i < X.nL := fun i h => by rw [hXL]; exact h
  obtain ⟨hT1, hT2, hT3⟩ := hT
  refine j_iload_n F dX6_isFigure_0 rfl rfl ?_
  refine j_aload_n F dX6_isFigure_1 rfl rfl ?_
  refine gX6_74 hn F dX6_isFigure_2 rfl ?_
  refine j_int (y := nI (m)) (hT1) ?_
  refine j_icmp_geN (a := k) (b := m) F (by omega) (by omega) (tgt := 28) dX6_isFigure_5 (by decide) rfl (fun c_5 => ?_) (fun c_5 => ?_)
  · refine j_iconst (v := nI (0)) F dX6_isFigure_28 rfl (by decide) ?_
    exact j_iret F hRt rfl (roB_f (by first | (rw [c_21, Bool.and_false]) | (rw [decide_eq_false (show ¬ k < m by omega), Bool.false_and]))) dX6_isFigure_29
  · have hc := hT3 k c_5
    refine j_aload_n F dX6_isFigure_8 rfl rfl ?_
    refine gX6_32 hn F dX6_isFigure_9 rfl ?_
    refine j_iload_n F dX6_isFigure_12 rfl rfl ?_
    refine j_iaload (a := k) F (by omega) rfl rfl (by omega) (by decide) dX6_isFigure_13 rfl ?_
    refine j_int (y := nI (t k)) (hc.1) ?_
    refine j_bipush (v := nI (48)) F dX6_isFigure_14 rfl (by decide) ?_
    refine j_bipush (v := nI (57)) F dX6_isFigure_16 rfl (by decide) ?_
    refine kX6_63 F (As := [.int (nI (t k)), .int (nI (48)), .int (nI (57))]) (rest := []) (c_X6_in (nI (t k)) (nI (48)) (nI (57))) (by decide) rfl rfl (Nat.le_of_ble_eq_true rfl) dX6_isFigure_18 rfl (ro_k ?_)
    refine j_int (y := bI (isF (t k))) (congrArg bI (inF hc.2)) ?_
    refine j_if_eqB F (x := isF (t k)) (tgt := 28) dX6_isFigure_21 (by decide) rfl (fun c_21 => ?_) (fun c_21 => ?_)
    · refine j_iconst (v := nI (0)) F dX6_isFigure_28 rfl (by decide) ?_
      exact j_iret F hRt rfl (roB_f (by first | (rw [c_21, Bool.and_false]) | (rw [decide_eq_false (show ¬ k < m by omega), Bool.false_and]))) dX6_isFigure_29
    · refine j_iconst (v := nI (1)) F dX6_isFigure_24 rfl (by decide) ?_
      refine j_goto (pc' := 29) F dX6_isFigure_25 (by decide) ?_
      exact j_iret F hRt rfl (roB_t (by rw [decide_eq_true c_5, c_21]; rfl)) dX6_isFigure_29

set_option maxRecDepth 10000 in
set_option maxHeartbeats 2000000 in
theorem c_X6_steps {l : Launch} {n : Nat} {E : Ev} {σ : St} {t : Nat → Nat} {m : Nat} (hn : 69 ≤ n) (hT : MTx σ t m) (p : Nat) (hp : σ 55 14 = nI p) (hpm : p ≤ m) : Ct l yX6_steps cX6_steps 1 none 2 n E [.ref (E.1 + 55)] σ (fun v' σ' => v' = none ∧ F5 σ σ' 14 17 ∧ σ' 55 14 = nI (tkE t m p) ∧ σ' 55 15 = nI (tkS t m p) ∧ σ' 55 16 = tmI (tkC t m p)) := by
  refine Ct.of (lv0 := [some (.ref (E.1 + 55))]) (by decide) (Nat.le_of_ble_eq_true rfl) rfl ?_
  intro X hXn hXE hXl hXL F hRt
  subst hXn hXE hXl
  have hL : ∀ i, i < 1 → i < X.nL := fun i h => by rw [hXL]; exact h
  have hT0 := hT
  obtain ⟨hT1, hT2, hT3⟩ := hT0
  have hb := tkS_le (t := t) hpm
  have join_38 : J X 38 [some (.ref (X.E.1 + 55))] [] (up σ 55 14 (nI (tkS t m p))) := by
    refine j_aload_n F dX6_steps_38 rfl rfl ?_
    refine j_aload_n F dX6_steps_39 rfl rfl ?_
    refine gX6_77 hn F dX6_steps_40 rfl ?_
    refine j_int (y := nI (tkS t m p)) (by simp [up, upR, upd]) ?_
    refine pX6_80 hn F dX6_steps_43 rfl ?_
    refine j_aload_n F dX6_steps_46 rfl rfl ?_
    refine j_aload_n F dX6_steps_47 rfl rfl ?_
    refine gX6_77 hn F dX6_steps_48 rfl ?_
    refine j_int (y := nI (tkS t m p)) (by simp [up, upR, upd]) ?_
    refine j_aload_n F dX6_steps_51 rfl rfl ?_
    refine gX6_74 hn F dX6_steps_52 rfl ?_
    refine j_int (y := nI (m)) (by simp [up, upR, upd, hT1]) ?_
    refine j_icmp_geN (a := tkS t m p) (b := m) F (by omega) (by omega) (tgt := 70) dX6_steps_55 (by decide) rfl (fun c_55 => ?_) (fun c_55 => ?_)
    · have hend : ¬ tkS t m p < m := by omega
      refine j_iconst (v := (-1 : Int32)) F dX6_steps_70 rfl (by decide) ?_
      refine pX6_83 hn F dX6_steps_71 rfl ?_
      refine j_aload_n F dX6_steps_74 rfl rfl ?_
      refine j_aload_n F dX6_steps_75 rfl rfl ?_
      refine gX6_77 hn F dX6_steps_76 rfl ?_
      refine j_int (y := nI (tkS t m p)) (by simp [up, upR, upd]) ?_
      refine kX6_86 hn F (As := [.int (nI (tkS t m p))]) (rest := []) (c_X6_isFigure hn (MTx_up (MTx_up (MTx_up hT (by decide)) (by decide)) (by decide)) (tkS t m p) (by omega)) (by decide) rfl rfl (Nat.le_of_ble_eq_true rfl) dX6_steps_79 rfl (ro_k ?_)
      refine j_if_neB F (x := decide ((tkS t m p) < m) && isF (t (tkS t m p))) (tgt := 111) dX6_steps_82 (by decide) rfl (fun c_82 => False.elim (by rw [decide_eq_false hend, Bool.false_and] at c_82; cases c_82)) (fun c_82 => ?_)
      refine j_aload_n F dX6_steps_85 rfl rfl ?_
      refine j_dup F dX6_steps_86 rfl rfl ?_
      refine gX6_77 hn F dX6_steps_87 rfl ?_
      refine j_int (y := nI (tkS t m p)) (by simp [up, upR, upd]) ?_
      refine j_aload_n F dX6_steps_90 rfl rfl ?_
      refine gX6_77 hn F dX6_steps_91 rfl ?_
      refine j_int (y := nI (tkS t m p)) (by simp [up, upR, upd]) ?_
      refine j_aload_n F dX6_steps_94 rfl rfl ?_
      refine gX6_74 hn F dX6_steps_95 rfl ?_
      refine j_int (y := nI (m)) (by simp [up, upR, upd, hT1]) ?_
      refine j_icmp_geN (a := tkS t m p) (b := m) F (by omega) (by omega) (tgt := 105) dX6_steps_98 (by decide) rfl (fun c_98 => ?_) (fun c_98 => False.elim (by omega))
      refine j_iconst (v := nI (0)) F dX6_steps_105 rfl (by decide) ?_
      refine j_iaddN (a := tkS t m p) (b := 0) F dX6_steps_106 rfl ?_
      refine pX6_77 hn F dX6_steps_107 rfl ?_
      refine j_vret F hRt ?_ dX6_steps_110
      have hBm : tkS t m p = m := by omega
      unfold tkE tkC; rw [if_neg hend, if_neg hend]
      exact ⟨rfl, ⟨fun a ha => by simp only [up, upR_n _ _ ha], fun i hi => by simp only [up, upR_s]; repeat rw [upd_n _ _ (by omega)]⟩, by simp [up, upR, upd, hBm], by simp [up, upR, upd], by simp [up, upR, upd, tmI_3]⟩
    · have hc256 := (hT3 (tkS t m p) c_55).2
      refine j_aload_n F dX6_steps_58 rfl rfl ?_
      refine gX6_32 hn F dX6_steps_59 rfl ?_
      refine j_aload_n F dX6_steps_62 rfl rfl ?_
      refine gX6_77 hn F dX6_steps_63 rfl ?_
      refine j_int (y := nI (tkS t m p)) (by simp [up, upR, upd]) ?_
      refine j_iaload (a := tkS t m p) F (by omega) rfl rfl (by omega) (by decide) dX6_steps_66 rfl ?_
      refine j_int (y := nI (t (tkS t m p))) (by simp only [up, upR_n _ _ (show (63 : Nat) ≠ 55 by decide)]; exact (hT3 (tkS t m p) (by omega)).1) ?_
      refine j_goto (pc' := 71) F dX6_steps_67 (by decide) ?_
      refine pX6_83 hn F dX6_steps_71 rfl ?_
      refine j_aload_n F dX6_steps_74 rfl rfl ?_
      refine j_aload_n F dX6_steps_75 rfl rfl ?_
      refine gX6_77 hn F dX6_steps_76 rfl ?_
      refine j_int (y := nI (tkS t m p)) (by simp [up, upR, upd]) ?_
      refine kX6_86 hn F (As := [.int (nI (tkS t m p))]) (rest := []) (c_X6_isFigure hn (MTx_up (MTx_up (MTx_up hT (by decide)) (by decide)) (by decide)) (tkS t m p) (by omega)) (by decide) rfl rfl (Nat.le_of_ble_eq_true rfl) dX6_steps_79 rfl (ro_k ?_)
      refine j_if_neB F (x := decide ((tkS t m p) < m) && isF (t (tkS t m p))) (tgt := 111) dX6_steps_82 (by decide) rfl (fun c_82 => ?_) (fun c_82 => ?_)
      · have hfg : isF (t (tkS t m p)) = true := (and_t c_82).2
        have hf9 := isF_9 hfg
        have hE := rn_le (c := fig t) (show tkS t m p + 1 ≤ m by omega)
        refine j_store (σ' := up (up (up (up σ 55 14 (nI (tkS t m p))) 55 15 (nI (tkS t m p))) 55 16 (nI (t (tkS t m p)))) 55 14 (nI (tkS t m p))) (up_id (by simp [up, upR, upd])).symm ?_
        have loop_111 : ∀ (m_111 : Nat), ∀ (q : Nat), (q ≤ m) → (tkS t m p ≤ q) → (rn (fig t) m q = rn (fig t) m (tkS t m p + 1)) → m - q ≤ m_111 → J X 111 [some (.ref (X.E.1 + 55))] [] (up (up (up (up σ 55 14 (nI (tkS t m p))) 55 15 (nI (tkS t m p))) 55 16 (nI (t (tkS t m p)))) 55 14 (nI (q))) := by
          intro m_111
          induction m_111 using Nat.strongRecOn with | _ m_111 ih_111 => ?_
          intro q hq1 hq0 hq2
          intro hm_111
          refine j_aload_n F dX6_steps_111 rfl rfl ?_
          refine j_aload_n F dX6_steps_112 rfl rfl ?_
          refine gX6_77 hn F dX6_steps_113 rfl ?_
          refine j_int (y := nI (q)) (by simp [up, upR, upd]) ?_
          refine kX6_86 hn F (As := [.int (nI (q))]) (rest := []) (c_X6_isFigure hn (MTx_up (MTx_up (MTx_up (MTx_up hT (by decide)) (by decide)) (by decide)) (by decide)) q (by omega)) (by decide) rfl rfl (Nat.le_of_ble_eq_true rfl) dX6_steps_116 rfl (ro_k ?_)
          refine j_if_eqB F (x := decide (q < m) && isF (t q)) (tgt := 135) dX6_steps_119 (by decide) rfl (fun c_119 => ?_) (fun c_119 => ?_)
          · have hqE : q = rn (fig t) m (tkS t m p + 1) := by
              rw [← hq2]
              by_cases e : q < m
              · exact (rn_e e (by rw [decide_eq_true e, Bool.true_and] at c_119; exact c_119)).symm
              · have e2 : q = m := by omega
                rw [e2]; exact (rn_m _ _).symm
            refine j_aload_n F dX6_steps_135 rfl rfl ?_
            refine j_aload_n F dX6_steps_136 rfl rfl ?_
            refine gX6_77 hn F dX6_steps_137 rfl ?_
            refine j_int (y := nI (q)) (by simp [up, upR, upd]) ?_
            refine j_aload_n F dX6_steps_140 rfl rfl ?_
            refine gX6_80 hn F dX6_steps_141 rfl ?_
            refine j_int (y := nI (tkS t m p)) (by simp [up, upR, upd]) ?_
            refine j_iconst (v := nI (1)) F dX6_steps_144 rfl (by decide) ?_
            refine j_iaddN (a := tkS t m p) (b := 1) F dX6_steps_145 rfl ?_
            refine j_icmp_leN (a := q) (b := (tkS t m p) + 1) F (by omega) (by omega) (tgt := 155) dX6_steps_146 (by decide) rfl (fun c_146 => ?_) (fun c_146 => ?_)
            · refine j_sipush (v := nI (1000)) F dX6_steps_155 rfl (by decide) ?_
              refine j_aload_n F dX6_steps_158 rfl rfl ?_
              refine gX6_32 hn F dX6_steps_159 rfl ?_
              refine j_aload_n F dX6_steps_162 rfl rfl ?_
              refine gX6_80 hn F dX6_steps_163 rfl ?_
              refine j_int (y := nI (tkS t m p)) (by simp [up, upR, upd]) ?_
              refine j_iaload (a := tkS t m p) F (by omega) rfl rfl (by omega) (by decide) dX6_steps_166 rfl ?_
              refine j_int (y := nI (t (tkS t m p))) (by simp only [up, upR_n _ _ (show (63 : Nat) ≠ 55 by decide)]; exact (hT3 (tkS t m p) (by omega)).1) ?_
              refine j_iaddN (a := 1000) (b := t (tkS t m p)) F dX6_steps_167 rfl ?_
              refine j_bipush (v := nI (48)) F dX6_steps_168 rfl (by decide) ?_
              refine j_isubN (a := 1000 + (t (tkS t m p))) (b := 48) F (by omega) dX6_steps_170 rfl ?_
              refine j_int (y := nI (1000 + (t (tkS t m p) - 48))) (congrArg nI (by omega)) ?_
              refine pX6_83 hn F dX6_steps_171 rfl ?_
              refine j_vret F hRt ?_ dX6_steps_174
              unfold tkE tkC; rw [if_pos c_55, if_pos hfg, if_pos c_55, if_pos hfg, if_pos (show rn (fig t) m (tkS t m p + 1) = tkS t m p + 1 by omega)]
              exact ⟨rfl, ⟨fun a ha => by simp only [up, upR_n _ _ ha], fun i hi => by simp only [up, upR_s]; repeat rw [upd_n _ _ (by omega)]⟩, by simp [up, upR, upd, hqE], by simp [up, upR, upd], by simp [up, upR, upd]; exact (tmI_n (by omega)).symm⟩
            · refine j_sipush (v := nI (2000)) F dX6_steps_149 rfl (by decide) ?_
              refine j_goto (pc' := 171) F dX6_steps_152 (by decide) ?_
              refine pX6_83 hn F dX6_steps_171 rfl ?_
              refine j_vret F hRt ?_ dX6_steps_174
              unfold tkE tkC; rw [if_pos c_55, if_pos hfg, if_pos c_55, if_pos hfg, if_neg (show ¬ rn (fig t) m (tkS t m p + 1) = tkS t m p + 1 by omega)]
              exact ⟨rfl, ⟨fun a ha => by simp only [up, upR_n _ _ ha], fun i hi => by simp only [up, upR_s]; repeat rw [upd_n _ _ (by omega)]⟩, by simp [up, upR, upd, hqE], by simp [up, upR, upd], by simp [up, upR, upd, tmI]⟩
          · refine j_aload_n F dX6_steps_122 rfl rfl ?_
            refine j_dup F dX6_steps_123 rfl rfl ?_
            refine gX6_77 hn F dX6_steps_124 rfl ?_
            refine j_int (y := nI (q)) (by simp [up, upR, upd]) ?_
            refine j_iconst (v := nI (1)) F dX6_steps_127 rfl (by decide) ?_
            refine j_iaddN (a := q) (b := 1) F dX6_steps_128 rfl ?_
            refine pX6_77 hn F dX6_steps_129 rfl ?_
            refine j_store (σ' := up (up (up (up σ 55 14 (nI (tkS t m p))) 55 15 (nI (tkS t m p))) 55 16 (nI (t (tkS t m p)))) 55 14 (nI (q + 1))) (up_up _ _ _ _ _) ?_
            refine j_goto (pc' := 111) F dX6_steps_132 (by decide) ?_
            exact ih_111 _ (by have := of_decide_eq_true (and_t c_119).1; omega) (q + 1) (by have := of_decide_eq_true (and_t c_119).1; omega) (by omega) (by rw [← hq2]; exact (rn_s (of_decide_eq_true (and_t c_119).1) (and_t c_119).2).symm) (Nat.le_refl _)
        exact loop_111 _ (tkS t m p) hb.2 (Nat.le_refl _) (rn_s c_55 hfg) (Nat.le_refl _)
      · have hfg : ¬ isF (t (tkS t m p)) = true := fun q => by rw [decide_eq_true c_55, q] at c_82; cases c_82
        refine j_aload_n F dX6_steps_85 rfl rfl ?_
        refine j_dup F dX6_steps_86 rfl rfl ?_
        refine gX6_77 hn F dX6_steps_87 rfl ?_
        refine j_int (y := nI (tkS t m p)) (by simp [up, upR, upd]) ?_
        refine j_aload_n F dX6_steps_90 rfl rfl ?_
        refine gX6_77 hn F dX6_steps_91 rfl ?_
        refine j_int (y := nI (tkS t m p)) (by simp [up, upR, upd]) ?_
        refine j_aload_n F dX6_steps_94 rfl rfl ?_
        refine gX6_74 hn F dX6_steps_95 rfl ?_
        refine j_int (y := nI (m)) (by simp [up, upR, upd, hT1]) ?_
        refine j_icmp_geN (a := tkS t m p) (b := m) F (by omega) (by omega) (tgt := 105) dX6_steps_98 (by decide) rfl (fun c_98 => False.elim (by omega)) (fun c_98 => ?_)
        refine j_iconst (v := nI (1)) F dX6_steps_101 rfl (by decide) ?_
        refine j_goto (pc' := 106) F dX6_steps_102 (by decide) ?_
        refine j_iaddN (a := tkS t m p) (b := 1) F dX6_steps_106 rfl ?_
        refine pX6_77 hn F dX6_steps_107 rfl ?_
        refine j_vret F hRt ?_ dX6_steps_110
        unfold tkE tkC; rw [if_pos c_55, if_neg hfg, if_pos c_55, if_neg hfg]
        exact ⟨rfl, ⟨fun a ha => by simp only [up, upR_n _ _ ha], fun i hi => by simp only [up, upR_s]; repeat rw [upd_n _ _ (by omega)]⟩, by simp [up, upR, upd], by simp [up, upR, upd], by simp [up, upR, upd]; exact (tmI_n (by omega)).symm⟩
  refine j_store (σ' := up σ 55 14 (nI p)) (up_id hp).symm ?_
  have loop_0 : ∀ (m_0 : Nat), ∀ (q : Nat), (q ≤ m) → (rn (blk t) m q = tkS t m p) → m - q ≤ m_0 → J X 0 [some (.ref (X.E.1 + 55))] [] (up σ 55 14 (nI (q))) := by
    intro m_0
    induction m_0 using Nat.strongRecOn with | _ m_0 ih_0 => ?_
    intro q hq1 hq2
    intro hm_0
    refine j_aload_n F dX6_steps_0 rfl rfl ?_
    refine gX6_77 hn F dX6_steps_1 rfl ?_
    refine j_int (y := nI (q)) (by simp [up, upR, upd]) ?_
    refine j_aload_n F dX6_steps_4 rfl rfl ?_
    refine gX6_74 hn F dX6_steps_5 rfl ?_
    refine j_int (y := nI (m)) (by simp [up, upR, upd, hT1]) ?_
    refine j_icmp_geN (a := q) (b := m) F (by omega) (by omega) (tgt := 38) dX6_steps_8 (by decide) rfl (fun c_8 => ?_) (fun c_8 => ?_)
    · have hqS : q = tkS t m p := by
        have e : q = m := by omega
        rw [← hq2, e]
        exact (rn_m _ _).symm
      refine j_store (σ' := up σ 55 14 (nI (tkS t m p))) (by rw [← hqS]) ?_
      exact join_38
    · refine j_aload_n F dX6_steps_11 rfl rfl ?_
      refine gX6_32 hn F dX6_steps_12 rfl ?_
      refine j_aload_n F dX6_steps_15 rfl rfl ?_
      refine gX6_77 hn F dX6_steps_16 rfl ?_
      refine j_int (y := nI (q)) (by simp [up, upR, upd]) ?_
      refine j_iaload (a := q) F (by omega) rfl rfl (by omega) (by decide) dX6_steps_19 rfl ?_
      refine j_int (y := nI (t q)) (by simp only [up, upR_n _ _ (show (63 : Nat) ≠ 55 by decide)]; exact (hT3 q (by omega)).1) ?_
      refine j_bipush (v := nI (32)) F dX6_steps_20 rfl (by decide) ?_
      refine j_icmp_neN (a := t q) (b := 32) F (by have := (hT3 q c_8).2; omega) (by omega) (tgt := 38) dX6_steps_22 (by decide) rfl (fun c_22 => ?_) (fun c_22 => ?_)
      · have hqS : q = tkS t m p := by rw [← hq2]; exact (rn_e c_8 (decide_eq_false c_22)).symm
        refine j_store (σ' := up σ 55 14 (nI (tkS t m p))) (by rw [← hqS]) ?_
        exact join_38
      · refine j_aload_n F dX6_steps_25 rfl rfl ?_
        refine j_dup F dX6_steps_26 rfl rfl ?_
        refine gX6_77 hn F dX6_steps_27 rfl ?_
        refine j_int (y := nI (q)) (by simp [up, upR, upd]) ?_
        refine j_iconst (v := nI (1)) F dX6_steps_30 rfl (by decide) ?_
        refine j_iaddN (a := q) (b := 1) F dX6_steps_31 rfl ?_
        refine pX6_77 hn F dX6_steps_32 rfl ?_
        refine j_store (σ' := up σ 55 14 (nI (q + 1))) (up_up _ _ _ _ _) ?_
        refine j_goto (pc' := 0) F dX6_steps_35 (by decide) ?_
        exact ih_0 _ (by omega) (q + 1) (by omega) (by rw [← hq2]; exact (rn_s c_8 (decide_eq_true c_22)).symm) (Nat.le_refl _)
  exact loop_0 _ p hpm rfl (Nat.le_refl _)

set_option maxRecDepth 10000 in
set_option maxHeartbeats 2000000 in
theorem c_X6_reads {l : Launch} {n : Nat} {E : Ev} {σ : St} {t : Nat → Nat} {m : Nat} (hn : 69 ≤ n) (hT : MTx σ t m) (p : Nat) (hp : σ 55 14 = nI p) (hpm : p ≤ m) (lo hi : Nat) (hlo : lo ≤ 9) (hhi : hi ≤ 9) : Ct l yX6_reads cX6_reads 3 (some .boolean) 3 n E [.ref (E.1 + 55), .int (nI (lo)), .int (nI (hi))] σ (RdP σ t m p (numR t m p lo hi)) := by
  refine Ct.of (lv0 := [some (.ref (E.1 + 55)), some (.int (nI (lo))), some (.int (nI (hi)))]) (by decide) (Nat.le_of_ble_eq_true rfl) rfl ?_
  intro X hXn hXE hXl hXL F hRt
  subst hXn hXE hXl
  have hL : ∀ i, i < 3 → i < X.nL := fun i h => by rw [hXL]; exact h
  refine j_aload_n F dX6_reads_0 rfl rfl ?_
  refine kX6_90 hn F (As := []) (rest := []) (c_X6_steps hn hT p hp hpm) (by decide) rfl rfl (Nat.le_of_ble_eq_true rfl) dX6_reads_1 rfl (fun v_1 σ_1 q_1 => ?_)
  obtain ⟨rfl, f_1, k1, k2, k3⟩ := q_1
  have hlt := tkC_lt (t := t) (m := m) (p := p) (fun i hi => (hT.2.2 i hi).2)
  refine j_aload_n F dX6_reads_4 rfl rfl ?_
  refine j_aload_n F dX6_reads_5 rfl rfl ?_
  refine gX6_83 hn F dX6_reads_6 rfl ?_
  refine j_int (y := tmI (tkC t m p)) (k3) ?_
  refine j_sipush (v := nI (1000)) F dX6_reads_9 rfl (by decide) ?_
  refine j_isub F dX6_reads_12 rfl ?_
  refine pX6_93 hn F dX6_reads_13 rfl ?_
  refine j_aload_n F dX6_reads_16 rfl rfl ?_
  refine gX6_93 hn F dX6_reads_17 rfl ?_
  refine j_int (y := (tmI (tkC t m p) - nI 1000)) (up_i55) ?_
  refine j_iload_n F dX6_reads_20 rfl rfl ?_
  refine j_iload_n F dX6_reads_21 rfl rfl ?_
  refine kX6_63 F (As := [.int ((tmI (tkC t m p) - nI 1000)), .int (nI (lo)), .int (nI (hi))]) (rest := []) (c_X6_in ((tmI (tkC t m p) - nI 1000)) (nI (lo)) (nI (hi))) (by decide) rfl rfl (Nat.le_of_ble_eq_true rfl) dX6_reads_22 rfl (ro_k ?_)
  refine j_int (y := bI (okN (tkC t m p) lo hi)) (congrArg bI (okM hlt hlo hhi)) ?_
  have F5a : F5 σ (up σ_1 55 17 (tmI (tkC t m p) - nI 1000)) 14 18 := ⟨fun a ha => (upR_n _ _ ha).trans (f_1.1 a ha), fun i hi => (up_o55 (by omega)).trans (f_1.2 i (by omega))⟩
  have F5b : up σ_1 55 17 (tmI (tkC t m p) - nI 1000) 55 15 = nI (tkS t m p) := (up_o55 (by decide)).trans k2
  refine j_iret F hRt (bI_nar _) ?_ dX6_reads_25
  cases hok : okN (tkC t m p) lo hi
  · rw [numR_l hok]; exact ⟨F5a, F5b, rfl, rfl⟩
  · rw [numR_r hok]; exact ⟨F5a, F5b, rfl, (up_o55 (by decide)).trans k1, up_i55.trans (by have z := of_decide_eq_true hok; rw [tmI_n (by omega)]; exact pk_sub (by omega))⟩

set_option maxRecDepth 10000 in
set_option maxHeartbeats 2000000 in
theorem c_X6_readsPlan {l : Launch} {n : Nat} {E : Ev} {σ : St} {t : Nat → Nat} {m : Nat} (hn : 69 ≤ n) (hT : MTx σ t m) (p : Nat) (hp : σ 55 14 = nI p) (hpm : p ≤ m) {P : Pl} (hD : RdM σ P) (hG : PGt P) (s : Nat) (hs : σ 55 15 = nI s) (items : Nat) (hit : items ≤ 121) (h40 : items = 0 → P.nw = 4 ∧ P.nl = 0) : Ct l yX6_readsPlan cX6_readsPlan 3 (some .boolean) 4 n E [.ref (E.1 + 55), .int (nI (items))] σ (ItP σ (if items = 0 then sizeM t m p else .inl s)) := by
  refine Ct.of (lv0 := [some (.ref (E.1 + 55)), some (.int (nI (items))), none]) (by decide) (Nat.le_of_ble_eq_true rfl) rfl ?_
  intro X hXn hXE hXl hXL F hRt
  subst hXn hXE hXl
  have hL : ∀ i, i < 3 → i < X.nL := fun i h => by rw [hXL]; exact h
  have hB0 := hG.1.1
  obtain ⟨b1, b2, b3, b4, b5, b6, b7⟩ := hB0
  have hT2 := hT.2.1
  refine j_iload_n F dX6_readsPlan_0 rfl rfl ?_
  refine j_if_gtN (a := items) F (by omega) (tgt := 14) dX6_readsPlan_1 (by decide) rfl (fun c_1 => ?_) (fun c_1 => ?_)
  · have hi0 : ¬ items = 0 := by omega
    refine j_iconst (v := nI (0)) F dX6_readsPlan_14 rfl (by decide) ?_
    exact j_iret F hRt rfl (ItP_l (if_neg hi0) FrT.rf hs) dX6_readsPlan_15
  · have hi0 : items = 0 := by omega
    obtain ⟨e4, e0⟩ := h40 hi0
    refine j_aload_n F dX6_readsPlan_4 rfl rfl ?_
    refine j_iconst (v := nI (2)) F dX6_readsPlan_5 rfl (by decide) ?_
    refine j_bipush (v := nI (9)) F dX6_readsPlan_6 rfl (by decide) ?_
    refine kX6_96 hn F (As := [.int (nI (2)), .int (nI (9))]) (rest := []) (c_X6_reads hn (hT.fr (hT.1) (rfl)) p (hp) hpm 2 9 (by omega) (by omega)) (by decide) rfl rfl (Nat.le_of_ble_eq_true rfl) dX6_readsPlan_8 rfl (fun v_8 σ_8 q_8 => ?_)
    rcases hn_8 : numR t m p 2 9 with s_8 | qa
    · rw [hn_8] at q_8
      obtain ⟨f_8, k15_8, rfl, es_8⟩ := q_8
      refine j_if_neN (a := 0) F (by omega) (tgt := 16) dX6_readsPlan_11 (by decide) rfl (fun c_11 => False.elim (by revert c_11; decide)) (fun c_11 => ?_)
      refine j_iconst (v := nI (0)) F dX6_readsPlan_14 rfl (by decide) ?_
      exact j_iret F hRt rfl (ItP_l (by rw [if_pos hi0]; unfold sizeM; rw [hn_8]) (FrT.f5 FrT.rf f_8 (by decide) (by decide)) ((k15_8).trans (by rw [es_8]))) dX6_readsPlan_15
    · rw [hn_8] at q_8
      obtain ⟨f_8, k15_8, rfl, k14_8, k17_8⟩ := q_8
      obtain ⟨nb1_8, nb2_8, nb3_8, nb4_8⟩ := numR_b hpm hn_8
      refine j_if_neN (a := 1) F (by omega) (tgt := 16) dX6_readsPlan_11 (by decide) rfl (fun c_11 => ?_) (fun c_11 => False.elim (by revert c_11; decide))
      refine j_aload_n F dX6_readsPlan_16 rfl rfl ?_
      refine j_aload_n F dX6_readsPlan_17 rfl rfl ?_
      refine gX6_93 hn F dX6_readsPlan_18 rfl ?_
      refine j_int (y := nI (qa.1)) (k17_8) ?_
      refine pX6_100 hn F dX6_readsPlan_21 rfl ?_
      refine j_aload_n F dX6_readsPlan_24 rfl rfl ?_
      refine j_iconst (v := nI (2)) F dX6_readsPlan_25 rfl (by decide) ?_
      refine j_bipush (v := nI (9)) F dX6_readsPlan_26 rfl (by decide) ?_
      refine kX6_96 hn F (As := [.int (nI (2)), .int (nI (9))]) (rest := []) (c_X6_reads hn (hT.fr ((up_o55 (by decide)).trans ((f_8.2 12 (by omega)).trans (hT.1))) ((upR_n _ _ (by decide)).trans ((f_8.1 63 (by decide)).trans (rfl)))) qa.2 ((up_o55 (by decide)).trans (k14_8)) nb4_8 2 9 (by omega) (by omega)) (by decide) rfl rfl (Nat.le_of_ble_eq_true rfl) dX6_readsPlan_28 rfl (fun v_28 σ_28 q_28 => ?_)
      rcases hn_28 : numR t m qa.2 2 9 with s_28 | qb
      · rw [hn_28] at q_28
        obtain ⟨f_28, k15_28, rfl, es_28⟩ := q_28
        refine j_istore_n (lv' := [some (.ref (X.E.1 + 55)), some (.int (nI (items))), some (.int (nI (0)))]) F dX6_readsPlan_31 rfl (hL _ (by decide)) rfl rfl ?_
        refine j_aload_n F dX6_readsPlan_32 rfl rfl ?_
        refine j_aload_n F dX6_readsPlan_33 rfl rfl ?_
        refine gX6_93 hn F dX6_readsPlan_34 rfl ?_
        refine pX6_103 hn F dX6_readsPlan_37 rfl ?_
        refine j_iload_n F dX6_readsPlan_40 rfl rfl ?_
        exact j_iret F hRt rfl (ItP_l (by rw [if_pos hi0]; unfold sizeM; rw [hn_8]; dsimp only; rw [hn_28]) (FrT.put (FrT.f5 (FrT.put (FrT.f5 FrT.rf f_8 (by decide) (by decide)) (by decide)) f_28 (by decide) (by decide)) (by decide)) (((up_o55 (by decide)).trans (k15_28)).trans (by rw [es_28]))) dX6_readsPlan_41
      · rw [hn_28] at q_28
        obtain ⟨f_28, k15_28, rfl, k14_28, k17_28⟩ := q_28
        obtain ⟨nb1_28, nb2_28, nb3_28, nb4_28⟩ := numR_b nb4_8 hn_28
        refine j_istore_n (lv' := [some (.ref (X.E.1 + 55)), some (.int (nI (items))), some (.int (nI (1)))]) F dX6_readsPlan_31 rfl (hL _ (by decide)) rfl rfl ?_
        refine j_aload_n F dX6_readsPlan_32 rfl rfl ?_
        refine j_aload_n F dX6_readsPlan_33 rfl rfl ?_
        refine gX6_93 hn F dX6_readsPlan_34 rfl ?_
        refine j_int (y := nI (qb.1)) (k17_28) ?_
        refine pX6_103 hn F dX6_readsPlan_37 rfl ?_
        refine j_iload_n F dX6_readsPlan_40 rfl rfl ?_
        exact j_iret F hRt rfl (ItP_r (q := (P0 qa.1 qb.1, qb.2)) (by rw [if_pos hi0]; unfold sizeM; rw [hn_8]; dsimp only; rw [hn_28]) (FrT.put (FrT.f5 (FrT.put (FrT.f5 FrT.rf f_8 (by decide) (by decide)) (by decide)) f_28 (by decide) (by decide)) (by decide)) (RdM_P0 ((up_o55 (by decide)).trans ((f_28.2 18 (by omega)).trans (up_i55))) (up_i55) (((up_o55 (by decide)).trans ((f_28.2 20 (by omega)).trans ((up_o55 (by decide)).trans ((f_8.2 20 (by omega)).trans (hD.2.2.1))))).trans (by rw [e4])) (((up_o55 (by decide)).trans ((f_28.2 22 (by omega)).trans ((up_o55 (by decide)).trans ((f_8.2 22 (by omega)).trans (hD.2.2.2.1))))).trans (by rw [e0]))) ((up_o55 (by decide)).trans (k14_28))) dX6_readsPlan_41

set_option maxRecDepth 10000 in
set_option maxHeartbeats 2000000 in
theorem c_X6_readsWall {l : Launch} {n : Nat} {E : Ev} {σ : St} {t : Nat → Nat} {m : Nat} (hn : 69 ≤ n) (hT : MTx σ t m) (p : Nat) (hp : σ 55 14 = nI p) (hpm : p ≤ m) {P : Pl} (hD : RdM σ P) (hG : PGt P) (s : Nat) (hs : σ 55 15 = nI s) (u : Nat) (hu : u ≤ 1) : Ct l yX6_readsWall cX6_readsWall 3 (some .boolean) 4 n E [.ref (E.1 + 55), .int (nI (u))] σ (ItP σ (if P.nw < 14 then wallM t m P u p else .inl s)) := by
  refine Ct.of (lv0 := [some (.ref (E.1 + 55)), some (.int (nI (u))), none]) (by decide) (Nat.le_of_ble_eq_true rfl) rfl ?_
  intro X hXn hXE hXl hXL F hRt
  subst hXn hXE hXl
  have hL : ∀ i, i < 3 → i < X.nL := fun i h => by rw [hXL]; exact h
  have hB0 := hG.1.1
  obtain ⟨b1, b2, b3, b4, b5, b6, b7⟩ := hB0
  have hT2 := hT.2.1
  refine j_aload_n F dX6_readsWall_0 rfl rfl ?_
  refine gX6_106 hn F dX6_readsWall_1 rfl ?_
  refine j_int (y := nI (P.nw - 4)) (hD.2.2.1) ?_
  refine j_bipush (v := nI (10)) F dX6_readsWall_4 rfl (by decide) ?_
  refine j_icmp_eqN (a := P.nw - 4) (b := 10) F (by omega) (by omega) (tgt := 25) dX6_readsWall_6 (by decide) rfl (fun c_6 => ?_) (fun c_6 => ?_)
  · have h14 : ¬ P.nw < 14 := by omega
    refine j_iconst (v := nI (0)) F dX6_readsWall_25 rfl (by decide) ?_
    exact j_iret F hRt rfl (ItP_l (if_neg h14) FrT.rf hs) dX6_readsWall_26
  · have h14 : P.nw < 14 := by omega
    refine j_aload_n F dX6_readsWall_9 rfl rfl ?_
    refine j_iconst (v := nI (0)) F dX6_readsWall_10 rfl (by decide) ?_
    refine j_aload_n F dX6_readsWall_11 rfl rfl ?_
    refine gX6_100 hn F dX6_readsWall_12 rfl ?_
    refine j_int (y := nI (P.W)) (hD.1) ?_
    refine j_iconst (v := nI (1)) F dX6_readsWall_15 rfl (by decide) ?_
    refine j_isubN (a := P.W) (b := 1) F (by omega) dX6_readsWall_16 rfl ?_
    refine j_iload_n F dX6_readsWall_17 rfl rfl ?_
    refine j_iaddN (a := P.W - 1) (b := u) F dX6_readsWall_18 rfl ?_
    have hH_19 : (if u = 1 then P.W else P.W - 1) ≤ 9 := by split <;> omega
    refine j_int (y := nI ((if u = 1 then P.W else P.W - 1))) (congrArg nI (by rcases (show u = 0 ∨ u = 1 by omega) with e | e <;> rw [e] <;> simp <;> omega)) ?_
    refine kX6_96 hn F (As := [.int (nI (0)), .int (nI ((if u = 1 then P.W else P.W - 1)))]) (rest := []) (c_X6_reads hn (hT.fr (hT.1) (rfl)) p (hp) hpm 0 ((if u = 1 then P.W else P.W - 1)) (by omega) (by omega)) (by decide) rfl rfl (Nat.le_of_ble_eq_true rfl) dX6_readsWall_19 rfl (fun v_19 σ_19 q_19 => ?_)
    rcases hn_19 : numR t m p 0 ((if u = 1 then P.W else P.W - 1)) with s_19 | qa
    · rw [hn_19] at q_19
      obtain ⟨f_19, k15_19, rfl, es_19⟩ := q_19
      refine j_if_neN (a := 0) F (by omega) (tgt := 27) dX6_readsWall_22 (by decide) rfl (fun c_22 => False.elim (by revert c_22; decide)) (fun c_22 => ?_)
      refine j_iconst (v := nI (0)) F dX6_readsWall_25 rfl (by decide) ?_
      exact j_iret F hRt rfl (ItP_l (by rw [if_pos h14]; unfold wallM; rw [hn_19]) (FrT.f5 FrT.rf f_19 (by decide) (by decide)) ((k15_19).trans (by rw [es_19]))) dX6_readsWall_26
    · rw [hn_19] at q_19
      obtain ⟨f_19, k15_19, rfl, k14_19, k17_19⟩ := q_19
      obtain ⟨nb1_19, nb2_19, nb3_19, nb4_19⟩ := numR_b hpm hn_19
      refine j_if_neN (a := 1) F (by omega) (tgt := 27) dX6_readsWall_22 (by decide) rfl (fun c_22 => ?_) (fun c_22 => False.elim (by revert c_22; decide))
      have hbd19 : qa.1 ≤ P.W ∧ (u = 0 → qa.1 ≤ P.W - 1) := by rcases (show u = 0 ∨ u = 1 by omega) with e | e <;> rw [e] at nb2_19 <;> simp at nb2_19 <;> omega
      refine j_iconst (v := nI (4)) F dX6_readsWall_27 rfl (by decide) ?_
      refine j_aload_n F dX6_readsWall_28 rfl rfl ?_
      refine gX6_106 hn F dX6_readsWall_29 rfl ?_
      refine j_int (y := nI (P.nw - 4)) ((f_19.2 20 (by omega)).trans (hD.2.2.1)) ?_
      refine j_imulN (a := 4) (b := P.nw - 4) F dX6_readsWall_32 rfl ?_
      refine j_istore_n (lv' := [some (.ref (X.E.1 + 55)), some (.int (nI (u))), some (.int (nI (4 * (P.nw - 4))))]) F dX6_readsWall_33 rfl (hL _ (by decide)) rfl rfl ?_
      refine j_aload_n F dX6_readsWall_34 rfl rfl ?_
      refine gX6_35 hn F dX6_readsWall_35 rfl ?_
      refine j_iload_n F dX6_readsWall_38 rfl rfl ?_
      refine j_aload_n F dX6_readsWall_39 rfl rfl ?_
      refine gX6_93 hn F dX6_readsWall_40 rfl ?_
      refine j_int (y := nI (qa.1)) (k17_19) ?_
      refine j_iastore (a := 4 * (P.nw - 4)) F (by omega) rfl rfl (by omega) (by decide) dX6_readsWall_43 rfl ?_
      refine j_aload_n F dX6_readsWall_44 rfl rfl ?_
      refine j_iconst (v := nI (0)) F dX6_readsWall_45 rfl (by decide) ?_
      refine j_aload_n F dX6_readsWall_46 rfl rfl ?_
      refine gX6_103 hn F dX6_readsWall_47 rfl ?_
      refine j_int (y := nI (P.H)) ((up_oc (by decide)).trans ((f_19.2 19 (by omega)).trans (hD.2.1))) ?_
      refine j_iload_n F dX6_readsWall_50 rfl rfl ?_
      refine j_isubN (a := P.H) (b := u) F (by omega) dX6_readsWall_51 rfl ?_
      have hH_52 : (if u = 1 then P.H - 1 else P.H) ≤ 9 := by split <;> omega
      refine j_int (y := nI ((if u = 1 then P.H - 1 else P.H))) (congrArg nI (by rcases (show u = 0 ∨ u = 1 by omega) with e | e <;> rw [e] <;> simp <;> omega)) ?_
      refine kX6_96 hn F (As := [.int (nI (0)), .int (nI ((if u = 1 then P.H - 1 else P.H)))]) (rest := []) (c_X6_reads hn (hT.fr ((up_oc (by decide)).trans ((f_19.2 12 (by omega)).trans (hT.1))) ((upR_n _ _ (by decide)).trans ((f_19.1 63 (by decide)).trans (rfl)))) qa.2 ((up_oc (by decide)).trans (k14_19)) nb4_19 0 ((if u = 1 then P.H - 1 else P.H)) (by omega) (by omega)) (by decide) rfl rfl (Nat.le_of_ble_eq_true rfl) dX6_readsWall_52 rfl (fun v_52 σ_52 q_52 => ?_)
      rcases hn_52 : numR t m qa.2 0 ((if u = 1 then P.H - 1 else P.H)) with s_52 | qb
      · rw [hn_52] at q_52
        obtain ⟨f_52, k15_52, rfl, es_52⟩ := q_52
        refine j_if_neN (a := 0) F (by omega) (tgt := 60) dX6_readsWall_55 (by decide) rfl (fun c_55 => False.elim (by revert c_55; decide)) (fun c_55 => ?_)
        refine j_iconst (v := nI (0)) F dX6_readsWall_58 rfl (by decide) ?_
        exact j_iret F hRt rfl (ItP_l (by rw [if_pos h14]; unfold wallM; rw [hn_19]; dsimp only; rw [hn_52]) (FrT.f5 (FrT.arr (FrT.f5 FrT.rf f_19 (by decide) (by decide)) (by decide)) f_52 (by decide) (by decide)) ((k15_52).trans (by rw [es_52]))) dX6_readsWall_59
      · rw [hn_52] at q_52
        obtain ⟨f_52, k15_52, rfl, k14_52, k17_52⟩ := q_52
        obtain ⟨nb1_52, nb2_52, nb3_52, nb4_52⟩ := numR_b nb4_19 hn_52
        refine j_if_neN (a := 1) F (by omega) (tgt := 60) dX6_readsWall_55 (by decide) rfl (fun c_55 => ?_) (fun c_55 => False.elim (by revert c_55; decide))
        have hbd52 : qb.1 ≤ P.H ∧ (u = 1 → qb.1 ≤ P.H - 1) := by rcases (show u = 0 ∨ u = 1 by omega) with e | e <;> rw [e] at nb2_52 <;> simp at nb2_52 <;> omega
        refine j_aload_n F dX6_readsWall_60 rfl rfl ?_
        refine gX6_35 hn F dX6_readsWall_61 rfl ?_
        refine j_iload_n F dX6_readsWall_64 rfl rfl ?_
        refine j_iconst (v := nI (1)) F dX6_readsWall_65 rfl (by decide) ?_
        refine j_iaddN (a := 4 * (P.nw - 4)) (b := 1) F dX6_readsWall_66 rfl ?_
        refine j_aload_n F dX6_readsWall_67 rfl rfl ?_
        refine gX6_93 hn F dX6_readsWall_68 rfl ?_
        refine j_int (y := nI (qb.1)) (k17_52) ?_
        refine j_iastore (a := (4 * (P.nw - 4)) + 1) F (by omega) rfl rfl (by omega) (by decide) dX6_readsWall_71 rfl ?_
        refine j_aload_n F dX6_readsWall_72 rfl rfl ?_
        refine j_iconst (v := nI (1)) F dX6_readsWall_73 rfl (by decide) ?_
        refine j_iload_n F dX6_readsWall_74 rfl rfl ?_
        refine j_if_neN (a := u) F (by omega) (tgt := 92) dX6_readsWall_75 (by decide) rfl (fun c_75 => ?_) (fun c_75 => ?_)
        · have hu1 : u = 1 := by omega
          refine j_aload_n F dX6_readsWall_92 rfl rfl ?_
          refine gX6_103 hn F dX6_readsWall_93 rfl ?_
          refine j_int (y := nI (P.H)) ((up_oc (by decide)).trans ((f_52.2 19 (by omega)).trans ((up_oc (by decide)).trans ((f_19.2 19 (by omega)).trans (hD.2.1))))) ?_
          refine j_aload_n F dX6_readsWall_96 rfl rfl ?_
          refine gX6_35 hn F dX6_readsWall_97 rfl ?_
          refine j_iload_n F dX6_readsWall_100 rfl rfl ?_
          refine j_iconst (v := nI (1)) F dX6_readsWall_101 rfl (by decide) ?_
          refine j_iaddN (a := 4 * (P.nw - 4)) (b := 1) F dX6_readsWall_102 rfl ?_
          refine j_iaload (a := (4 * (P.nw - 4)) + 1) F (by omega) rfl rfl (by omega) (by decide) dX6_readsWall_103 rfl ?_
          refine j_int (y := nI (qb.1)) ((congrFun (up_row ((f_52.1 64 (by decide)).trans (up_row ((f_19.1 64 (by decide)).trans (rfl))))) _).trans (upd_s _ _ _)) ?_
          refine j_isubN (a := P.H) (b := qb.1) F (by omega) dX6_readsWall_104 rfl ?_
          have hH_105 : (if u = 1 then P.H - qb.1 else P.W - qa.1) ≤ 9 := by split <;> omega
          refine j_int (y := nI ((if u = 1 then P.H - qb.1 else P.W - qa.1))) (congrArg nI (if_pos hu1).symm) ?_
          refine kX6_96 hn F (As := [.int (nI (1)), .int (nI ((if u = 1 then P.H - qb.1 else P.W - qa.1)))]) (rest := []) (c_X6_reads hn (hT.fr ((up_oc (by decide)).trans ((f_52.2 12 (by omega)).trans ((up_oc (by decide)).trans ((f_19.2 12 (by omega)).trans (hT.1))))) ((upR_n _ _ (by decide)).trans ((f_52.1 63 (by decide)).trans ((upR_n _ _ (by decide)).trans ((f_19.1 63 (by decide)).trans (rfl)))))) qb.2 ((up_oc (by decide)).trans (k14_52)) nb4_52 1 ((if u = 1 then P.H - qb.1 else P.W - qa.1)) (by omega) (by omega)) (by decide) rfl rfl (Nat.le_of_ble_eq_true rfl) dX6_readsWall_105 rfl (fun v_105 σ_105 q_105 => ?_)
          rcases hn_105 : numR t m qb.2 1 ((if u = 1 then P.H - qb.1 else P.W - qa.1)) with s_105 | qc
          · rw [hn_105] at q_105
            obtain ⟨f_105, k15_105, rfl, es_105⟩ := q_105
            refine j_if_neN (a := 0) F (by omega) (tgt := 113) dX6_readsWall_108 (by decide) rfl (fun c_108 => False.elim (by revert c_108; decide)) (fun c_108 => ?_)
            refine j_iconst (v := nI (0)) F dX6_readsWall_111 rfl (by decide) ?_
            exact j_iret F hRt rfl (ItP_l (by rw [if_pos h14]; unfold wallM; rw [hn_19]; dsimp only; rw [hn_52]; dsimp only; rw [hn_105]) (FrT.f5 (FrT.arr (FrT.f5 (FrT.arr (FrT.f5 FrT.rf f_19 (by decide) (by decide)) (by decide)) f_52 (by decide) (by decide)) (by decide)) f_105 (by decide) (by decide)) ((k15_105).trans (by rw [es_105]))) dX6_readsWall_112
          · rw [hn_105] at q_105
            obtain ⟨f_105, k15_105, rfl, k14_105, k17_105⟩ := q_105
            obtain ⟨nb1_105, nb2_105, nb3_105, nb4_105⟩ := numR_b nb4_52 hn_105
            refine j_if_neN (a := 1) F (by omega) (tgt := 113) dX6_readsWall_108 (by decide) rfl (fun c_108 => ?_) (fun c_108 => False.elim (by revert c_108; decide))
            refine j_aload_n F dX6_readsWall_113 rfl rfl ?_
            refine gX6_35 hn F dX6_readsWall_114 rfl ?_
            refine j_iload_n F dX6_readsWall_117 rfl rfl ?_
            refine j_iconst (v := nI (2)) F dX6_readsWall_118 rfl (by decide) ?_
            refine j_iaddN (a := 4 * (P.nw - 4)) (b := 2) F dX6_readsWall_119 rfl ?_
            refine j_aload_n F dX6_readsWall_120 rfl rfl ?_
            refine gX6_93 hn F dX6_readsWall_121 rfl ?_
            refine j_int (y := nI (qc.1)) (k17_105) ?_
            refine j_iastore (a := (4 * (P.nw - 4)) + 2) F (by omega) rfl rfl (by omega) (by decide) dX6_readsWall_124 rfl ?_
            refine j_aload_n F dX6_readsWall_125 rfl rfl ?_
            refine gX6_35 hn F dX6_readsWall_126 rfl ?_
            refine j_iload_n F dX6_readsWall_129 rfl rfl ?_
            refine j_iconst (v := nI (3)) F dX6_readsWall_130 rfl (by decide) ?_
            refine j_iaddN (a := 4 * (P.nw - 4)) (b := 3) F dX6_readsWall_131 rfl ?_
            refine j_iload_n F dX6_readsWall_132 rfl rfl ?_
            refine j_iastore (a := (4 * (P.nw - 4)) + 3) F (by omega) rfl rfl (by omega) (by decide) dX6_readsWall_133 rfl ?_
            refine j_aload_n F dX6_readsWall_134 rfl rfl ?_
            refine j_dup F dX6_readsWall_135 rfl rfl ?_
            refine gX6_106 hn F dX6_readsWall_136 rfl ?_
            refine j_int (y := nI (P.nw - 4)) ((up_oc (by decide)).trans ((up_oc (by decide)).trans ((f_105.2 20 (by omega)).trans ((up_oc (by decide)).trans ((f_52.2 20 (by omega)).trans ((up_oc (by decide)).trans ((f_19.2 20 (by omega)).trans (hD.2.2.1)))))))) ?_
            refine j_iconst (v := nI (1)) F dX6_readsWall_139 rfl (by decide) ?_
            refine j_iaddN (a := P.nw - 4) (b := 1) F dX6_readsWall_140 rfl ?_
            refine pX6_106 hn F dX6_readsWall_141 rfl ?_
            refine j_iconst (v := nI (1)) F dX6_readsWall_144 rfl (by decide) ?_
            exact j_iret F hRt rfl (ItP_r (q := (P.addW qa.1 qb.1 qc.1 u, qc.2)) (by rw [if_pos h14]; unfold wallM; rw [hn_19]; dsimp only; rw [hn_52]; dsimp only; rw [hn_105]) (FrT.put (FrT.arr (FrT.arr (FrT.f5 (FrT.arr (FrT.f5 (FrT.arr (FrT.f5 FrT.rf f_19 (by decide) (by decide)) (by decide)) f_52 (by decide) (by decide)) (by decide)) f_105 (by decide) (by decide)) (by decide)) (by decide)) (by decide)) (RdM_addW b5 ((up_o55 (by decide)).trans ((up_oc (by decide)).trans ((up_oc (by decide)).trans ((f_105.2 18 (by omega)).trans ((up_oc (by decide)).trans ((f_52.2 18 (by omega)).trans ((up_oc (by decide)).trans ((f_19.2 18 (by omega)).trans (hD.1))))))))) ((up_o55 (by decide)).trans ((up_oc (by decide)).trans ((up_oc (by decide)).trans ((f_105.2 19 (by omega)).trans ((up_oc (by decide)).trans ((f_52.2 19 (by omega)).trans ((up_oc (by decide)).trans ((f_19.2 19 (by omega)).trans (hD.2.1))))))))) (up_i55) ((up_o55 (by decide)).trans ((up_oc (by decide)).trans ((up_oc (by decide)).trans ((f_105.2 22 (by omega)).trans ((up_oc (by decide)).trans ((f_52.2 22 (by omega)).trans ((up_oc (by decide)).trans ((f_19.2 22 (by omega)).trans (hD.2.2.2.1))))))))) ((upR_n _ _ (by decide)).trans (up_row (up_row ((f_105.1 64 (by decide)).trans (up_row ((f_52.1 64 (by decide)).trans (up_row ((f_19.1 64 (by decide)).trans (rfl))))))))) ((upR_n _ _ (by decide)).trans ((upR_n _ _ (by decide)).trans ((upR_n _ _ (by decide)).trans ((f_105.1 65 (by decide)).trans ((upR_n _ _ (by decide)).trans ((f_52.1 65 (by decide)).trans ((upR_n _ _ (by decide)).trans ((f_19.1 65 (by decide)).trans (rfl))))))))) hD.2.2.2.2.1 hD.2.2.2.2.2) ((up_o55 (by decide)).trans ((up_oc (by decide)).trans ((up_oc (by decide)).trans (k14_105))))) dX6_readsWall_145
        · have hu0 : u = 0 := by omega
          refine j_aload_n F dX6_readsWall_78 rfl rfl ?_
          refine gX6_100 hn F dX6_readsWall_79 rfl ?_
          refine j_int (y := nI (P.W)) ((up_oc (by decide)).trans ((f_52.2 18 (by omega)).trans ((up_oc (by decide)).trans ((f_19.2 18 (by omega)).trans (hD.1))))) ?_
          refine j_aload_n F dX6_readsWall_82 rfl rfl ?_
          refine gX6_35 hn F dX6_readsWall_83 rfl ?_
          refine j_iload_n F dX6_readsWall_86 rfl rfl ?_
          refine j_iaload (a := 4 * (P.nw - 4)) F (by omega) rfl rfl (by omega) (by decide) dX6_readsWall_87 rfl ?_
          refine j_int (y := nI (qa.1)) ((congrFun (up_row ((f_52.1 64 (by decide)).trans (up_row ((f_19.1 64 (by decide)).trans (rfl))))) _).trans ((upd_n _ _ (by omega)).trans (upd_s _ _ _))) ?_
          refine j_isubN (a := P.W) (b := qa.1) F (by omega) dX6_readsWall_88 rfl ?_
          refine j_goto (pc' := 105) F dX6_readsWall_89 (by decide) ?_
          have hH_105 : (if u = 1 then P.H - qb.1 else P.W - qa.1) ≤ 9 := by split <;> omega
          refine j_int (y := nI ((if u = 1 then P.H - qb.1 else P.W - qa.1))) (congrArg nI (if_neg (show ¬ u = 1 by omega)).symm) ?_
          refine kX6_96 hn F (As := [.int (nI (1)), .int (nI ((if u = 1 then P.H - qb.1 else P.W - qa.1)))]) (rest := []) (c_X6_reads hn (hT.fr ((up_oc (by decide)).trans ((f_52.2 12 (by omega)).trans ((up_oc (by decide)).trans ((f_19.2 12 (by omega)).trans (hT.1))))) ((upR_n _ _ (by decide)).trans ((f_52.1 63 (by decide)).trans ((upR_n _ _ (by decide)).trans ((f_19.1 63 (by decide)).trans (rfl)))))) qb.2 ((up_oc (by decide)).trans (k14_52)) nb4_52 1 ((if u = 1 then P.H - qb.1 else P.W - qa.1)) (by omega) (by omega)) (by decide) rfl rfl (Nat.le_of_ble_eq_true rfl) dX6_readsWall_105 rfl (fun v_105 σ_105 q_105 => ?_)
          rcases hn_105 : numR t m qb.2 1 ((if u = 1 then P.H - qb.1 else P.W - qa.1)) with s_105 | qc
          · rw [hn_105] at q_105
            obtain ⟨f_105, k15_105, rfl, es_105⟩ := q_105
            refine j_if_neN (a := 0) F (by omega) (tgt := 113) dX6_readsWall_108 (by decide) rfl (fun c_108 => False.elim (by revert c_108; decide)) (fun c_108 => ?_)
            refine j_iconst (v := nI (0)) F dX6_readsWall_111 rfl (by decide) ?_
            exact j_iret F hRt rfl (ItP_l (by rw [if_pos h14]; unfold wallM; rw [hn_19]; dsimp only; rw [hn_52]; dsimp only; rw [hn_105]) (FrT.f5 (FrT.arr (FrT.f5 (FrT.arr (FrT.f5 FrT.rf f_19 (by decide) (by decide)) (by decide)) f_52 (by decide) (by decide)) (by decide)) f_105 (by decide) (by decide)) ((k15_105).trans (by rw [es_105]))) dX6_readsWall_112
          · rw [hn_105] at q_105
            obtain ⟨f_105, k15_105, rfl, k14_105, k17_105⟩ := q_105
            obtain ⟨nb1_105, nb2_105, nb3_105, nb4_105⟩ := numR_b nb4_52 hn_105
            refine j_if_neN (a := 1) F (by omega) (tgt := 113) dX6_readsWall_108 (by decide) rfl (fun c_108 => ?_) (fun c_108 => False.elim (by revert c_108; decide))
            refine j_aload_n F dX6_readsWall_113 rfl rfl ?_
            refine gX6_35 hn F dX6_readsWall_114 rfl ?_
            refine j_iload_n F dX6_readsWall_117 rfl rfl ?_
            refine j_iconst (v := nI (2)) F dX6_readsWall_118 rfl (by decide) ?_
            refine j_iaddN (a := 4 * (P.nw - 4)) (b := 2) F dX6_readsWall_119 rfl ?_
            refine j_aload_n F dX6_readsWall_120 rfl rfl ?_
            refine gX6_93 hn F dX6_readsWall_121 rfl ?_
            refine j_int (y := nI (qc.1)) (k17_105) ?_
            refine j_iastore (a := (4 * (P.nw - 4)) + 2) F (by omega) rfl rfl (by omega) (by decide) dX6_readsWall_124 rfl ?_
            refine j_aload_n F dX6_readsWall_125 rfl rfl ?_
            refine gX6_35 hn F dX6_readsWall_126 rfl ?_
            refine j_iload_n F dX6_readsWall_129 rfl rfl ?_
            refine j_iconst (v := nI (3)) F dX6_readsWall_130 rfl (by decide) ?_
            refine j_iaddN (a := 4 * (P.nw - 4)) (b := 3) F dX6_readsWall_131 rfl ?_
            refine j_iload_n F dX6_readsWall_132 rfl rfl ?_
            refine j_iastore (a := (4 * (P.nw - 4)) + 3) F (by omega) rfl rfl (by omega) (by decide) dX6_readsWall_133 rfl ?_
            refine j_aload_n F dX6_readsWall_134 rfl rfl ?_
            refine j_dup F dX6_readsWall_135 rfl rfl ?_
            refine gX6_106 hn F dX6_readsWall_136 rfl ?_
            refine j_int (y := nI (P.nw - 4)) ((up_oc (by decide)).trans ((up_oc (by decide)).trans ((f_105.2 20 (by omega)).trans ((up_oc (by decide)).trans ((f_52.2 20 (by omega)).trans ((up_oc (by decide)).trans ((f_19.2 20 (by omega)).trans (hD.2.2.1)))))))) ?_
            refine j_iconst (v := nI (1)) F dX6_readsWall_139 rfl (by decide) ?_
            refine j_iaddN (a := P.nw - 4) (b := 1) F dX6_readsWall_140 rfl ?_
            refine pX6_106 hn F dX6_readsWall_141 rfl ?_
            refine j_iconst (v := nI (1)) F dX6_readsWall_144 rfl (by decide) ?_
            exact j_iret F hRt rfl (ItP_r (q := (P.addW qa.1 qb.1 qc.1 u, qc.2)) (by rw [if_pos h14]; unfold wallM; rw [hn_19]; dsimp only; rw [hn_52]; dsimp only; rw [hn_105]) (FrT.put (FrT.arr (FrT.arr (FrT.f5 (FrT.arr (FrT.f5 (FrT.arr (FrT.f5 FrT.rf f_19 (by decide) (by decide)) (by decide)) f_52 (by decide) (by decide)) (by decide)) f_105 (by decide) (by decide)) (by decide)) (by decide)) (by decide)) (RdM_addW b5 ((up_o55 (by decide)).trans ((up_oc (by decide)).trans ((up_oc (by decide)).trans ((f_105.2 18 (by omega)).trans ((up_oc (by decide)).trans ((f_52.2 18 (by omega)).trans ((up_oc (by decide)).trans ((f_19.2 18 (by omega)).trans (hD.1))))))))) ((up_o55 (by decide)).trans ((up_oc (by decide)).trans ((up_oc (by decide)).trans ((f_105.2 19 (by omega)).trans ((up_oc (by decide)).trans ((f_52.2 19 (by omega)).trans ((up_oc (by decide)).trans ((f_19.2 19 (by omega)).trans (hD.2.1))))))))) (up_i55) ((up_o55 (by decide)).trans ((up_oc (by decide)).trans ((up_oc (by decide)).trans ((f_105.2 22 (by omega)).trans ((up_oc (by decide)).trans ((f_52.2 22 (by omega)).trans ((up_oc (by decide)).trans ((f_19.2 22 (by omega)).trans (hD.2.2.2.1))))))))) ((upR_n _ _ (by decide)).trans (up_row (up_row ((f_105.1 64 (by decide)).trans (up_row ((f_52.1 64 (by decide)).trans (up_row ((f_19.1 64 (by decide)).trans (rfl))))))))) ((upR_n _ _ (by decide)).trans ((upR_n _ _ (by decide)).trans ((upR_n _ _ (by decide)).trans ((f_105.1 65 (by decide)).trans ((upR_n _ _ (by decide)).trans ((f_52.1 65 (by decide)).trans ((upR_n _ _ (by decide)).trans ((f_19.1 65 (by decide)).trans (rfl))))))))) hD.2.2.2.2.1 hD.2.2.2.2.2) ((up_o55 (by decide)).trans ((up_oc (by decide)).trans ((up_oc (by decide)).trans (k14_105))))) dX6_readsWall_145

set_option maxRecDepth 10000 in
set_option maxHeartbeats 2000000 in
theorem c_X6_readsLamp {l : Launch} {n : Nat} {E : Ev} {σ : St} {t : Nat → Nat} {m : Nat} (hn : 69 ≤ n) (hT : MTx σ t m) (p : Nat) (hp : σ 55 14 = nI p) (hpm : p ≤ m) {P : Pl} (hD : RdM σ P) (hG : PGt P) (s : Nat) (hs : σ 55 15 = nI s) : Ct l yX6_readsLamp cX6_readsLamp 3 (some .boolean) 4 n E [.ref (E.1 + 55)] σ (ItP σ (if P.nl < 8 then lampM t m P p else .inl s)) := by
  refine Ct.of (lv0 := [some (.ref (E.1 + 55)), none, none]) (by decide) (Nat.le_of_ble_eq_true rfl) rfl ?_
  intro X hXn hXE hXl hXL F hRt
  subst hXn hXE hXl
  have hL : ∀ i, i < 3 → i < X.nL := fun i h => by rw [hXL]; exact h
  have hB0 := hG.1.1
  obtain ⟨b1, b2, b3, b4, b5, b6, b7⟩ := hB0
  have hT2 := hT.2.1
  refine j_aload_n F dX6_readsLamp_0 rfl rfl ?_
  refine gX6_109 hn F dX6_readsLamp_1 rfl ?_
  refine j_int (y := nI (P.nl)) (hD.2.2.2.1) ?_
  refine j_bipush (v := nI (8)) F dX6_readsLamp_4 rfl (by decide) ?_
  refine j_icmp_eqN (a := P.nl) (b := 8) F (by omega) (by omega) (tgt := 23) dX6_readsLamp_6 (by decide) rfl (fun c_6 => ?_) (fun c_6 => ?_)
  · have h14 : ¬ P.nl < 8 := by omega
    refine j_iconst (v := nI (0)) F dX6_readsLamp_23 rfl (by decide) ?_
    exact j_iret F hRt rfl (ItP_l (if_neg h14) FrT.rf hs) dX6_readsLamp_24
  · have h14 : P.nl < 8 := by omega
    refine j_aload_n F dX6_readsLamp_9 rfl rfl ?_
    refine j_iconst (v := nI (0)) F dX6_readsLamp_10 rfl (by decide) ?_
    refine j_aload_n F dX6_readsLamp_11 rfl rfl ?_
    refine gX6_100 hn F dX6_readsLamp_12 rfl ?_
    refine j_int (y := nI (P.W)) (hD.1) ?_
    refine j_iconst (v := nI (1)) F dX6_readsLamp_15 rfl (by decide) ?_
    refine j_isubN (a := P.W) (b := 1) F (by omega) dX6_readsLamp_16 rfl ?_
    refine kX6_96 hn F (As := [.int (nI (0)), .int (nI (P.W - 1))]) (rest := []) (c_X6_reads hn (hT.fr (hT.1) (rfl)) p (hp) hpm 0 (P.W - 1) (by omega) (by omega)) (by decide) rfl rfl (Nat.le_of_ble_eq_true rfl) dX6_readsLamp_17 rfl (fun v_17 σ_17 q_17 => ?_)
    rcases hn_17 : numR t m p 0 (P.W - 1) with s_17 | qa
    · rw [hn_17] at q_17
      obtain ⟨f_17, k15_17, rfl, es_17⟩ := q_17
      refine j_if_neN (a := 0) F (by omega) (tgt := 25) dX6_readsLamp_20 (by decide) rfl (fun c_20 => False.elim (by revert c_20; decide)) (fun c_20 => ?_)
      refine j_iconst (v := nI (0)) F dX6_readsLamp_23 rfl (by decide) ?_
      exact j_iret F hRt rfl (ItP_l (by rw [if_pos h14]; unfold lampM; rw [hn_17]) (FrT.f5 FrT.rf f_17 (by decide) (by decide)) ((k15_17).trans (by rw [es_17]))) dX6_readsLamp_24
    · rw [hn_17] at q_17
      obtain ⟨f_17, k15_17, rfl, k14_17, k17_17⟩ := q_17
      obtain ⟨nb1_17, nb2_17, nb3_17, nb4_17⟩ := numR_b hpm hn_17
      refine j_if_neN (a := 1) F (by omega) (tgt := 25) dX6_readsLamp_20 (by decide) rfl (fun c_20 => ?_) (fun c_20 => False.elim (by revert c_20; decide))
      refine j_iconst (v := nI (2)) F dX6_readsLamp_25 rfl (by decide) ?_
      refine j_aload_n F dX6_readsLamp_26 rfl rfl ?_
      refine gX6_109 hn F dX6_readsLamp_27 rfl ?_
      refine j_int (y := nI (P.nl)) ((f_17.2 22 (by omega)).trans (hD.2.2.2.1)) ?_
      refine j_imulN (a := 2) (b := P.nl) F dX6_readsLamp_30 rfl ?_
      refine j_istore_n (lv' := [some (.ref (X.E.1 + 55)), some (.int (nI (2 * P.nl))), none]) F dX6_readsLamp_31 rfl (hL _ (by decide)) rfl rfl ?_
      refine j_aload_n F dX6_readsLamp_32 rfl rfl ?_
      refine gX6_38 hn F dX6_readsLamp_33 rfl ?_
      refine j_iload_n F dX6_readsLamp_36 rfl rfl ?_
      refine j_aload_n F dX6_readsLamp_37 rfl rfl ?_
      refine gX6_93 hn F dX6_readsLamp_38 rfl ?_
      refine j_int (y := nI (qa.1)) (k17_17) ?_
      refine j_iastore (a := 2 * P.nl) F (by omega) rfl rfl (by omega) (by decide) dX6_readsLamp_41 rfl ?_
      refine j_aload_n F dX6_readsLamp_42 rfl rfl ?_
      refine j_iconst (v := nI (0)) F dX6_readsLamp_43 rfl (by decide) ?_
      refine j_aload_n F dX6_readsLamp_44 rfl rfl ?_
      refine gX6_103 hn F dX6_readsLamp_45 rfl ?_
      refine j_int (y := nI (P.H)) ((up_oc (by decide)).trans ((f_17.2 19 (by omega)).trans (hD.2.1))) ?_
      refine j_iconst (v := nI (1)) F dX6_readsLamp_48 rfl (by decide) ?_
      refine j_isubN (a := P.H) (b := 1) F (by omega) dX6_readsLamp_49 rfl ?_
      refine kX6_96 hn F (As := [.int (nI (0)), .int (nI (P.H - 1))]) (rest := []) (c_X6_reads hn (hT.fr ((up_oc (by decide)).trans ((f_17.2 12 (by omega)).trans (hT.1))) ((upR_n _ _ (by decide)).trans ((f_17.1 63 (by decide)).trans (rfl)))) qa.2 ((up_oc (by decide)).trans (k14_17)) nb4_17 0 (P.H - 1) (by omega) (by omega)) (by decide) rfl rfl (Nat.le_of_ble_eq_true rfl) dX6_readsLamp_50 rfl (fun v_50 σ_50 q_50 => ?_)
      rcases hn_50 : numR t m qa.2 0 (P.H - 1) with s_50 | qb
      · rw [hn_50] at q_50
        obtain ⟨f_50, k15_50, rfl, es_50⟩ := q_50
        refine j_if_neN (a := 0) F (by omega) (tgt := 58) dX6_readsLamp_53 (by decide) rfl (fun c_53 => False.elim (by revert c_53; decide)) (fun c_53 => ?_)
        refine j_iconst (v := nI (0)) F dX6_readsLamp_56 rfl (by decide) ?_
        exact j_iret F hRt rfl (ItP_l (by rw [if_pos h14]; unfold lampM; rw [hn_17]; dsimp only; rw [hn_50]) (FrT.f5 (FrT.arr (FrT.f5 FrT.rf f_17 (by decide) (by decide)) (by decide)) f_50 (by decide) (by decide)) ((k15_50).trans (by rw [es_50]))) dX6_readsLamp_57
      · rw [hn_50] at q_50
        obtain ⟨f_50, k15_50, rfl, k14_50, k17_50⟩ := q_50
        obtain ⟨nb1_50, nb2_50, nb3_50, nb4_50⟩ := numR_b nb4_17 hn_50
        refine j_if_neN (a := 1) F (by omega) (tgt := 58) dX6_readsLamp_53 (by decide) rfl (fun c_53 => ?_) (fun c_53 => False.elim (by revert c_53; decide))
        refine j_aload_n F dX6_readsLamp_58 rfl rfl ?_
        refine gX6_38 hn F dX6_readsLamp_59 rfl ?_
        refine j_iload_n F dX6_readsLamp_62 rfl rfl ?_
        refine j_iconst (v := nI (1)) F dX6_readsLamp_63 rfl (by decide) ?_
        refine j_iaddN (a := 2 * P.nl) (b := 1) F dX6_readsLamp_64 rfl ?_
        refine j_aload_n F dX6_readsLamp_65 rfl rfl ?_
        refine gX6_93 hn F dX6_readsLamp_66 rfl ?_
        refine j_int (y := nI (qb.1)) (k17_50) ?_
        refine j_iastore (a := (2 * P.nl) + 1) F (by omega) rfl rfl (by omega) (by decide) dX6_readsLamp_69 rfl ?_
        refine j_iconst (v := nI (0)) F dX6_readsLamp_70 rfl (by decide) ?_
        refine j_istore_n (lv' := [some (.ref (X.E.1 + 55)), some (.int (nI (2 * P.nl))), some (.int (nI (0)))]) F dX6_readsLamp_71 rfl (hL _ (by decide)) rfl rfl ?_
        have loop_72 : ∀ (ii : Nat), ii ≤ P.nl → (∀ k, k < ii → ¬ (P.lp k 0 = qa.1 ∧ P.lp k 1 = qb.1)) → J X 72 [some (.ref (X.E.1 + 55)), some (.int (nI (2 * P.nl))), some (.int (nI (ii)))] [] (up σ_50 65 ((2 * P.nl) + 1) (nI (qb.1))) := by
          refine dnL (fun ii hii ih_72 => ?_)
          intro hLp
          refine j_iload_n F dX6_readsLamp_72 rfl rfl ?_
          refine j_aload_n F dX6_readsLamp_73 rfl rfl ?_
          refine gX6_109 hn F dX6_readsLamp_74 rfl ?_
          refine j_int (y := nI (P.nl)) ((up_oc (by decide)).trans ((f_50.2 22 (by omega)).trans ((up_oc (by decide)).trans ((f_17.2 22 (by omega)).trans (hD.2.2.2.1))))) ?_
          refine j_icmp_geN (a := ii) (b := P.nl) F (by omega) (by omega) (tgt := 126) dX6_readsLamp_77 (by decide) rfl (fun c_77 => ?_) (fun c_77 => ?_)
          · have hat : ¬ P.at qa.1 qb.1 = true := by rw [at_f (fun k hk => hLp k (by omega))]; decide
            refine j_aload_n F dX6_readsLamp_126 rfl rfl ?_
            refine j_dup F dX6_readsLamp_127 rfl rfl ?_
            refine gX6_109 hn F dX6_readsLamp_128 rfl ?_
            refine j_int (y := nI (P.nl)) ((up_oc (by decide)).trans ((f_50.2 22 (by omega)).trans ((up_oc (by decide)).trans ((f_17.2 22 (by omega)).trans (hD.2.2.2.1))))) ?_
            refine j_iconst (v := nI (1)) F dX6_readsLamp_131 rfl (by decide) ?_
            refine j_iaddN (a := P.nl) (b := 1) F dX6_readsLamp_132 rfl ?_
            refine pX6_109 hn F dX6_readsLamp_133 rfl ?_
            refine j_iconst (v := nI (1)) F dX6_readsLamp_136 rfl (by decide) ?_
            exact j_iret F hRt rfl (ItP_r (q := (P.addL qa.1 qb.1, qb.2)) (by rw [if_pos h14]; unfold lampM; rw [hn_17]; dsimp only; rw [hn_50]; dsimp only; rw [if_neg hat]) (FrT.put (FrT.arr (FrT.f5 (FrT.arr (FrT.f5 FrT.rf f_17 (by decide) (by decide)) (by decide)) f_50 (by decide) (by decide)) (by decide)) (by decide)) (RdM_addL ((up_o55 (by decide)).trans ((up_oc (by decide)).trans ((f_50.2 18 (by omega)).trans ((up_oc (by decide)).trans ((f_17.2 18 (by omega)).trans (hD.1)))))) ((up_o55 (by decide)).trans ((up_oc (by decide)).trans ((f_50.2 19 (by omega)).trans ((up_oc (by decide)).trans ((f_17.2 19 (by omega)).trans (hD.2.1)))))) ((up_o55 (by decide)).trans ((up_oc (by decide)).trans ((f_50.2 20 (by omega)).trans ((up_oc (by decide)).trans ((f_17.2 20 (by omega)).trans (hD.2.2.1)))))) (up_i55) ((upR_n _ _ (by decide)).trans ((upR_n _ _ (by decide)).trans ((f_50.1 64 (by decide)).trans ((upR_n _ _ (by decide)).trans ((f_17.1 64 (by decide)).trans (rfl)))))) ((upR_n _ _ (by decide)).trans (up_row ((f_50.1 65 (by decide)).trans (up_row ((f_17.1 65 (by decide)).trans (rfl)))))) hD.2.2.2.2.1 hD.2.2.2.2.2) ((up_o55 (by decide)).trans ((up_oc (by decide)).trans (k14_50)))) dX6_readsLamp_137
          · have hlo := hG.1.2.2.1 ii c_77
            unfold LampOK at hlo
            refine j_aload_n F dX6_readsLamp_80 rfl rfl ?_
            refine gX6_38 hn F dX6_readsLamp_81 rfl ?_
            refine j_iconst (v := nI (2)) F dX6_readsLamp_84 rfl (by decide) ?_
            refine j_iload_n F dX6_readsLamp_85 rfl rfl ?_
            refine j_imulN (a := 2) (b := ii) F dX6_readsLamp_86 rfl ?_
            refine j_iaload (a := 2 * ii) F (by omega) rfl rfl (by omega) (by decide) dX6_readsLamp_87 rfl ?_
            refine j_int (y := nI (P.lp ii 0)) ((congrFun (up_row ((f_50.1 65 (by decide)).trans (up_row ((f_17.1 65 (by decide)).trans (rfl))))) _).trans ((upd_n _ _ (by omega)).trans ((upd_n _ _ (by omega)).trans (hD.2.2.2.2.2 ii 0 c_77 (by decide))))) ?_
            refine j_aload_n F dX6_readsLamp_88 rfl rfl ?_
            refine gX6_38 hn F dX6_readsLamp_89 rfl ?_
            refine j_iload_n F dX6_readsLamp_92 rfl rfl ?_
            refine j_iaload (a := 2 * P.nl) F (by omega) rfl rfl (by omega) (by decide) dX6_readsLamp_93 rfl ?_
            refine j_int (y := nI (qa.1)) ((congrFun (up_row ((f_50.1 65 (by decide)).trans (up_row ((f_17.1 65 (by decide)).trans (rfl))))) _).trans ((upd_n _ _ (by omega)).trans (upd_s _ _ _))) ?_
            refine j_icmp_neN (a := P.lp ii 0) (b := qa.1) F (by omega) (by omega) (tgt := 120) dX6_readsLamp_94 (by decide) rfl (fun c_94 => ?_) (fun c_94 => ?_)
            · have hni : ¬ (P.lp ii 0 = qa.1 ∧ P.lp ii 1 = qb.1) := fun q => c_94 q.1
              refine j_iincN (a := ii) (c := 1) (lv' := [some (.ref (X.E.1 + 55)), some (.int (nI (2 * P.nl))), some (.int (nI (ii + 1)))]) F dX6_readsLamp_120 rfl rfl (by decide) (hL _ (by decide)) rfl rfl ?_
              refine j_goto (pc' := 72) F dX6_readsLamp_123 (by decide) ?_
              exact ih_72 (by omega)  (fun k h => by rcases (show k < ii ∨ k = ii by omega) with z | rfl; exact hLp k z; exact hni)
            · refine j_aload_n F dX6_readsLamp_97 rfl rfl ?_
              refine gX6_38 hn F dX6_readsLamp_98 rfl ?_
              refine j_iconst (v := nI (2)) F dX6_readsLamp_101 rfl (by decide) ?_
              refine j_iload_n F dX6_readsLamp_102 rfl rfl ?_
              refine j_imulN (a := 2) (b := ii) F dX6_readsLamp_103 rfl ?_
              refine j_iconst (v := nI (1)) F dX6_readsLamp_104 rfl (by decide) ?_
              refine j_iaddN (a := 2 * ii) (b := 1) F dX6_readsLamp_105 rfl ?_
              refine j_iaload (a := (2 * ii) + 1) F (by omega) rfl rfl (by omega) (by decide) dX6_readsLamp_106 rfl ?_
              refine j_int (y := nI (P.lp ii 1)) ((congrFun (up_row ((f_50.1 65 (by decide)).trans (up_row ((f_17.1 65 (by decide)).trans (rfl))))) _).trans ((upd_n _ _ (by omega)).trans ((upd_n _ _ (by omega)).trans (hD.2.2.2.2.2 ii 1 c_77 (by decide))))) ?_
              refine j_aload_n F dX6_readsLamp_107 rfl rfl ?_
              refine gX6_38 hn F dX6_readsLamp_108 rfl ?_
              refine j_iload_n F dX6_readsLamp_111 rfl rfl ?_
              refine j_iconst (v := nI (1)) F dX6_readsLamp_112 rfl (by decide) ?_
              refine j_iaddN (a := 2 * P.nl) (b := 1) F dX6_readsLamp_113 rfl ?_
              refine j_iaload (a := (2 * P.nl) + 1) F (by omega) rfl rfl (by omega) (by decide) dX6_readsLamp_114 rfl ?_
              refine j_int (y := nI (qb.1)) ((congrFun (up_row ((f_50.1 65 (by decide)).trans (up_row ((f_17.1 65 (by decide)).trans (rfl))))) _).trans (upd_s _ _ _)) ?_
              refine j_icmp_neN (a := P.lp ii 1) (b := qb.1) F (by omega) (by omega) (tgt := 120) dX6_readsLamp_115 (by decide) rfl (fun c_115 => ?_) (fun c_115 => ?_)
              · have hni : ¬ (P.lp ii 0 = qa.1 ∧ P.lp ii 1 = qb.1) := fun q => c_115 q.2
                refine j_iincN (a := ii) (c := 1) (lv' := [some (.ref (X.E.1 + 55)), some (.int (nI (2 * P.nl))), some (.int (nI (ii + 1)))]) F dX6_readsLamp_120 rfl rfl (by decide) (hL _ (by decide)) rfl rfl ?_
                refine j_goto (pc' := 72) F dX6_readsLamp_123 (by decide) ?_
                exact ih_72 (by omega)  (fun k h => by rcases (show k < ii ∨ k = ii by omega) with z | rfl; exact hLp k z; exact hni)
              · have hat : P.at qa.1 qb.1 = true := at_t c_77 (by omega) (by omega)
                refine j_iconst (v := nI (0)) F dX6_readsLamp_118 rfl (by decide) ?_
                exact j_iret F hRt rfl (ItP_l (by rw [if_pos h14]; unfold lampM; rw [hn_17]; dsimp only; rw [hn_50]; dsimp only; rw [if_pos hat]) (FrT.arr (FrT.f5 (FrT.arr (FrT.f5 FrT.rf f_17 (by decide) (by decide)) (by decide)) f_50 (by decide) (by decide)) (by decide)) ((up_oc (by decide)).trans (k15_50))) dX6_readsLamp_119
        exact loop_72 0 (by omega)  (fun k h => absurd h (Nat.not_lt_zero k))
