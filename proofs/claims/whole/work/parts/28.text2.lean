theorem tok_end {t : Nat → Nat} {m p : Nat} (hpm : p ≤ m) (hb : ¬ tkS t m p < m) : tkC t m p = 3000 ∧ tkS t m p = m ∧ tkE t m p = m := by
  have h := (tkS_le (t := t) hpm).2
  unfold tkC tkE
  rw [if_neg hb, if_neg hb]
  exact ⟨rfl, by omega, rfl⟩
theorem tok_let {t : Nat → Nat} {m p : Nat} (hb : tkS t m p < m) (hf : isF (t (tkS t m p)) = false) : tkC t m p = t (tkS t m p) ∧ tkE t m p = tkS t m p + 1 := by
  unfold tkC tkE
  rw [if_pos hb, if_pos hb, if_neg (by rw [hf]; decide), if_neg (by rw [hf]; decide)]
  exact ⟨rfl, rfl⟩
theorem tok_num {t : Nat → Nat} {m p : Nat} (hb : tkS t m p < m) (hf : isF (t (tkS t m p)) = true) : tkE t m p = rn (fig t) m (tkS t m p + 1) ∧ tkC t m p = if rn (fig t) m (tkS t m p + 1) = tkS t m p + 1 then 1000 + (t (tkS t m p) - 48) else 2000 := by
  unfold tkC tkE
  rw [if_pos hb, if_pos hb, if_pos hf, if_pos hf]
  exact ⟨rfl, rfl⟩
theorem sgI_let {c : Nat} (h : c < 256) : sgI c = nI c := by unfold sgI; rw [if_neg (by omega), if_neg (by omega)]
theorem sgI_end : sgI 3000 = -1 := rfl
theorem sgI_num {c : Nat} (h : 1000 ≤ c) (h2 : c ≤ 2000) : sgI c = -2 := by unfold sgI; rw [if_neg (by omega), if_pos h]
theorem nuI_1 {d : Nat} (h : d ≤ 9) : nuI (1000 + d) = nI d := by unfold nuI; rw [if_neg (by omega), Nat.add_sub_cancel_left]
theorem nuI_2 : nuI 2000 = -1 := rfl
theorem add_ok {σ : St} {t : Nat → Nat} {m c : Nat} (hT : TxtOK σ t m) (hm : m < 120) (hc : c < 256) : TxtOK (up (up σ 8 m (nI c)) 7 1 (nI (m + 1))) (fun i => if i = m then c else t i) (m + 1) := by
  refine ⟨by simp only [up, upR_s]; rw [upd_s], by omega, fun i hi => ?_⟩
  have e : up (up σ 8 m (nI c)) 7 1 (nI (m + 1)) 8 = upd (σ 8) m (nI c) := by simp only [up, upR_n _ _ (show (8 : Nat) ≠ 7 by decide), upR_s]
  rw [e]
  show _ = nI (if i = m then c else t i) ∧ (if i = m then c else t i) < 256
  by_cases q : i = m
  · rw [if_pos q, q, upd_s]; exact ⟨rfl, hc⟩
  · rw [if_neg q, upd_n _ _ q]; exact hT.2.2 i (by omega)
set_option maxRecDepth 10000 in
set_option maxHeartbeats 2000000 in
theorem c_X4_isFigure {l : Launch} {n : Nat} {E : Ev} {σ : St} (c : Nat) (hc : c < 256) : Ct l yX4_isFigure cX4_isFigure 1 (some .boolean) 0 n E [.int (nI (c))] σ (ro (.int (bI (isF c))) σ) := by
  refine Ct.of (lv0 := [some (.int (nI (c)))]) (by decide) (Nat.le_of_ble_eq_true rfl) rfl ?_
  intro X hXn hXE hXl hXL F hRt
  subst hXn hXE hXl
  have hL : ∀ i, i < 1 → i < X.nL := fun i h => by rw [hXL]; exact h
  refine j_iload_n F dX4_isFigure_0 rfl rfl ?_
  refine j_bipush (v := nI (48)) F dX4_isFigure_1 rfl (by decide) ?_
  refine j_icmp_ltN (a := c) (b := 48) F (by omega) (by omega) (tgt := 16) dX4_isFigure_3 (by decide) rfl (fun c_3 => ?_) (fun c_3 => ?_)
  · have hz : isF c = false := decide_eq_false (by omega)
    refine j_iconst (v := nI (0)) F dX4_isFigure_16 rfl (by decide) ?_
    exact j_iret F hRt rfl (roB_f hz) dX4_isFigure_17
  · refine j_iload_n F dX4_isFigure_6 rfl rfl ?_
    refine j_bipush (v := nI (57)) F dX4_isFigure_7 rfl (by decide) ?_
    refine j_icmp_gtN (a := c) (b := 57) F (by omega) (by omega) (tgt := 16) dX4_isFigure_9 (by decide) rfl (fun c_9 => ?_) (fun c_9 => ?_)
    · have hz : isF c = false := decide_eq_false (by omega)
      refine j_iconst (v := nI (0)) F dX4_isFigure_16 rfl (by decide) ?_
      exact j_iret F hRt rfl (roB_f hz) dX4_isFigure_17
    · have hz : isF c = true := decide_eq_true (by omega)
      refine j_iconst (v := nI (1)) F dX4_isFigure_12 rfl (by decide) ?_
      refine j_goto (pc' := 17) F dX4_isFigure_13 (by decide) ?_
      exact j_iret F hRt rfl (roB_t hz) dX4_isFigure_17

set_option maxRecDepth 10000 in
set_option maxHeartbeats 2000000 in
theorem c_X4_add {l : Launch} {n : Nat} {E : Ev} {σ : St} {t : Nat → Nat} {m : Nat} (hn : 55 ≤ n) (hT : TxtOK σ t m) (hm : m < 120) (c : Nat) (hc : c < 256) : Ct l yX4_add cX4_add 2 none 0 n E [.ref (E.1 + 7), .int (nI (c))] σ (fun v' σ' => v' = none ∧ TxtOK σ' (fun i => if i = m then c else t i) (m + 1) ∧ Fr [7, 8] σ σ') := by
  refine Ct.of (lv0 := [some (.ref (E.1 + 7)), some (.int (nI (c)))]) (by decide) (Nat.le_of_ble_eq_true rfl) rfl ?_
  intro X hXn hXE hXl hXL F hRt
  subst hXn hXE hXl
  have hL : ∀ i, i < 2 → i < X.nL := fun i h => by rw [hXL]; exact h
  refine j_aload_n F dX4_add_0 rfl rfl ?_
  refine gX4_15 hn F dX4_add_1 rfl ?_
  refine j_int (y := nI (m)) (hT.1) ?_
  refine j_bipush (v := nI (120)) F dX4_add_4 rfl (by decide) ?_
  refine j_icmp_geN (a := m) (b := 120) F (by omega) (by omega) (tgt := 29) dX4_add_6 (by decide) rfl (fun c_6 => False.elim (by omega)) (fun c_6 => ?_)
  refine j_aload_n F dX4_add_9 rfl rfl ?_
  refine gX4_9 hn F dX4_add_10 rfl ?_
  refine j_aload_n F dX4_add_13 rfl rfl ?_
  refine gX4_15 hn F dX4_add_14 rfl ?_
  refine j_int (y := nI (m)) (hT.1) ?_
  refine j_iload_n F dX4_add_17 rfl rfl ?_
  refine j_castore (a := m) F (by omega) rfl rfl (by omega) (by decide) (char_n hc) dX4_add_18 rfl ?_
  refine j_aload_n F dX4_add_19 rfl rfl ?_
  refine j_dup F dX4_add_20 rfl rfl ?_
  refine gX4_15 hn F dX4_add_21 rfl ?_
  refine j_int (y := nI (m)) (by simp only [up, upR_n _ _ (show (7 : Nat) ≠ 8 by decide)]; exact hT.1) ?_
  refine j_iconst (v := nI (1)) F dX4_add_24 rfl (by decide) ?_
  refine j_iaddN (a := m) (b := 1) F dX4_add_25 rfl ?_
  refine pX4_15 hn F dX4_add_26 rfl ?_
  exact j_vret F hRt (⟨rfl, add_ok hT hm hc, Fr.put (Fr.put Fr.rf (by simp)) (by simp)⟩) dX4_add_29

set_option maxRecDepth 10000 in
set_option maxHeartbeats 2000000 in
theorem c_X4_readToken {l : Launch} {n : Nat} {E : Ev} {σ : St} {t : Nat → Nat} {m : Nat} (hn : 55 ≤ n) (hT : TxtOK σ t m) (p : Nat) (hp : σ 7 5 = nI p) (hpm : p ≤ m) : Ct l yX4_readToken cX4_readToken 1 none 1 n E [.ref (E.1 + 7)] σ (fun v' σ' => v' = none ∧ TkOK σ' (tkC t m p) (tkS t m p) (tkE t m p) ∧ Fr [7] σ σ' ∧ σ' 7 1 = nI m) := by
  refine Ct.of (lv0 := [some (.ref (E.1 + 7))]) (by decide) (Nat.le_of_ble_eq_true rfl) rfl ?_
  intro X hXn hXE hXl hXL F hRt
  subst hXn hXE hXl
  have hL : ∀ i, i < 1 → i < X.nL := fun i h => by rw [hXL]; exact h
  have hT0 := hT
  obtain ⟨hT1, hT2, hT3⟩ := hT0
  have hb := tkS_le (t := t) hpm
  have join_38 : J X 38 [some (.ref (X.E.1 + 7))] [] (up σ 7 5 (nI (tkS t m p))) := by
    refine j_aload_n F dX4_readToken_38 rfl rfl ?_
    refine j_aload_n F dX4_readToken_39 rfl rfl ?_
    refine gX4_25 hn F dX4_readToken_40 rfl ?_
    refine j_int (y := nI (tkS t m p)) (by simp [up, upR, upd]) ?_
    refine pX4_38 hn F dX4_readToken_43 rfl ?_
    refine j_aload_n F dX4_readToken_46 rfl rfl ?_
    refine j_iconst (v := (-1 : Int32)) F dX4_readToken_47 rfl (by decide) ?_
    refine pX4_31 hn F dX4_readToken_48 rfl ?_
    refine j_aload_n F dX4_readToken_51 rfl rfl ?_
    refine gX4_25 hn F dX4_readToken_52 rfl ?_
    refine j_int (y := nI (tkS t m p)) (by simp [up, upR, upd]) ?_
    refine j_aload_n F dX4_readToken_55 rfl rfl ?_
    refine gX4_15 hn F dX4_readToken_56 rfl ?_
    refine j_int (y := nI (m)) (by simp [up, upR, upd, hT1]) ?_
    refine j_icmp_ltN (a := tkS t m p) (b := m) F (by omega) (by omega) (tgt := 63) dX4_readToken_59 (by decide) rfl (fun c_59 => ?_) (fun c_59 => ?_)
    · have hc256 := (hT3 (tkS t m p) c_59).2
      refine j_aload_n F dX4_readToken_63 rfl rfl ?_
      refine j_aload_n F dX4_readToken_64 rfl rfl ?_
      refine gX4_9 hn F dX4_readToken_65 rfl ?_
      refine j_aload_n F dX4_readToken_68 rfl rfl ?_
      refine gX4_25 hn F dX4_readToken_69 rfl ?_
      refine j_int (y := nI (tkS t m p)) (by simp [up, upR, upd]) ?_
      refine j_caload (a := tkS t m p) F (by omega) rfl rfl (by omega) (by decide) dX4_readToken_72 rfl ?_
      refine j_int (y := nI (t (tkS t m p))) (by simp only [up, upR_n _ _ (show (8 : Nat) ≠ 7 by decide)]; exact (hT3 (tkS t m p) (by omega)).1) ?_
      refine pX4_31 hn F dX4_readToken_73 rfl ?_
      refine j_aload_n F dX4_readToken_76 rfl rfl ?_
      refine gX4_9 hn F dX4_readToken_77 rfl ?_
      refine j_aload_n F dX4_readToken_80 rfl rfl ?_
      refine gX4_25 hn F dX4_readToken_81 rfl ?_
      refine j_int (y := nI (tkS t m p)) (by simp [up, upR, upd]) ?_
      refine j_caload (a := tkS t m p) F (by omega) rfl rfl (by omega) (by decide) dX4_readToken_84 rfl ?_
      refine j_int (y := nI (t (tkS t m p))) (by simp only [up, upR_n _ _ (show (8 : Nat) ≠ 7 by decide)]; exact (hT3 (tkS t m p) (by omega)).1) ?_
      refine kX4_84 F (As := [.int (nI (t (tkS t m p)))]) (rest := []) (c_X4_isFigure (t (tkS t m p)) (hT3 _ (by omega)).2) (by decide) rfl rfl (Nat.le_of_ble_eq_true rfl) dX4_readToken_85 rfl (ro_k ?_)
      refine j_if_eqB F (x := isF (t (tkS t m p))) (tgt := 113) dX4_readToken_88 (by decide) rfl (fun c_88 => ?_) (fun c_88 => ?_)
      · have z := tok_let c_59 c_88
        refine j_aload_n F dX4_readToken_113 rfl rfl ?_
        refine j_dup F dX4_readToken_114 rfl rfl ?_
        refine gX4_25 hn F dX4_readToken_115 rfl ?_
        refine j_int (y := nI (tkS t m p)) (by simp [up, upR, upd]) ?_
        refine j_iconst (v := nI (1)) F dX4_readToken_118 rfl (by decide) ?_
        refine j_iaddN (a := tkS t m p) (b := 1) F dX4_readToken_119 rfl ?_
        refine pX4_25 hn F dX4_readToken_120 rfl ?_
        refine j_aload_n F dX4_readToken_123 rfl rfl ?_
        refine gX4_31 hn F dX4_readToken_124 rfl ?_
        refine j_int (y := nI (t (tkS t m p))) (by simp [up, upR, upd]) ?_
        refine j_bipush (v := (-2 : Int32)) F dX4_readToken_127 rfl (by decide) ?_
        refine j_icmp_neZ F (a := ((t (tkS t m p) : Nat) : Int)) (b := (-2 : Int)) (nI_iI _) iI_m2 (bd_n (show t (tkS t m p) ≤ 300 by omega)) (bd_m2) (by decide) (by decide) (tgt := 176) dX4_readToken_129 (by decide) rfl (fun c_129 => ?_) (fun c_129 => False.elim (by omega))
        exact j_vret F hRt (by rw [z.1, z.2]; exact ⟨rfl, ⟨by simp [up, upR, upd], by simp [up, upR, upd], by simp [up, upR, upd, sgI_let hc256], fun h => absurd h (by omega)⟩, Fr.put (Fr.put (Fr.put (Fr.put (Fr.put Fr.rf (by simp)) (by simp)) (by simp)) (by simp)) (by simp), by simp [up, upR, upd, hT1]⟩) dX4_readToken_176
      · have z := tok_num c_59 c_88
        have zf := isF_9 c_88
        refine j_aload_n F dX4_readToken_91 rfl rfl ?_
        refine j_aload_n F dX4_readToken_92 rfl rfl ?_
        refine gX4_9 hn F dX4_readToken_93 rfl ?_
        refine j_aload_n F dX4_readToken_96 rfl rfl ?_
        refine gX4_25 hn F dX4_readToken_97 rfl ?_
        refine j_int (y := nI (tkS t m p)) (by simp [up, upR, upd]) ?_
        refine j_caload (a := tkS t m p) F (by omega) rfl rfl (by omega) (by decide) dX4_readToken_100 rfl ?_
        refine j_int (y := nI (t (tkS t m p))) (by simp only [up, upR_n _ _ (show (8 : Nat) ≠ 7 by decide)]; exact (hT3 (tkS t m p) (by omega)).1) ?_
        refine j_bipush (v := nI (48)) F dX4_readToken_101 rfl (by decide) ?_
        refine j_isubN (a := t (tkS t m p)) (b := 48) F (by omega) dX4_readToken_103 rfl ?_
        refine pX4_61 hn F dX4_readToken_104 rfl ?_
        refine j_aload_n F dX4_readToken_107 rfl rfl ?_
        refine j_bipush (v := (-2 : Int32)) F dX4_readToken_108 rfl (by decide) ?_
        refine pX4_31 hn F dX4_readToken_110 rfl ?_
        refine j_aload_n F dX4_readToken_113 rfl rfl ?_
        refine j_dup F dX4_readToken_114 rfl rfl ?_
        refine gX4_25 hn F dX4_readToken_115 rfl ?_
        refine j_int (y := nI (tkS t m p)) (by simp [up, upR, upd]) ?_
        refine j_iconst (v := nI (1)) F dX4_readToken_118 rfl (by decide) ?_
        refine j_iaddN (a := tkS t m p) (b := 1) F dX4_readToken_119 rfl ?_
        refine pX4_25 hn F dX4_readToken_120 rfl ?_
        have loop_123 : ∀ (m_123 : Nat), ∀ (τ : St) (q : Nat), (Fr [7] σ τ) → (τ 7 1 = nI m) → (τ 7 2 = nI (tkS t m p)) → (τ 7 3 = -2) → (τ 7 5 = nI q) → (τ 7 4 = if q = tkS t m p + 1 then nI (t (tkS t m p) - 48) else -1) → (tkS t m p + 1 ≤ q) → (q ≤ m) → (rn (fig t) m q = rn (fig t) m (tkS t m p + 1)) → m - q ≤ m_123 → J X 123 [some (.ref (X.E.1 + 7))] [] τ := by
          intro m_123
          induction m_123 using Nat.strongRecOn with | _ m_123 ih_123 => ?_
          intro τ q hF h1 h2 h3 h5 h4 hq1 hq2 hrun
          intro hm_123
          refine j_aload_n F dX4_readToken_123 rfl rfl ?_
          refine gX4_31 hn F dX4_readToken_124 rfl ?_
          refine j_int (y := (-2 : Int32)) (h3) ?_
          refine j_bipush (v := (-2 : Int32)) F dX4_readToken_127 rfl (by decide) ?_
          refine j_icmp_ne F (tgt := 176) dX4_readToken_129 (by decide) rfl (fun c_129 => False.elim (c_129 rfl)) (fun c_129 => ?_)
          refine j_aload_n F dX4_readToken_132 rfl rfl ?_
          refine gX4_25 hn F dX4_readToken_133 rfl ?_
          refine j_int (y := nI (q)) (h5) ?_
          refine j_aload_n F dX4_readToken_136 rfl rfl ?_
          refine gX4_15 hn F dX4_readToken_137 rfl ?_
          refine j_int (y := nI (m)) (h1) ?_
          refine j_icmp_geN (a := q) (b := m) F (by omega) (by omega) (tgt := 176) dX4_readToken_140 (by decide) rfl (fun c_140 => ?_) (fun c_140 => ?_)
          · have hE : rn (fig t) m (tkS t m p + 1) = q := by
              have e : q = m := by omega
              rw [← hrun, e]
              exact rn_m _ _
            refine j_vret F hRt ?_ dX4_readToken_176
            rw [z.1, z.2, hE]
            refine ⟨rfl, ⟨h2, h5, ?_, fun _ _ => ?_⟩, hF, h1⟩
            · rw [h3]
              by_cases e : q = tkS t m p + 1
              · rw [if_pos e, sgI_num (by omega) (by omega)]
              · rw [if_neg e]; rfl
            · rw [h4]
              by_cases e : q = tkS t m p + 1
              · rw [if_pos e, if_pos e, nuI_1 (by omega)]
              · rw [if_neg e, if_neg e]; rfl
          · refine j_aload_n F dX4_readToken_143 rfl rfl ?_
            refine gX4_9 hn F dX4_readToken_144 rfl ?_
            refine j_aload_n F dX4_readToken_147 rfl rfl ?_
            refine gX4_25 hn F dX4_readToken_148 rfl ?_
            refine j_int (y := nI (q)) (h5) ?_
            refine j_caload (a := q) F (by omega) rfl rfl (by omega) (by decide) dX4_readToken_151 rfl ?_
            refine j_int (y := nI (t q)) (by rw [hF 8 (by decide)]; exact (hT3 q (by omega)).1) ?_
            refine kX4_84 F (As := [.int (nI (t q))]) (rest := []) (c_X4_isFigure (t q) (hT3 _ (by omega)).2) (by decide) rfl rfl (Nat.le_of_ble_eq_true rfl) dX4_readToken_152 rfl (ro_k ?_)
            refine j_if_eqB F (x := isF (t q)) (tgt := 176) dX4_readToken_155 (by decide) rfl (fun c_155 => ?_) (fun c_155 => ?_)
            · have hE : rn (fig t) m (tkS t m p + 1) = q := by rw [← hrun]; exact rn_e c_140 c_155
              refine j_vret F hRt ?_ dX4_readToken_176
              rw [z.1, z.2, hE]
              refine ⟨rfl, ⟨h2, h5, ?_, fun _ _ => ?_⟩, hF, h1⟩
              · rw [h3]
                by_cases e : q = tkS t m p + 1
                · rw [if_pos e, sgI_num (by omega) (by omega)]
                · rw [if_neg e]; rfl
              · rw [h4]
                by_cases e : q = tkS t m p + 1
                · rw [if_pos e, if_pos e, nuI_1 (by omega)]
                · rw [if_neg e, if_neg e]; rfl
            · refine j_aload_n F dX4_readToken_158 rfl rfl ?_
              refine j_iconst (v := (-1 : Int32)) F dX4_readToken_159 rfl (by decide) ?_
              refine pX4_61 hn F dX4_readToken_160 rfl ?_
              refine j_aload_n F dX4_readToken_163 rfl rfl ?_
              refine j_dup F dX4_readToken_164 rfl rfl ?_
              refine gX4_25 hn F dX4_readToken_165 rfl ?_
              refine j_int (y := nI (q)) (by simp [up, upR, upd, h5]) ?_
              refine j_iconst (v := nI (1)) F dX4_readToken_168 rfl (by decide) ?_
              refine j_iaddN (a := q) (b := 1) F dX4_readToken_169 rfl ?_
              refine pX4_25 hn F dX4_readToken_170 rfl ?_
              refine j_goto (pc' := 123) F dX4_readToken_173 (by decide) ?_
              exact ih_123 _ (by omega) (up (up τ 7 4 (-1)) 7 5 (nI (q + 1))) (q + 1) (Fr.put (Fr.put hF (by simp)) (by simp)) (by simp [up, upR, upd, h1]) (by simp [up, upR, upd, h2]) (by simp [up, upR, upd, h3]) (by simp [up, upR, upd]) (by rw [if_neg (by omega)]; simp [up, upR, upd]) (by omega) (by omega) (by rw [← hrun]; exact (rn_s c_140 c_155).symm) (Nat.le_refl _)
        exact loop_123 _ (up (up (up (up (up (up (up σ 7 5 (nI (tkS t m p))) 7 2 (nI (tkS t m p))) 7 3 ((-1 : Int32))) 7 3 (nI (t (tkS t m p)))) 7 4 (nI ((t (tkS t m p)) - 48))) 7 3 ((-2 : Int32))) 7 5 (nI ((tkS t m p) + 1))) (tkS t m p + 1) (Fr.put (Fr.put (Fr.put (Fr.put (Fr.put (Fr.put (Fr.put Fr.rf (by simp)) (by simp)) (by simp)) (by simp)) (by simp)) (by simp)) (by simp)) (by simp [up, upR, upd, hT1]) (by simp [up, upR, upd]) (by simp [up, upR, upd]) (by simp [up, upR, upd]) (by simp [up, upR, upd]) (Nat.le_refl _) (by omega) rfl (Nat.le_refl _)
    · have z := tok_end (t := t) hpm (show ¬ tkS t m p < m by omega)
      exact j_vret F hRt (by rw [z.1, z.2.1, z.2.2]; exact ⟨rfl, ⟨by simp [up, upR, upd], by simp [up, upR, upd], by simp [up, upR, upd, sgI_end], fun _ h => absurd h (by decide)⟩, Fr.put (Fr.put (Fr.put Fr.rf (by simp)) (by simp)) (by simp), by simp [up, upR, upd, hT1]⟩) dX4_readToken_62
  refine j_store (σ' := up σ 7 5 (nI p)) (up_id hp).symm ?_
  have loop_0 : ∀ (m_0 : Nat), ∀ (q : Nat), (q ≤ m) → (rn (blk t) m q = tkS t m p) → m - q ≤ m_0 → J X 0 [some (.ref (X.E.1 + 7))] [] (up σ 7 5 (nI (q))) := by
    intro m_0
    induction m_0 using Nat.strongRecOn with | _ m_0 ih_0 => ?_
    intro q hq1 hq2
    intro hm_0
    refine j_aload_n F dX4_readToken_0 rfl rfl ?_
    refine gX4_25 hn F dX4_readToken_1 rfl ?_
    refine j_int (y := nI (q)) (by simp [up, upR, upd]) ?_
    refine j_aload_n F dX4_readToken_4 rfl rfl ?_
    refine gX4_15 hn F dX4_readToken_5 rfl ?_
    refine j_int (y := nI (m)) (by simp [up, upR, upd, hT1]) ?_
    refine j_icmp_geN (a := q) (b := m) F (by omega) (by omega) (tgt := 38) dX4_readToken_8 (by decide) rfl (fun c_8 => ?_) (fun c_8 => ?_)
    · have hqS : q = tkS t m p := by
        have e : q = m := by omega
        rw [← hq2, e]
        exact (rn_m _ _).symm
      refine j_store (σ' := up σ 7 5 (nI (tkS t m p))) (by rw [← hqS]) ?_
      exact join_38
    · refine j_aload_n F dX4_readToken_11 rfl rfl ?_
      refine gX4_9 hn F dX4_readToken_12 rfl ?_
      refine j_aload_n F dX4_readToken_15 rfl rfl ?_
      refine gX4_25 hn F dX4_readToken_16 rfl ?_
      refine j_int (y := nI (q)) (by simp [up, upR, upd]) ?_
      refine j_caload (a := q) F (by omega) rfl rfl (by omega) (by decide) dX4_readToken_19 rfl ?_
      refine j_int (y := nI (t q)) (by simp only [up, upR_n _ _ (show (8 : Nat) ≠ 7 by decide)]; exact (hT3 q (by omega)).1) ?_
      refine j_bipush (v := nI (32)) F dX4_readToken_20 rfl (by decide) ?_
      refine j_icmp_neN (a := t q) (b := 32) F (by have := (hT3 q c_8).2; omega) (by omega) (tgt := 38) dX4_readToken_22 (by decide) rfl (fun c_22 => ?_) (fun c_22 => ?_)
      · have hqS : q = tkS t m p := by rw [← hq2]; exact (rn_e c_8 (decide_eq_false c_22)).symm
        refine j_store (σ' := up σ 7 5 (nI (tkS t m p))) (by rw [← hqS]) ?_
        exact join_38
      · refine j_aload_n F dX4_readToken_25 rfl rfl ?_
        refine j_dup F dX4_readToken_26 rfl rfl ?_
        refine gX4_25 hn F dX4_readToken_27 rfl ?_
        refine j_int (y := nI (q)) (by simp [up, upR, upd]) ?_
        refine j_iconst (v := nI (1)) F dX4_readToken_30 rfl (by decide) ?_
        refine j_iaddN (a := q) (b := 1) F dX4_readToken_31 rfl ?_
        refine pX4_25 hn F dX4_readToken_32 rfl ?_
        refine j_store (σ' := up σ 7 5 (nI (q + 1))) (up_up _ _ _ _ _) ?_
        refine j_goto (pc' := 0) F dX4_readToken_35 (by decide) ?_
        exact ih_0 _ (by omega) (q + 1) (by omega) (by rw [← hq2]; exact (rn_s c_8 (decide_eq_true c_22)).symm) (Nat.le_refl _)
  exact loop_0 _ p hpm rfl (Nat.le_refl _)
