theorem ar_cm {P : Pl} {lx ly k w : Nat} {E0 : List Dr} (ht : 0 < trn E0 k) : iI (P.lin lx ly w * P.lin lx ly w * ((trn E0 k).natAbs : Int)) = iI (P.aU lx ly E0 k w) := by
  unfold Pl.aU
  rw [Int.natAbs_of_nonneg (by omega), Int.mul_comm, ← Int.mul_assoc]
set_option maxRecDepth 10000 in
set_option maxHeartbeats 2000000 in
theorem c_X6_meets {l : Launch} {n : Nat} {E : Ev} {σ : St} {P : Pl} (hn : 69 ≤ n) (hM : MP σ P) (hBd : PB P) (hWl : ∀ w, w < P.nw → WallOK P w) (hLm : ∀ l, l < P.nl → LampOK P l) (l0 w : Nat) (hl : l0 < P.nl) (hw : w < P.nw) (dx dy : Int) (hdx : bd dx 40) (hdy : bd dy 40) : Ct l yX6_meets cX6_meets 11 (some .boolean) 1 n E [.ref (E.1 + 55), .int (nI (l0)), .int (nI (w)), .int (iI (dx)), .int (iI (dy))] σ (fun v' σ' => v' = some (.int (bI (P.hit (P.lp l0 0) (P.lp l0 1) dx dy w))) ∧ F27 σ σ' ∧ (P.hit (P.lp l0 0) (P.lp l0 1) dx dy w = true → σ' 55 27 = iI (P.gap (P.lp l0 0) (P.lp l0 1) dx dy w) ∧ σ' 55 28 = iI (P.stp dx dy w))) := by
  refine Ct.of (lv0 := [some (.ref (E.1 + 55)), some (.int (nI (l0))), some (.int (nI (w))), some (.int (iI (dx))), some (.int (iI (dy))), none, none, none, none, none, none]) (by decide) (Nat.le_of_ble_eq_true rfl) rfl ?_
  intro X hXn hXE hXl hXL F hRt
  subst hXn hXE hXl
  have hL : ∀ i, i < 11 → i < X.nL := fun i h => by rw [hXL]; exact h
  have hB0 := hBd
  obtain ⟨b1, b2, b3, b4, b5, b6, b7⟩ := hB0
  have hlo := hLm l0 hl
  unfold LampOK at hlo
  obtain ⟨w1, w2, w3, w4, w5, w6⟩ := hWl w hw
  have bl := bd_lin2 (lx := P.lp l0 0) (ly := P.lp l0 1) hBd hWl (by omega) (by omega) hw
  have nbl := bd_na.mp bl
  have nbx := bd_na.mp hdx
  have nby := bd_na.mp hdy
  have hodd := lin_odd P (P.lp l0 0) (P.lp l0 1) w
  refine j_aload_n F dX6_meets_0 rfl rfl ?_
  refine j_iload_n F dX6_meets_1 rfl rfl ?_
  refine j_iconst (v := nI (3)) F dX6_meets_2 rfl (by decide) ?_
  refine kX6_138 hn F (As := [.int (nI (w)), .int (nI (3))]) (rest := []) (c_X6_ofWall hn hM hBd w 3 (by omega) (by omega)) (by decide) rfl rfl (Nat.le_of_ble_eq_true rfl) dX6_meets_3 rfl (ro_k ?_)
  refine j_iconst (v := nI (1)) F dX6_meets_6 rfl (by decide) ?_
  refine j_icmp_neN (a := P.wl w 3) (b := 1) F (by omega) (by omega) (tgt := 14) dX6_meets_7 (by decide) rfl (fun c_7 => ?_) (fun c_7 => ?_)
  · have c_7z : ¬ P.wl w 3 = 1 := c_7
    refine j_iconst (v := nI (0)) F dX6_meets_14 rfl (by decide) ?_
    refine j_istore (lv' := [some (.ref (X.E.1 + 55)), some (.int (nI (l0))), some (.int (nI (w))), some (.int (iI (dx))), some (.int (iI (dy))), some (.int (nI (0))), none, none, none, none, none]) F dX6_meets_15 rfl (hL _ (by decide)) rfl rfl ?_
    refine j_iload F dX6_meets_17 rfl rfl ?_
    refine j_if_eqN (a := 0) F (by omega) (tgt := 44) dX6_meets_19 (by decide) rfl (fun c_19 => ?_) (fun c_19 => False.elim (by revert c_19; decide))
    refine j_iconst (v := nI (2)) F dX6_meets_44 rfl (by decide) ?_
    refine j_aload_n F dX6_meets_45 rfl rfl ?_
    refine j_iload_n F dX6_meets_46 rfl rfl ?_
    refine j_iconst (v := nI (1)) F dX6_meets_47 rfl (by decide) ?_
    refine kX6_138 hn F (As := [.int (nI (w)), .int (nI (1))]) (rest := [.int (nI (2))]) (c_X6_ofWall hn hM hBd w 1 (by omega) (by omega)) (by decide) rfl rfl (Nat.le_of_ble_eq_true rfl) dX6_meets_48 rfl (ro_k ?_)
    refine j_imulN (a := 2) (b := P.wl w 1) F dX6_meets_51 rfl ?_
    refine j_iconst (v := nI (2)) F dX6_meets_52 rfl (by decide) ?_
    refine j_aload_n F dX6_meets_53 rfl rfl ?_
    refine j_iload_n F dX6_meets_54 rfl rfl ?_
    refine j_iconst (v := nI (1)) F dX6_meets_55 rfl (by decide) ?_
    refine kX6_70 hn F (As := [.int (nI (l0)), .int (nI (1))]) (rest := [.int (nI (2)), .int (nI (2 * (P.wl w 1)))]) (c_X6_ofLamp hn hM hBd l0 1 (by omega) (by omega)) (by decide) rfl rfl (Nat.le_of_ble_eq_true rfl) dX6_meets_56 rfl (ro_k ?_)
    refine j_imulN (a := 2) (b := P.lp l0 1) F dX6_meets_59 rfl ?_
    refine j_isubZ F (a := ((2 * (P.wl w 1) : Nat) : Int)) (b := ((2 * (P.lp l0 1) : Nat) : Int)) (nI_iI _) (nI_iI _) dX6_meets_60 rfl ?_
    refine j_iconst (v := nI (1)) F dX6_meets_61 rfl (by decide) ?_
    refine j_isubZ F (a := ((2 * (P.wl w 1) : Nat) : Int) - ((2 * (P.lp l0 1) : Nat) : Int)) (b := ((1 : Nat) : Int)) rfl (nI_iI _) dX6_meets_62 rfl ?_
    refine j_int (y := iI (P.lin (P.lp l0 0) (P.lp l0 1) w)) (by unfold Pl.lin; (first | rw [if_pos c_7z] | rw [if_neg c_7z]); congr 1; omega) ?_
    refine j_istore (lv' := [some (.ref (X.E.1 + 55)), some (.int (nI (l0))), some (.int (nI (w))), some (.int (iI (dx))), some (.int (iI (dy))), some (.int (nI (0))), some (.int (iI (P.lin (P.lp l0 0) (P.lp l0 1) w))), none, none, none, none]) F dX6_meets_63 rfl (hL _ (by decide)) rfl rfl ?_
    refine j_iload F dX6_meets_65 rfl rfl ?_
    refine j_if_eqN (a := 0) F (by omega) (tgt := 74) dX6_meets_67 (by decide) rfl (fun c_67 => ?_) (fun c_67 => False.elim (by revert c_67; decide))
    refine j_iload F dX6_meets_74 rfl rfl ?_
    refine j_istore (lv' := [some (.ref (X.E.1 + 55)), some (.int (nI (l0))), some (.int (nI (w))), some (.int (iI (dx))), some (.int (iI (dy))), some (.int (nI (0))), some (.int (iI (P.lin (P.lp l0 0) (P.lp l0 1) w))), some (.int (iI (dy))), none, none, none]) F dX6_meets_76 rfl (hL _ (by decide)) rfl rfl ?_
    refine j_iload F dX6_meets_78 rfl rfl ?_
    refine j_if_eqN (a := 0) F (by omega) (tgt := 88) dX6_meets_80 (by decide) rfl (fun c_80 => ?_) (fun c_80 => False.elim (by revert c_80; decide))
    refine j_iload_n F dX6_meets_88 rfl rfl ?_
    refine j_istore (lv' := [some (.ref (X.E.1 + 55)), some (.int (nI (l0))), some (.int (nI (w))), some (.int (iI (dx))), some (.int (iI (dy))), some (.int (nI (0))), some (.int (iI (P.lin (P.lp l0 0) (P.lp l0 1) w))), some (.int (iI (dy))), some (.int (iI (dx))), none, none]) F dX6_meets_89 rfl (hL _ (by decide)) rfl rfl ?_
    have hac : P.acr dx dy w = dy := by unfold Pl.acr; first | rw [if_pos c_7z] | rw [if_neg c_7z]
    have hal : P.alo dx dy w = dx := by unfold Pl.alo; first | rw [if_pos c_7z] | rw [if_neg c_7z]
    have blo : bd (P.low (P.lp l0 0) (P.lp l0 1) w) 20 := by unfold Pl.low; (first | rw [if_pos c_7z] | rw [if_neg c_7z]); exact ⟨by omega, by omega⟩
    refine j_iload F dX6_meets_91 rfl rfl ?_
    refine j_if_eqZ F (a := dy) rfl hdy (by decide) (tgt := 119) dX6_meets_93 (by decide) rfl (fun c_93 => ?_) (fun c_93 => ?_)
    · have hz : P.hit (P.lp l0 0) (P.lp l0 1) dx dy w = false := by
        unfold Pl.hit
        rw [hac, decide_eq_false (fun q => q c_93)]
        rfl
      refine j_iconst (v := nI (0)) F dX6_meets_119 rfl (by decide) ?_
      exact j_iret F hRt rfl (⟨by rw [hz]; rfl, F27.rf, fun q => by rw [hz] at q; cases q⟩) dX6_meets_120
    · refine j_iload F dX6_meets_96 rfl rfl ?_
      refine j_if_leZ F (a := P.lin (P.lp l0 0) (P.lp l0 1) w) rfl bl (by decide) (tgt := 105) dX6_meets_98 (by decide) rfl (fun c_98 => ?_) (fun c_98 => ?_)
      · refine j_iconst (v := nI (0)) F dX6_meets_105 rfl (by decide) ?_
        refine j_iload F dX6_meets_106 rfl rfl ?_
        refine j_if_leZ F (a := dy) rfl hdy (by decide) (tgt := 115) dX6_meets_108 (by decide) rfl (fun c_108 => ?_) (fun c_108 => ?_)
        · refine j_iconst (v := nI (0)) F dX6_meets_115 rfl (by decide) ?_
          have hgp : P.gap (P.lp l0 0) (P.lp l0 1) dx dy w = ((P.lin (P.lp l0 0) (P.lp l0 1) w).natAbs : Int) := by unfold Pl.gap; rw [hac]; split <;> omega
          have hst : P.stp dx dy w = ((dy).natAbs : Int) := by unfold Pl.stp; rw [hac]
          refine j_icmp_eqN (a := 0) (b := 0) F (by omega) (by omega) (tgt := 121) dX6_meets_116 (by decide) rfl (fun c_116 => ?_) (fun c_116 => False.elim (by revert c_116; decide))
          refine j_aload_n F dX6_meets_121 rfl rfl ?_
          refine j_iload F dX6_meets_122 rfl rfl ?_
          refine kX6_170 F (As := [.int (iI (P.lin (P.lp l0 0) (P.lp l0 1) w))]) (rest := [.ref (X.E.1 + 55)]) (c_X6_size (P.lin (P.lp l0 0) (P.lp l0 1) w) bl (by decide)) (by decide) rfl rfl (Nat.le_of_ble_eq_true rfl) dX6_meets_124 rfl (ro_k ?_)
          refine pX6_186 hn F dX6_meets_127 rfl ?_
          refine j_aload_n F dX6_meets_130 rfl rfl ?_
          refine j_iload F dX6_meets_131 rfl rfl ?_
          refine kX6_170 F (As := [.int (iI (dy))]) (rest := [.ref (X.E.1 + 55)]) (c_X6_size (dy) hdy (by decide)) (by decide) rfl rfl (Nat.le_of_ble_eq_true rfl) dX6_meets_133 rfl (ro_k ?_)
          refine pX6_189 hn F dX6_meets_136 rfl ?_
          have hM2 : MP (up (up σ 55 27 (nI ((P.lin (P.lp l0 0) (P.lp l0 1) w).natAbs))) 55 28 (nI ((dy).natAbs))) P := (F27.fe (σ := σ) (σ' := up (up σ 55 27 (nI ((P.lin (P.lp l0 0) (P.lp l0 1) w).natAbs))) 55 28 (nI ((dy).natAbs))) ⟨fun a ha => (upR_n _ _ ha).trans (upR_n _ _ ha), fun i h1 h2 => (up_o55 h2).trans (up_o55 h1)⟩).mp hM
          refine j_iload F dX6_meets_139 rfl rfl ?_
          refine j_if_eqN (a := 0) F (by omega) (tgt := 166) dX6_meets_141 (by decide) rfl (fun c_141 => ?_) (fun c_141 => False.elim (by revert c_141; decide))
          refine j_iconst (v := nI (2)) F dX6_meets_166 rfl (by decide) ?_
          refine j_aload_n F dX6_meets_167 rfl rfl ?_
          refine j_iload_n F dX6_meets_168 rfl rfl ?_
          refine j_iconst (v := nI (0)) F dX6_meets_169 rfl (by decide) ?_
          refine kX6_138 hn F (As := [.int (nI (w)), .int (nI (0))]) (rest := [.int (nI (2))]) (c_X6_ofWall hn hM2 hBd w 0 (by omega) (by omega)) (by decide) rfl rfl (Nat.le_of_ble_eq_true rfl) dX6_meets_170 rfl (ro_k ?_)
          refine j_imulN (a := 2) (b := P.wl w 0) F dX6_meets_173 rfl ?_
          refine j_iconst (v := nI (2)) F dX6_meets_174 rfl (by decide) ?_
          refine j_aload_n F dX6_meets_175 rfl rfl ?_
          refine j_iload_n F dX6_meets_176 rfl rfl ?_
          refine j_iconst (v := nI (0)) F dX6_meets_177 rfl (by decide) ?_
          refine kX6_70 hn F (As := [.int (nI (l0)), .int (nI (0))]) (rest := [.int (nI (2)), .int (nI (2 * (P.wl w 0)))]) (c_X6_ofLamp hn hM2 hBd l0 0 (by omega) (by omega)) (by decide) rfl rfl (Nat.le_of_ble_eq_true rfl) dX6_meets_178 rfl (ro_k ?_)
          refine j_imulN (a := 2) (b := P.lp l0 0) F dX6_meets_181 rfl ?_
          refine j_isubZ F (a := ((2 * (P.wl w 0) : Nat) : Int)) (b := ((2 * (P.lp l0 0) : Nat) : Int)) (nI_iI _) (nI_iI _) dX6_meets_182 rfl ?_
          refine j_iconst (v := nI (1)) F dX6_meets_183 rfl (by decide) ?_
          refine j_isubZ F (a := ((2 * (P.wl w 0) : Nat) : Int) - ((2 * (P.lp l0 0) : Nat) : Int)) (b := ((1 : Nat) : Int)) rfl (nI_iI _) dX6_meets_184 rfl ?_
          refine j_int (y := iI (P.low (P.lp l0 0) (P.lp l0 1) w)) (by unfold Pl.low; (first | rw [if_pos c_7z] | rw [if_neg c_7z]); congr 1; omega) ?_
          refine j_istore (lv' := [some (.ref (X.E.1 + 55)), some (.int (nI (l0))), some (.int (nI (w))), some (.int (iI (dx))), some (.int (iI (dy))), some (.int (nI (0))), some (.int (iI (P.lin (P.lp l0 0) (P.lp l0 1) w))), some (.int (iI (dy))), some (.int (iI (dx))), some (.int (iI (P.low (P.lp l0 0) (P.lp l0 1) w))), none]) F dX6_meets_185 rfl (hL _ (by decide)) rfl rfl ?_
          refine j_iload F dX6_meets_187 rfl rfl ?_
          refine j_aload_n F dX6_meets_189 rfl rfl ?_
          refine gX6_186 hn F dX6_meets_190 rfl ?_
          refine j_int (y := nI ((P.lin (P.lp l0 0) (P.lp l0 1) w).natAbs)) ((up_o55 (by decide)).trans up_i55) ?_
          refine j_imulZ F (a := dx) (b := (((P.lin (P.lp l0 0) (P.lp l0 1) w).natAbs : Nat) : Int)) rfl (nI_iI _) dX6_meets_193 rfl ?_
          refine j_istore (lv' := [some (.ref (X.E.1 + 55)), some (.int (nI (l0))), some (.int (nI (w))), some (.int (iI (dx))), some (.int (iI (dy))), some (.int (nI (0))), some (.int (iI (P.lin (P.lp l0 0) (P.lp l0 1) w))), some (.int (iI (dy))), some (.int (iI (dx))), some (.int (iI (P.low (P.lp l0 0) (P.lp l0 1) w))), some (.int (iI (dx * (((P.lin (P.lp l0 0) (P.lp l0 1) w).natAbs : Nat) : Int))))]) F dX6_meets_194 rfl (hL _ (by decide)) rfl rfl ?_
          refine j_iload F dX6_meets_196 rfl rfl ?_
          refine j_iload F dX6_meets_198 rfl rfl ?_
          refine j_aload_n F dX6_meets_200 rfl rfl ?_
          refine gX6_189 hn F dX6_meets_201 rfl ?_
          refine j_int (y := nI ((dy).natAbs)) (up_i55) ?_
          refine j_imulZ F (a := P.low (P.lp l0 0) (P.lp l0 1) w) (b := (((dy).natAbs : Nat) : Int)) rfl (nI_iI _) dX6_meets_204 rfl ?_
          refine j_icmp_ltZ F (a := dx * (((P.lin (P.lp l0 0) (P.lp l0 1) w).natAbs : Nat) : Int)) (b := (P.low (P.lp l0 0) (P.lp l0 1) w) * (((dy).natAbs : Nat) : Int)) rfl rfl (bd_mul hdx (bd_n (show (P.lin (P.lp l0 0) (P.lp l0 1) w).natAbs ≤ 40 by omega))) (bd_mul blo (bd_n (show (dy).natAbs ≤ 40 by omega))) (by decide) (by decide) (tgt := 233) dX6_meets_205 (by decide) rfl (fun c_205 => ?_) (fun c_205 => ?_)
          · have hz : P.hit (P.lp l0 0) (P.lp l0 1) dx dy w = false := by
              unfold Pl.hit Pl.onB
              rw [hac, hal, hgp, hst]
              rw [decide_eq_false (p := _ ∧ _) (fun q => absurd q.1 (by omega)), Bool.and_false]
            refine j_iconst (v := nI (0)) F dX6_meets_233 rfl (by decide) ?_
            exact j_iret F hRt rfl (⟨by rw [hz]; rfl, ⟨fun a ha => (upR_n _ _ ha).trans (upR_n _ _ ha), fun i h1 h2 => (up_o55 h2).trans (up_o55 h1)⟩, fun q => by rw [hz] at q; cases q⟩) dX6_meets_234
          · refine j_iload F dX6_meets_208 rfl rfl ?_
            refine j_iload F dX6_meets_210 rfl rfl ?_
            refine j_iconst (v := nI (2)) F dX6_meets_212 rfl (by decide) ?_
            refine j_aload_n F dX6_meets_213 rfl rfl ?_
            refine j_iload_n F dX6_meets_214 rfl rfl ?_
            refine j_iconst (v := nI (2)) F dX6_meets_215 rfl (by decide) ?_
            refine kX6_138 hn F (As := [.int (nI (w)), .int (nI (2))]) (rest := [.int (nI (2)), .int (iI (P.low (P.lp l0 0) (P.lp l0 1) w)), .int (iI (dx * (((P.lin (P.lp l0 0) (P.lp l0 1) w).natAbs : Nat) : Int)))]) (c_X6_ofWall hn hM2 hBd w 2 (by omega) (by omega)) (by decide) rfl rfl (Nat.le_of_ble_eq_true rfl) dX6_meets_216 rfl (ro_k ?_)
            refine j_imulN (a := 2) (b := P.wl w 2) F dX6_meets_219 rfl ?_
            refine j_iaddZ F (a := P.low (P.lp l0 0) (P.lp l0 1) w) (b := ((2 * (P.wl w 2) : Nat) : Int)) rfl (nI_iI _) dX6_meets_220 rfl ?_
            refine j_aload_n F dX6_meets_221 rfl rfl ?_
            refine gX6_189 hn F dX6_meets_222 rfl ?_
            refine j_int (y := nI ((dy).natAbs)) (up_i55) ?_
            refine j_imulZ F (a := (P.low (P.lp l0 0) (P.lp l0 1) w) + ((2 * (P.wl w 2) : Nat) : Int)) (b := (((dy).natAbs : Nat) : Int)) rfl (nI_iI _) dX6_meets_225 rfl ?_
            refine j_icmp_gtZ F (a := dx * (((P.lin (P.lp l0 0) (P.lp l0 1) w).natAbs : Nat) : Int)) (b := ((P.low (P.lp l0 0) (P.lp l0 1) w) + ((2 * (P.wl w 2) : Nat) : Int)) * (((dy).natAbs : Nat) : Int)) rfl rfl (bd_mul hdx (bd_n (show (P.lin (P.lp l0 0) (P.lp l0 1) w).natAbs ≤ 40 by omega))) (bd_mul (bd_add blo (bd_n (show 2 * (P.wl w 2) ≤ 40 by omega))) (bd_n (show (dy).natAbs ≤ 40 by omega))) (by decide) (by decide) (tgt := 233) dX6_meets_226 (by decide) rfl (fun c_226 => ?_) (fun c_226 => ?_)
            · have hz : P.hit (P.lp l0 0) (P.lp l0 1) dx dy w = false := by
                unfold Pl.hit Pl.onB
                rw [hac, hal, hgp, hst]
                rw [decide_eq_false (p := _ ∧ _) (fun q => absurd q.2 (by omega)), Bool.and_false]
              refine j_iconst (v := nI (0)) F dX6_meets_233 rfl (by decide) ?_
              exact j_iret F hRt rfl (⟨by rw [hz]; rfl, ⟨fun a ha => (upR_n _ _ ha).trans (upR_n _ _ ha), fun i h1 h2 => (up_o55 h2).trans (up_o55 h1)⟩, fun q => by rw [hz] at q; cases q⟩) dX6_meets_234
            · have hz : P.hit (P.lp l0 0) (P.lp l0 1) dx dy w = true := by
                unfold Pl.hit Pl.onB
                rw [hac, hal, hgp, hst]
                rw [decide_eq_true (p := _ ∧ _) ⟨by omega, by omega⟩, decide_eq_true (p := ¬ _ = 0) (by omega), decide_eq_true (p := 0 ≤ _) (by omega)]
                rfl
              refine j_iconst (v := nI (1)) F dX6_meets_229 rfl (by decide) ?_
              refine j_goto (pc' := 234) F dX6_meets_230 (by decide) ?_
              exact j_iret F hRt rfl (⟨by rw [hz]; rfl, ⟨fun a ha => (upR_n _ _ ha).trans (upR_n _ _ ha), fun i h1 h2 => (up_o55 h2).trans (up_o55 h1)⟩, fun _ => ⟨(up_o55 (by decide)).trans (up_i55.trans (by rw [hgp, ← nI_iI])), up_i55.trans (by rw [hst, ← nI_iI])⟩⟩) dX6_meets_234
        · refine j_iconst (v := nI (1)) F dX6_meets_111 rfl (by decide) ?_
          refine j_goto (pc' := 116) F dX6_meets_112 (by decide) ?_
          have hz : P.hit (P.lp l0 0) (P.lp l0 1) dx dy w = false := by
            unfold Pl.hit
            have hgn : ¬ 0 ≤ P.gap (P.lp l0 0) (P.lp l0 1) dx dy w := by unfold Pl.gap; rw [hac]; split <;> omega
            rw [decide_eq_false hgn, Bool.and_false]
            rfl
          refine j_icmp_eqN (a := 0) (b := 1) F (by omega) (by omega) (tgt := 121) dX6_meets_116 (by decide) rfl (fun c_116 => False.elim (by revert c_116; decide)) (fun c_116 => ?_)
          refine j_iconst (v := nI (0)) F dX6_meets_119 rfl (by decide) ?_
          exact j_iret F hRt rfl (⟨by rw [hz]; rfl, F27.rf, fun q => by rw [hz] at q; cases q⟩) dX6_meets_120
      · refine j_iconst (v := nI (1)) F dX6_meets_101 rfl (by decide) ?_
        refine j_goto (pc' := 106) F dX6_meets_102 (by decide) ?_
        refine j_iload F dX6_meets_106 rfl rfl ?_
        refine j_if_leZ F (a := dy) rfl hdy (by decide) (tgt := 115) dX6_meets_108 (by decide) rfl (fun c_108 => ?_) (fun c_108 => ?_)
        · refine j_iconst (v := nI (0)) F dX6_meets_115 rfl (by decide) ?_
          have hz : P.hit (P.lp l0 0) (P.lp l0 1) dx dy w = false := by
            unfold Pl.hit
            have hgn : ¬ 0 ≤ P.gap (P.lp l0 0) (P.lp l0 1) dx dy w := by unfold Pl.gap; rw [hac]; split <;> omega
            rw [decide_eq_false hgn, Bool.and_false]
            rfl
          refine j_icmp_eqN (a := 1) (b := 0) F (by omega) (by omega) (tgt := 121) dX6_meets_116 (by decide) rfl (fun c_116 => False.elim (by revert c_116; decide)) (fun c_116 => ?_)
          refine j_iconst (v := nI (0)) F dX6_meets_119 rfl (by decide) ?_
          exact j_iret F hRt rfl (⟨by rw [hz]; rfl, F27.rf, fun q => by rw [hz] at q; cases q⟩) dX6_meets_120
        · refine j_iconst (v := nI (1)) F dX6_meets_111 rfl (by decide) ?_
          refine j_goto (pc' := 116) F dX6_meets_112 (by decide) ?_
          have hgp : P.gap (P.lp l0 0) (P.lp l0 1) dx dy w = ((P.lin (P.lp l0 0) (P.lp l0 1) w).natAbs : Int) := by unfold Pl.gap; rw [hac]; split <;> omega
          have hst : P.stp dx dy w = ((dy).natAbs : Int) := by unfold Pl.stp; rw [hac]
          refine j_icmp_eqN (a := 1) (b := 1) F (by omega) (by omega) (tgt := 121) dX6_meets_116 (by decide) rfl (fun c_116 => ?_) (fun c_116 => False.elim (by revert c_116; decide))
          refine j_aload_n F dX6_meets_121 rfl rfl ?_
          refine j_iload F dX6_meets_122 rfl rfl ?_
          refine kX6_170 F (As := [.int (iI (P.lin (P.lp l0 0) (P.lp l0 1) w))]) (rest := [.ref (X.E.1 + 55)]) (c_X6_size (P.lin (P.lp l0 0) (P.lp l0 1) w) bl (by decide)) (by decide) rfl rfl (Nat.le_of_ble_eq_true rfl) dX6_meets_124 rfl (ro_k ?_)
          refine pX6_186 hn F dX6_meets_127 rfl ?_
          refine j_aload_n F dX6_meets_130 rfl rfl ?_
          refine j_iload F dX6_meets_131 rfl rfl ?_
          refine kX6_170 F (As := [.int (iI (dy))]) (rest := [.ref (X.E.1 + 55)]) (c_X6_size (dy) hdy (by decide)) (by decide) rfl rfl (Nat.le_of_ble_eq_true rfl) dX6_meets_133 rfl (ro_k ?_)
          refine pX6_189 hn F dX6_meets_136 rfl ?_
          have hM2 : MP (up (up σ 55 27 (nI ((P.lin (P.lp l0 0) (P.lp l0 1) w).natAbs))) 55 28 (nI ((dy).natAbs))) P := (F27.fe (σ := σ) (σ' := up (up σ 55 27 (nI ((P.lin (P.lp l0 0) (P.lp l0 1) w).natAbs))) 55 28 (nI ((dy).natAbs))) ⟨fun a ha => (upR_n _ _ ha).trans (upR_n _ _ ha), fun i h1 h2 => (up_o55 h2).trans (up_o55 h1)⟩).mp hM
          refine j_iload F dX6_meets_139 rfl rfl ?_
          refine j_if_eqN (a := 0) F (by omega) (tgt := 166) dX6_meets_141 (by decide) rfl (fun c_141 => ?_) (fun c_141 => False.elim (by revert c_141; decide))
          refine j_iconst (v := nI (2)) F dX6_meets_166 rfl (by decide) ?_
          refine j_aload_n F dX6_meets_167 rfl rfl ?_
          refine j_iload_n F dX6_meets_168 rfl rfl ?_
          refine j_iconst (v := nI (0)) F dX6_meets_169 rfl (by decide) ?_
          refine kX6_138 hn F (As := [.int (nI (w)), .int (nI (0))]) (rest := [.int (nI (2))]) (c_X6_ofWall hn hM2 hBd w 0 (by omega) (by omega)) (by decide) rfl rfl (Nat.le_of_ble_eq_true rfl) dX6_meets_170 rfl (ro_k ?_)
          refine j_imulN (a := 2) (b := P.wl w 0) F dX6_meets_173 rfl ?_
          refine j_iconst (v := nI (2)) F dX6_meets_174 rfl (by decide) ?_
          refine j_aload_n F dX6_meets_175 rfl rfl ?_
          refine j_iload_n F dX6_meets_176 rfl rfl ?_
          refine j_iconst (v := nI (0)) F dX6_meets_177 rfl (by decide) ?_
          refine kX6_70 hn F (As := [.int (nI (l0)), .int (nI (0))]) (rest := [.int (nI (2)), .int (nI (2 * (P.wl w 0)))]) (c_X6_ofLamp hn hM2 hBd l0 0 (by omega) (by omega)) (by decide) rfl rfl (Nat.le_of_ble_eq_true rfl) dX6_meets_178 rfl (ro_k ?_)
          refine j_imulN (a := 2) (b := P.lp l0 0) F dX6_meets_181 rfl ?_
          refine j_isubZ F (a := ((2 * (P.wl w 0) : Nat) : Int)) (b := ((2 * (P.lp l0 0) : Nat) : Int)) (nI_iI _) (nI_iI _) dX6_meets_182 rfl ?_
          refine j_iconst (v := nI (1)) F dX6_meets_183 rfl (by decide) ?_
          refine j_isubZ F (a := ((2 * (P.wl w 0) : Nat) : Int) - ((2 * (P.lp l0 0) : Nat) : Int)) (b := ((1 : Nat) : Int)) rfl (nI_iI _) dX6_meets_184 rfl ?_
          refine j_int (y := iI (P.low (P.lp l0 0) (P.lp l0 1) w)) (by unfold Pl.low; (first | rw [if_pos c_7z] | rw [if_neg c_7z]); congr 1; omega) ?_
          refine j_istore (lv' := [some (.ref (X.E.1 + 55)), some (.int (nI (l0))), some (.int (nI (w))), some (.int (iI (dx))), some (.int (iI (dy))), some (.int (nI (0))), some (.int (iI (P.lin (P.lp l0 0) (P.lp l0 1) w))), some (.int (iI (dy))), some (.int (iI (dx))), some (.int (iI (P.low (P.lp l0 0) (P.lp l0 1) w))), none]) F dX6_meets_185 rfl (hL _ (by decide)) rfl rfl ?_
          refine j_iload F dX6_meets_187 rfl rfl ?_
          refine j_aload_n F dX6_meets_189 rfl rfl ?_
          refine gX6_186 hn F dX6_meets_190 rfl ?_
          refine j_int (y := nI ((P.lin (P.lp l0 0) (P.lp l0 1) w).natAbs)) ((up_o55 (by decide)).trans up_i55) ?_
          refine j_imulZ F (a := dx) (b := (((P.lin (P.lp l0 0) (P.lp l0 1) w).natAbs : Nat) : Int)) rfl (nI_iI _) dX6_meets_193 rfl ?_
          refine j_istore (lv' := [some (.ref (X.E.1 + 55)), some (.int (nI (l0))), some (.int (nI (w))), some (.int (iI (dx))), some (.int (iI (dy))), some (.int (nI (0))), some (.int (iI (P.lin (P.lp l0 0) (P.lp l0 1) w))), some (.int (iI (dy))), some (.int (iI (dx))), some (.int (iI (P.low (P.lp l0 0) (P.lp l0 1) w))), some (.int (iI (dx * (((P.lin (P.lp l0 0) (P.lp l0 1) w).natAbs : Nat) : Int))))]) F dX6_meets_194 rfl (hL _ (by decide)) rfl rfl ?_
          refine j_iload F dX6_meets_196 rfl rfl ?_
          refine j_iload F dX6_meets_198 rfl rfl ?_
          refine j_aload_n F dX6_meets_200 rfl rfl ?_
          refine gX6_189 hn F dX6_meets_201 rfl ?_
          refine j_int (y := nI ((dy).natAbs)) (up_i55) ?_
          refine j_imulZ F (a := P.low (P.lp l0 0) (P.lp l0 1) w) (b := (((dy).natAbs : Nat) : Int)) rfl (nI_iI _) dX6_meets_204 rfl ?_
          refine j_icmp_ltZ F (a := dx * (((P.lin (P.lp l0 0) (P.lp l0 1) w).natAbs : Nat) : Int)) (b := (P.low (P.lp l0 0) (P.lp l0 1) w) * (((dy).natAbs : Nat) : Int)) rfl rfl (bd_mul hdx (bd_n (show (P.lin (P.lp l0 0) (P.lp l0 1) w).natAbs ≤ 40 by omega))) (bd_mul blo (bd_n (show (dy).natAbs ≤ 40 by omega))) (by decide) (by decide) (tgt := 233) dX6_meets_205 (by decide) rfl (fun c_205 => ?_) (fun c_205 => ?_)
          · have hz : P.hit (P.lp l0 0) (P.lp l0 1) dx dy w = false := by
              unfold Pl.hit Pl.onB
              rw [hac, hal, hgp, hst]
              rw [decide_eq_false (p := _ ∧ _) (fun q => absurd q.1 (by omega)), Bool.and_false]
            refine j_iconst (v := nI (0)) F dX6_meets_233 rfl (by decide) ?_
            exact j_iret F hRt rfl (⟨by rw [hz]; rfl, ⟨fun a ha => (upR_n _ _ ha).trans (upR_n _ _ ha), fun i h1 h2 => (up_o55 h2).trans (up_o55 h1)⟩, fun q => by rw [hz] at q; cases q⟩) dX6_meets_234
          · refine j_iload F dX6_meets_208 rfl rfl ?_
            refine j_iload F dX6_meets_210 rfl rfl ?_
            refine j_iconst (v := nI (2)) F dX6_meets_212 rfl (by decide) ?_
            refine j_aload_n F dX6_meets_213 rfl rfl ?_
            refine j_iload_n F dX6_meets_214 rfl rfl ?_
            refine j_iconst (v := nI (2)) F dX6_meets_215 rfl (by decide) ?_
            refine kX6_138 hn F (As := [.int (nI (w)), .int (nI (2))]) (rest := [.int (nI (2)), .int (iI (P.low (P.lp l0 0) (P.lp l0 1) w)), .int (iI (dx * (((P.lin (P.lp l0 0) (P.lp l0 1) w).natAbs : Nat) : Int)))]) (c_X6_ofWall hn hM2 hBd w 2 (by omega) (by omega)) (by decide) rfl rfl (Nat.le_of_ble_eq_true rfl) dX6_meets_216 rfl (ro_k ?_)
            refine j_imulN (a := 2) (b := P.wl w 2) F dX6_meets_219 rfl ?_
            refine j_iaddZ F (a := P.low (P.lp l0 0) (P.lp l0 1) w) (b := ((2 * (P.wl w 2) : Nat) : Int)) rfl (nI_iI _) dX6_meets_220 rfl ?_
            refine j_aload_n F dX6_meets_221 rfl rfl ?_
            refine gX6_189 hn F dX6_meets_222 rfl ?_
            refine j_int (y := nI ((dy).natAbs)) (up_i55) ?_
            refine j_imulZ F (a := (P.low (P.lp l0 0) (P.lp l0 1) w) + ((2 * (P.wl w 2) : Nat) : Int)) (b := (((dy).natAbs : Nat) : Int)) rfl (nI_iI _) dX6_meets_225 rfl ?_
            refine j_icmp_gtZ F (a := dx * (((P.lin (P.lp l0 0) (P.lp l0 1) w).natAbs : Nat) : Int)) (b := ((P.low (P.lp l0 0) (P.lp l0 1) w) + ((2 * (P.wl w 2) : Nat) : Int)) * (((dy).natAbs : Nat) : Int)) rfl rfl (bd_mul hdx (bd_n (show (P.lin (P.lp l0 0) (P.lp l0 1) w).natAbs ≤ 40 by omega))) (bd_mul (bd_add blo (bd_n (show 2 * (P.wl w 2) ≤ 40 by omega))) (bd_n (show (dy).natAbs ≤ 40 by omega))) (by decide) (by decide) (tgt := 233) dX6_meets_226 (by decide) rfl (fun c_226 => ?_) (fun c_226 => ?_)
            · have hz : P.hit (P.lp l0 0) (P.lp l0 1) dx dy w = false := by
                unfold Pl.hit Pl.onB
                rw [hac, hal, hgp, hst]
                rw [decide_eq_false (p := _ ∧ _) (fun q => absurd q.2 (by omega)), Bool.and_false]
              refine j_iconst (v := nI (0)) F dX6_meets_233 rfl (by decide) ?_
              exact j_iret F hRt rfl (⟨by rw [hz]; rfl, ⟨fun a ha => (upR_n _ _ ha).trans (upR_n _ _ ha), fun i h1 h2 => (up_o55 h2).trans (up_o55 h1)⟩, fun q => by rw [hz] at q; cases q⟩) dX6_meets_234
            · have hz : P.hit (P.lp l0 0) (P.lp l0 1) dx dy w = true := by
                unfold Pl.hit Pl.onB
                rw [hac, hal, hgp, hst]
                rw [decide_eq_true (p := _ ∧ _) ⟨by omega, by omega⟩, decide_eq_true (p := ¬ _ = 0) (by omega), decide_eq_true (p := 0 ≤ _) (by omega)]
                rfl
              refine j_iconst (v := nI (1)) F dX6_meets_229 rfl (by decide) ?_
              refine j_goto (pc' := 234) F dX6_meets_230 (by decide) ?_
              exact j_iret F hRt rfl (⟨by rw [hz]; rfl, ⟨fun a ha => (upR_n _ _ ha).trans (upR_n _ _ ha), fun i h1 h2 => (up_o55 h2).trans (up_o55 h1)⟩, fun _ => ⟨(up_o55 (by decide)).trans (up_i55.trans (by rw [hgp, ← nI_iI])), up_i55.trans (by rw [hst, ← nI_iI])⟩⟩) dX6_meets_234
  · have c_7z : P.wl w 3 = 1 := by omega
    have w6z := w6 c_7z
    refine j_iconst (v := nI (1)) F dX6_meets_10 rfl (by decide) ?_
    refine j_goto (pc' := 15) F dX6_meets_11 (by decide) ?_
    refine j_istore (lv' := [some (.ref (X.E.1 + 55)), some (.int (nI (l0))), some (.int (nI (w))), some (.int (iI (dx))), some (.int (iI (dy))), some (.int (nI (1))), none, none, none, none, none]) F dX6_meets_15 rfl (hL _ (by decide)) rfl rfl ?_
    refine j_iload F dX6_meets_17 rfl rfl ?_
    refine j_if_eqN (a := 1) F (by omega) (tgt := 44) dX6_meets_19 (by decide) rfl (fun c_19 => False.elim (by revert c_19; decide)) (fun c_19 => ?_)
    refine j_iconst (v := nI (2)) F dX6_meets_22 rfl (by decide) ?_
    refine j_aload_n F dX6_meets_23 rfl rfl ?_
    refine j_iload_n F dX6_meets_24 rfl rfl ?_
    refine j_iconst (v := nI (0)) F dX6_meets_25 rfl (by decide) ?_
    refine kX6_138 hn F (As := [.int (nI (w)), .int (nI (0))]) (rest := [.int (nI (2))]) (c_X6_ofWall hn hM hBd w 0 (by omega) (by omega)) (by decide) rfl rfl (Nat.le_of_ble_eq_true rfl) dX6_meets_26 rfl (ro_k ?_)
    refine j_imulN (a := 2) (b := P.wl w 0) F dX6_meets_29 rfl ?_
    refine j_iconst (v := nI (2)) F dX6_meets_30 rfl (by decide) ?_
    refine j_aload_n F dX6_meets_31 rfl rfl ?_
    refine j_iload_n F dX6_meets_32 rfl rfl ?_
    refine j_iconst (v := nI (0)) F dX6_meets_33 rfl (by decide) ?_
    refine kX6_70 hn F (As := [.int (nI (l0)), .int (nI (0))]) (rest := [.int (nI (2)), .int (nI (2 * (P.wl w 0)))]) (c_X6_ofLamp hn hM hBd l0 0 (by omega) (by omega)) (by decide) rfl rfl (Nat.le_of_ble_eq_true rfl) dX6_meets_34 rfl (ro_k ?_)
    refine j_imulN (a := 2) (b := P.lp l0 0) F dX6_meets_37 rfl ?_
    refine j_isubZ F (a := ((2 * (P.wl w 0) : Nat) : Int)) (b := ((2 * (P.lp l0 0) : Nat) : Int)) (nI_iI _) (nI_iI _) dX6_meets_38 rfl ?_
    refine j_iconst (v := nI (1)) F dX6_meets_39 rfl (by decide) ?_
    refine j_isubZ F (a := ((2 * (P.wl w 0) : Nat) : Int) - ((2 * (P.lp l0 0) : Nat) : Int)) (b := ((1 : Nat) : Int)) rfl (nI_iI _) dX6_meets_40 rfl ?_
    refine j_int (y := iI (P.lin (P.lp l0 0) (P.lp l0 1) w)) (by unfold Pl.lin; (first | rw [if_pos c_7z] | rw [if_neg c_7z]); congr 1; omega) ?_
    refine j_goto (pc' := 63) F dX6_meets_41 (by decide) ?_
    refine j_istore (lv' := [some (.ref (X.E.1 + 55)), some (.int (nI (l0))), some (.int (nI (w))), some (.int (iI (dx))), some (.int (iI (dy))), some (.int (nI (1))), some (.int (iI (P.lin (P.lp l0 0) (P.lp l0 1) w))), none, none, none, none]) F dX6_meets_63 rfl (hL _ (by decide)) rfl rfl ?_
    refine j_iload F dX6_meets_65 rfl rfl ?_
    refine j_if_eqN (a := 1) F (by omega) (tgt := 74) dX6_meets_67 (by decide) rfl (fun c_67 => False.elim (by revert c_67; decide)) (fun c_67 => ?_)
    refine j_iload_n F dX6_meets_70 rfl rfl ?_
    refine j_goto (pc' := 76) F dX6_meets_71 (by decide) ?_
    refine j_istore (lv' := [some (.ref (X.E.1 + 55)), some (.int (nI (l0))), some (.int (nI (w))), some (.int (iI (dx))), some (.int (iI (dy))), some (.int (nI (1))), some (.int (iI (P.lin (P.lp l0 0) (P.lp l0 1) w))), some (.int (iI (dx))), none, none, none]) F dX6_meets_76 rfl (hL _ (by decide)) rfl rfl ?_
    refine j_iload F dX6_meets_78 rfl rfl ?_
    refine j_if_eqN (a := 1) F (by omega) (tgt := 88) dX6_meets_80 (by decide) rfl (fun c_80 => False.elim (by revert c_80; decide)) (fun c_80 => ?_)
    refine j_iload F dX6_meets_83 rfl rfl ?_
    refine j_goto (pc' := 89) F dX6_meets_85 (by decide) ?_
    refine j_istore (lv' := [some (.ref (X.E.1 + 55)), some (.int (nI (l0))), some (.int (nI (w))), some (.int (iI (dx))), some (.int (iI (dy))), some (.int (nI (1))), some (.int (iI (P.lin (P.lp l0 0) (P.lp l0 1) w))), some (.int (iI (dx))), some (.int (iI (dy))), none, none]) F dX6_meets_89 rfl (hL _ (by decide)) rfl rfl ?_
    have hac : P.acr dx dy w = dx := by unfold Pl.acr; first | rw [if_pos c_7z] | rw [if_neg c_7z]
    have hal : P.alo dx dy w = dy := by unfold Pl.alo; first | rw [if_pos c_7z] | rw [if_neg c_7z]
    have blo : bd (P.low (P.lp l0 0) (P.lp l0 1) w) 20 := by unfold Pl.low; (first | rw [if_pos c_7z] | rw [if_neg c_7z]); exact ⟨by omega, by omega⟩
    refine j_iload F dX6_meets_91 rfl rfl ?_
    refine j_if_eqZ F (a := dx) rfl hdx (by decide) (tgt := 119) dX6_meets_93 (by decide) rfl (fun c_93 => ?_) (fun c_93 => ?_)
    · have hz : P.hit (P.lp l0 0) (P.lp l0 1) dx dy w = false := by
        unfold Pl.hit
        rw [hac, decide_eq_false (fun q => q c_93)]
        rfl
      refine j_iconst (v := nI (0)) F dX6_meets_119 rfl (by decide) ?_
      exact j_iret F hRt rfl (⟨by rw [hz]; rfl, F27.rf, fun q => by rw [hz] at q; cases q⟩) dX6_meets_120
    · refine j_iload F dX6_meets_96 rfl rfl ?_
      refine j_if_leZ F (a := P.lin (P.lp l0 0) (P.lp l0 1) w) rfl bl (by decide) (tgt := 105) dX6_meets_98 (by decide) rfl (fun c_98 => ?_) (fun c_98 => ?_)
      · refine j_iconst (v := nI (0)) F dX6_meets_105 rfl (by decide) ?_
        refine j_iload F dX6_meets_106 rfl rfl ?_
        refine j_if_leZ F (a := dx) rfl hdx (by decide) (tgt := 115) dX6_meets_108 (by decide) rfl (fun c_108 => ?_) (fun c_108 => ?_)
        · refine j_iconst (v := nI (0)) F dX6_meets_115 rfl (by decide) ?_
          have hgp : P.gap (P.lp l0 0) (P.lp l0 1) dx dy w = ((P.lin (P.lp l0 0) (P.lp l0 1) w).natAbs : Int) := by unfold Pl.gap; rw [hac]; split <;> omega
          have hst : P.stp dx dy w = ((dx).natAbs : Int) := by unfold Pl.stp; rw [hac]
          refine j_icmp_eqN (a := 0) (b := 0) F (by omega) (by omega) (tgt := 121) dX6_meets_116 (by decide) rfl (fun c_116 => ?_) (fun c_116 => False.elim (by revert c_116; decide))
          refine j_aload_n F dX6_meets_121 rfl rfl ?_
          refine j_iload F dX6_meets_122 rfl rfl ?_
          refine kX6_170 F (As := [.int (iI (P.lin (P.lp l0 0) (P.lp l0 1) w))]) (rest := [.ref (X.E.1 + 55)]) (c_X6_size (P.lin (P.lp l0 0) (P.lp l0 1) w) bl (by decide)) (by decide) rfl rfl (Nat.le_of_ble_eq_true rfl) dX6_meets_124 rfl (ro_k ?_)
          refine pX6_186 hn F dX6_meets_127 rfl ?_
          refine j_aload_n F dX6_meets_130 rfl rfl ?_
          refine j_iload F dX6_meets_131 rfl rfl ?_
          refine kX6_170 F (As := [.int (iI (dx))]) (rest := [.ref (X.E.1 + 55)]) (c_X6_size (dx) hdx (by decide)) (by decide) rfl rfl (Nat.le_of_ble_eq_true rfl) dX6_meets_133 rfl (ro_k ?_)
          refine pX6_189 hn F dX6_meets_136 rfl ?_
          have hM2 : MP (up (up σ 55 27 (nI ((P.lin (P.lp l0 0) (P.lp l0 1) w).natAbs))) 55 28 (nI ((dx).natAbs))) P := (F27.fe (σ := σ) (σ' := up (up σ 55 27 (nI ((P.lin (P.lp l0 0) (P.lp l0 1) w).natAbs))) 55 28 (nI ((dx).natAbs))) ⟨fun a ha => (upR_n _ _ ha).trans (upR_n _ _ ha), fun i h1 h2 => (up_o55 h2).trans (up_o55 h1)⟩).mp hM
          refine j_iload F dX6_meets_139 rfl rfl ?_
          refine j_if_eqN (a := 1) F (by omega) (tgt := 166) dX6_meets_141 (by decide) rfl (fun c_141 => False.elim (by revert c_141; decide)) (fun c_141 => ?_)
          refine j_iconst (v := nI (2)) F dX6_meets_144 rfl (by decide) ?_
          refine j_aload_n F dX6_meets_145 rfl rfl ?_
          refine j_iload_n F dX6_meets_146 rfl rfl ?_
          refine j_iconst (v := nI (1)) F dX6_meets_147 rfl (by decide) ?_
          refine kX6_138 hn F (As := [.int (nI (w)), .int (nI (1))]) (rest := [.int (nI (2))]) (c_X6_ofWall hn hM2 hBd w 1 (by omega) (by omega)) (by decide) rfl rfl (Nat.le_of_ble_eq_true rfl) dX6_meets_148 rfl (ro_k ?_)
          refine j_imulN (a := 2) (b := P.wl w 1) F dX6_meets_151 rfl ?_
          refine j_iconst (v := nI (2)) F dX6_meets_152 rfl (by decide) ?_
          refine j_aload_n F dX6_meets_153 rfl rfl ?_
          refine j_iload_n F dX6_meets_154 rfl rfl ?_
          refine j_iconst (v := nI (1)) F dX6_meets_155 rfl (by decide) ?_
          refine kX6_70 hn F (As := [.int (nI (l0)), .int (nI (1))]) (rest := [.int (nI (2)), .int (nI (2 * (P.wl w 1)))]) (c_X6_ofLamp hn hM2 hBd l0 1 (by omega) (by omega)) (by decide) rfl rfl (Nat.le_of_ble_eq_true rfl) dX6_meets_156 rfl (ro_k ?_)
          refine j_imulN (a := 2) (b := P.lp l0 1) F dX6_meets_159 rfl ?_
          refine j_isubZ F (a := ((2 * (P.wl w 1) : Nat) : Int)) (b := ((2 * (P.lp l0 1) : Nat) : Int)) (nI_iI _) (nI_iI _) dX6_meets_160 rfl ?_
          refine j_iconst (v := nI (1)) F dX6_meets_161 rfl (by decide) ?_
          refine j_isubZ F (a := ((2 * (P.wl w 1) : Nat) : Int) - ((2 * (P.lp l0 1) : Nat) : Int)) (b := ((1 : Nat) : Int)) rfl (nI_iI _) dX6_meets_162 rfl ?_
          refine j_int (y := iI (P.low (P.lp l0 0) (P.lp l0 1) w)) (by unfold Pl.low; (first | rw [if_pos c_7z] | rw [if_neg c_7z]); congr 1; omega) ?_
          refine j_goto (pc' := 185) F dX6_meets_163 (by decide) ?_
          refine j_istore (lv' := [some (.ref (X.E.1 + 55)), some (.int (nI (l0))), some (.int (nI (w))), some (.int (iI (dx))), some (.int (iI (dy))), some (.int (nI (1))), some (.int (iI (P.lin (P.lp l0 0) (P.lp l0 1) w))), some (.int (iI (dx))), some (.int (iI (dy))), some (.int (iI (P.low (P.lp l0 0) (P.lp l0 1) w))), none]) F dX6_meets_185 rfl (hL _ (by decide)) rfl rfl ?_
          refine j_iload F dX6_meets_187 rfl rfl ?_
          refine j_aload_n F dX6_meets_189 rfl rfl ?_
          refine gX6_186 hn F dX6_meets_190 rfl ?_
          refine j_int (y := nI ((P.lin (P.lp l0 0) (P.lp l0 1) w).natAbs)) ((up_o55 (by decide)).trans up_i55) ?_
          refine j_imulZ F (a := dy) (b := (((P.lin (P.lp l0 0) (P.lp l0 1) w).natAbs : Nat) : Int)) rfl (nI_iI _) dX6_meets_193 rfl ?_
          refine j_istore (lv' := [some (.ref (X.E.1 + 55)), some (.int (nI (l0))), some (.int (nI (w))), some (.int (iI (dx))), some (.int (iI (dy))), some (.int (nI (1))), some (.int (iI (P.lin (P.lp l0 0) (P.lp l0 1) w))), some (.int (iI (dx))), some (.int (iI (dy))), some (.int (iI (P.low (P.lp l0 0) (P.lp l0 1) w))), some (.int (iI (dy * (((P.lin (P.lp l0 0) (P.lp l0 1) w).natAbs : Nat) : Int))))]) F dX6_meets_194 rfl (hL _ (by decide)) rfl rfl ?_
          refine j_iload F dX6_meets_196 rfl rfl ?_
          refine j_iload F dX6_meets_198 rfl rfl ?_
          refine j_aload_n F dX6_meets_200 rfl rfl ?_
          refine gX6_189 hn F dX6_meets_201 rfl ?_
          refine j_int (y := nI ((dx).natAbs)) (up_i55) ?_
          refine j_imulZ F (a := P.low (P.lp l0 0) (P.lp l0 1) w) (b := (((dx).natAbs : Nat) : Int)) rfl (nI_iI _) dX6_meets_204 rfl ?_
          refine j_icmp_ltZ F (a := dy * (((P.lin (P.lp l0 0) (P.lp l0 1) w).natAbs : Nat) : Int)) (b := (P.low (P.lp l0 0) (P.lp l0 1) w) * (((dx).natAbs : Nat) : Int)) rfl rfl (bd_mul hdy (bd_n (show (P.lin (P.lp l0 0) (P.lp l0 1) w).natAbs ≤ 40 by omega))) (bd_mul blo (bd_n (show (dx).natAbs ≤ 40 by omega))) (by decide) (by decide) (tgt := 233) dX6_meets_205 (by decide) rfl (fun c_205 => ?_) (fun c_205 => ?_)
          · have hz : P.hit (P.lp l0 0) (P.lp l0 1) dx dy w = false := by
              unfold Pl.hit Pl.onB
              rw [hac, hal, hgp, hst]
              rw [decide_eq_false (p := _ ∧ _) (fun q => absurd q.1 (by omega)), Bool.and_false]
            refine j_iconst (v := nI (0)) F dX6_meets_233 rfl (by decide) ?_
            exact j_iret F hRt rfl (⟨by rw [hz]; rfl, ⟨fun a ha => (upR_n _ _ ha).trans (upR_n _ _ ha), fun i h1 h2 => (up_o55 h2).trans (up_o55 h1)⟩, fun q => by rw [hz] at q; cases q⟩) dX6_meets_234
          · refine j_iload F dX6_meets_208 rfl rfl ?_
            refine j_iload F dX6_meets_210 rfl rfl ?_
            refine j_iconst (v := nI (2)) F dX6_meets_212 rfl (by decide) ?_
            refine j_aload_n F dX6_meets_213 rfl rfl ?_
            refine j_iload_n F dX6_meets_214 rfl rfl ?_
            refine j_iconst (v := nI (2)) F dX6_meets_215 rfl (by decide) ?_
            refine kX6_138 hn F (As := [.int (nI (w)), .int (nI (2))]) (rest := [.int (nI (2)), .int (iI (P.low (P.lp l0 0) (P.lp l0 1) w)), .int (iI (dy * (((P.lin (P.lp l0 0) (P.lp l0 1) w).natAbs : Nat) : Int)))]) (c_X6_ofWall hn hM2 hBd w 2 (by omega) (by omega)) (by decide) rfl rfl (Nat.le_of_ble_eq_true rfl) dX6_meets_216 rfl (ro_k ?_)
            refine j_imulN (a := 2) (b := P.wl w 2) F dX6_meets_219 rfl ?_
            refine j_iaddZ F (a := P.low (P.lp l0 0) (P.lp l0 1) w) (b := ((2 * (P.wl w 2) : Nat) : Int)) rfl (nI_iI _) dX6_meets_220 rfl ?_
            refine j_aload_n F dX6_meets_221 rfl rfl ?_
            refine gX6_189 hn F dX6_meets_222 rfl ?_
            refine j_int (y := nI ((dx).natAbs)) (up_i55) ?_
            refine j_imulZ F (a := (P.low (P.lp l0 0) (P.lp l0 1) w) + ((2 * (P.wl w 2) : Nat) : Int)) (b := (((dx).natAbs : Nat) : Int)) rfl (nI_iI _) dX6_meets_225 rfl ?_
            refine j_icmp_gtZ F (a := dy * (((P.lin (P.lp l0 0) (P.lp l0 1) w).natAbs : Nat) : Int)) (b := ((P.low (P.lp l0 0) (P.lp l0 1) w) + ((2 * (P.wl w 2) : Nat) : Int)) * (((dx).natAbs : Nat) : Int)) rfl rfl (bd_mul hdy (bd_n (show (P.lin (P.lp l0 0) (P.lp l0 1) w).natAbs ≤ 40 by omega))) (bd_mul (bd_add blo (bd_n (show 2 * (P.wl w 2) ≤ 40 by omega))) (bd_n (show (dx).natAbs ≤ 40 by omega))) (by decide) (by decide) (tgt := 233) dX6_meets_226 (by decide) rfl (fun c_226 => ?_) (fun c_226 => ?_)
            · have hz : P.hit (P.lp l0 0) (P.lp l0 1) dx dy w = false := by
                unfold Pl.hit Pl.onB
                rw [hac, hal, hgp, hst]
                rw [decide_eq_false (p := _ ∧ _) (fun q => absurd q.2 (by omega)), Bool.and_false]
              refine j_iconst (v := nI (0)) F dX6_meets_233 rfl (by decide) ?_
              exact j_iret F hRt rfl (⟨by rw [hz]; rfl, ⟨fun a ha => (upR_n _ _ ha).trans (upR_n _ _ ha), fun i h1 h2 => (up_o55 h2).trans (up_o55 h1)⟩, fun q => by rw [hz] at q; cases q⟩) dX6_meets_234
            · have hz : P.hit (P.lp l0 0) (P.lp l0 1) dx dy w = true := by
                unfold Pl.hit Pl.onB
                rw [hac, hal, hgp, hst]
                rw [decide_eq_true (p := _ ∧ _) ⟨by omega, by omega⟩, decide_eq_true (p := ¬ _ = 0) (by omega), decide_eq_true (p := 0 ≤ _) (by omega)]
                rfl
              refine j_iconst (v := nI (1)) F dX6_meets_229 rfl (by decide) ?_
              refine j_goto (pc' := 234) F dX6_meets_230 (by decide) ?_
              exact j_iret F hRt rfl (⟨by rw [hz]; rfl, ⟨fun a ha => (upR_n _ _ ha).trans (upR_n _ _ ha), fun i h1 h2 => (up_o55 h2).trans (up_o55 h1)⟩, fun _ => ⟨(up_o55 (by decide)).trans (up_i55.trans (by rw [hgp, ← nI_iI])), up_i55.trans (by rw [hst, ← nI_iI])⟩⟩) dX6_meets_234
        · refine j_iconst (v := nI (1)) F dX6_meets_111 rfl (by decide) ?_
          refine j_goto (pc' := 116) F dX6_meets_112 (by decide) ?_
          have hz : P.hit (P.lp l0 0) (P.lp l0 1) dx dy w = false := by
            unfold Pl.hit
            have hgn : ¬ 0 ≤ P.gap (P.lp l0 0) (P.lp l0 1) dx dy w := by unfold Pl.gap; rw [hac]; split <;> omega
            rw [decide_eq_false hgn, Bool.and_false]
            rfl
          refine j_icmp_eqN (a := 0) (b := 1) F (by omega) (by omega) (tgt := 121) dX6_meets_116 (by decide) rfl (fun c_116 => False.elim (by revert c_116; decide)) (fun c_116 => ?_)
          refine j_iconst (v := nI (0)) F dX6_meets_119 rfl (by decide) ?_
          exact j_iret F hRt rfl (⟨by rw [hz]; rfl, F27.rf, fun q => by rw [hz] at q; cases q⟩) dX6_meets_120
      · refine j_iconst (v := nI (1)) F dX6_meets_101 rfl (by decide) ?_
        refine j_goto (pc' := 106) F dX6_meets_102 (by decide) ?_
        refine j_iload F dX6_meets_106 rfl rfl ?_
        refine j_if_leZ F (a := dx) rfl hdx (by decide) (tgt := 115) dX6_meets_108 (by decide) rfl (fun c_108 => ?_) (fun c_108 => ?_)
        · refine j_iconst (v := nI (0)) F dX6_meets_115 rfl (by decide) ?_
          have hz : P.hit (P.lp l0 0) (P.lp l0 1) dx dy w = false := by
            unfold Pl.hit
            have hgn : ¬ 0 ≤ P.gap (P.lp l0 0) (P.lp l0 1) dx dy w := by unfold Pl.gap; rw [hac]; split <;> omega
            rw [decide_eq_false hgn, Bool.and_false]
            rfl
          refine j_icmp_eqN (a := 1) (b := 0) F (by omega) (by omega) (tgt := 121) dX6_meets_116 (by decide) rfl (fun c_116 => False.elim (by revert c_116; decide)) (fun c_116 => ?_)
          refine j_iconst (v := nI (0)) F dX6_meets_119 rfl (by decide) ?_
          exact j_iret F hRt rfl (⟨by rw [hz]; rfl, F27.rf, fun q => by rw [hz] at q; cases q⟩) dX6_meets_120
        · refine j_iconst (v := nI (1)) F dX6_meets_111 rfl (by decide) ?_
          refine j_goto (pc' := 116) F dX6_meets_112 (by decide) ?_
          have hgp : P.gap (P.lp l0 0) (P.lp l0 1) dx dy w = ((P.lin (P.lp l0 0) (P.lp l0 1) w).natAbs : Int) := by unfold Pl.gap; rw [hac]; split <;> omega
          have hst : P.stp dx dy w = ((dx).natAbs : Int) := by unfold Pl.stp; rw [hac]
          refine j_icmp_eqN (a := 1) (b := 1) F (by omega) (by omega) (tgt := 121) dX6_meets_116 (by decide) rfl (fun c_116 => ?_) (fun c_116 => False.elim (by revert c_116; decide))
          refine j_aload_n F dX6_meets_121 rfl rfl ?_
          refine j_iload F dX6_meets_122 rfl rfl ?_
          refine kX6_170 F (As := [.int (iI (P.lin (P.lp l0 0) (P.lp l0 1) w))]) (rest := [.ref (X.E.1 + 55)]) (c_X6_size (P.lin (P.lp l0 0) (P.lp l0 1) w) bl (by decide)) (by decide) rfl rfl (Nat.le_of_ble_eq_true rfl) dX6_meets_124 rfl (ro_k ?_)
          refine pX6_186 hn F dX6_meets_127 rfl ?_
          refine j_aload_n F dX6_meets_130 rfl rfl ?_
          refine j_iload F dX6_meets_131 rfl rfl ?_
          refine kX6_170 F (As := [.int (iI (dx))]) (rest := [.ref (X.E.1 + 55)]) (c_X6_size (dx) hdx (by decide)) (by decide) rfl rfl (Nat.le_of_ble_eq_true rfl) dX6_meets_133 rfl (ro_k ?_)
          refine pX6_189 hn F dX6_meets_136 rfl ?_
          have hM2 : MP (up (up σ 55 27 (nI ((P.lin (P.lp l0 0) (P.lp l0 1) w).natAbs))) 55 28 (nI ((dx).natAbs))) P := (F27.fe (σ := σ) (σ' := up (up σ 55 27 (nI ((P.lin (P.lp l0 0) (P.lp l0 1) w).natAbs))) 55 28 (nI ((dx).natAbs))) ⟨fun a ha => (upR_n _ _ ha).trans (upR_n _ _ ha), fun i h1 h2 => (up_o55 h2).trans (up_o55 h1)⟩).mp hM
          refine j_iload F dX6_meets_139 rfl rfl ?_
          refine j_if_eqN (a := 1) F (by omega) (tgt := 166) dX6_meets_141 (by decide) rfl (fun c_141 => False.elim (by revert c_141; decide)) (fun c_141 => ?_)
          refine j_iconst (v := nI (2)) F dX6_meets_144 rfl (by decide) ?_
          refine j_aload_n F dX6_meets_145 rfl rfl ?_
          refine j_iload_n F dX6_meets_146 rfl rfl ?_
          refine j_iconst (v := nI (1)) F dX6_meets_147 rfl (by decide) ?_
          refine kX6_138 hn F (As := [.int (nI (w)), .int (nI (1))]) (rest := [.int (nI (2))]) (c_X6_ofWall hn hM2 hBd w 1 (by omega) (by omega)) (by decide) rfl rfl (Nat.le_of_ble_eq_true rfl) dX6_meets_148 rfl (ro_k ?_)
          refine j_imulN (a := 2) (b := P.wl w 1) F dX6_meets_151 rfl ?_
          refine j_iconst (v := nI (2)) F dX6_meets_152 rfl (by decide) ?_
          refine j_aload_n F dX6_meets_153 rfl rfl ?_
          refine j_iload_n F dX6_meets_154 rfl rfl ?_
          refine j_iconst (v := nI (1)) F dX6_meets_155 rfl (by decide) ?_
          refine kX6_70 hn F (As := [.int (nI (l0)), .int (nI (1))]) (rest := [.int (nI (2)), .int (nI (2 * (P.wl w 1)))]) (c_X6_ofLamp hn hM2 hBd l0 1 (by omega) (by omega)) (by decide) rfl rfl (Nat.le_of_ble_eq_true rfl) dX6_meets_156 rfl (ro_k ?_)
          refine j_imulN (a := 2) (b := P.lp l0 1) F dX6_meets_159 rfl ?_
          refine j_isubZ F (a := ((2 * (P.wl w 1) : Nat) : Int)) (b := ((2 * (P.lp l0 1) : Nat) : Int)) (nI_iI _) (nI_iI _) dX6_meets_160 rfl ?_
          refine j_iconst (v := nI (1)) F dX6_meets_161 rfl (by decide) ?_
          refine j_isubZ F (a := ((2 * (P.wl w 1) : Nat) : Int) - ((2 * (P.lp l0 1) : Nat) : Int)) (b := ((1 : Nat) : Int)) rfl (nI_iI _) dX6_meets_162 rfl ?_
          refine j_int (y := iI (P.low (P.lp l0 0) (P.lp l0 1) w)) (by unfold Pl.low; (first | rw [if_pos c_7z] | rw [if_neg c_7z]); congr 1; omega) ?_
          refine j_goto (pc' := 185) F dX6_meets_163 (by decide) ?_
          refine j_istore (lv' := [some (.ref (X.E.1 + 55)), some (.int (nI (l0))), some (.int (nI (w))), some (.int (iI (dx))), some (.int (iI (dy))), some (.int (nI (1))), some (.int (iI (P.lin (P.lp l0 0) (P.lp l0 1) w))), some (.int (iI (dx))), some (.int (iI (dy))), some (.int (iI (P.low (P.lp l0 0) (P.lp l0 1) w))), none]) F dX6_meets_185 rfl (hL _ (by decide)) rfl rfl ?_
          refine j_iload F dX6_meets_187 rfl rfl ?_
          refine j_aload_n F dX6_meets_189 rfl rfl ?_
          refine gX6_186 hn F dX6_meets_190 rfl ?_
          refine j_int (y := nI ((P.lin (P.lp l0 0) (P.lp l0 1) w).natAbs)) ((up_o55 (by decide)).trans up_i55) ?_
          refine j_imulZ F (a := dy) (b := (((P.lin (P.lp l0 0) (P.lp l0 1) w).natAbs : Nat) : Int)) rfl (nI_iI _) dX6_meets_193 rfl ?_
          refine j_istore (lv' := [some (.ref (X.E.1 + 55)), some (.int (nI (l0))), some (.int (nI (w))), some (.int (iI (dx))), some (.int (iI (dy))), some (.int (nI (1))), some (.int (iI (P.lin (P.lp l0 0) (P.lp l0 1) w))), some (.int (iI (dx))), some (.int (iI (dy))), some (.int (iI (P.low (P.lp l0 0) (P.lp l0 1) w))), some (.int (iI (dy * (((P.lin (P.lp l0 0) (P.lp l0 1) w).natAbs : Nat) : Int))))]) F dX6_meets_194 rfl (hL _ (by decide)) rfl rfl ?_
          refine j_iload F dX6_meets_196 rfl rfl ?_
          refine j_iload F dX6_meets_198 rfl rfl ?_
          refine j_aload_n F dX6_meets_200 rfl rfl ?_
          refine gX6_189 hn F dX6_meets_201 rfl ?_
          refine j_int (y := nI ((dx).natAbs)) (up_i55) ?_
          refine j_imulZ F (a := P.low (P.lp l0 0) (P.lp l0 1) w) (b := (((dx).natAbs : Nat) : Int)) rfl (nI_iI _) dX6_meets_204 rfl ?_
          refine j_icmp_ltZ F (a := dy * (((P.lin (P.lp l0 0) (P.lp l0 1) w).natAbs : Nat) : Int)) (b := (P.low (P.lp l0 0) (P.lp l0 1) w) * (((dx).natAbs : Nat) : Int)) rfl rfl (bd_mul hdy (bd_n (show (P.lin (P.lp l0 0) (P.lp l0 1) w).natAbs ≤ 40 by omega))) (bd_mul blo (bd_n (show (dx).natAbs ≤ 40 by omega))) (by decide) (by decide) (tgt := 233) dX6_meets_205 (by decide) rfl (fun c_205 => ?_) (fun c_205 => ?_)
          · have hz : P.hit (P.lp l0 0) (P.lp l0 1) dx dy w = false := by
              unfold Pl.hit Pl.onB
              rw [hac, hal, hgp, hst]
              rw [decide_eq_false (p := _ ∧ _) (fun q => absurd q.1 (by omega)), Bool.and_false]
            refine j_iconst (v := nI (0)) F dX6_meets_233 rfl (by decide) ?_
            exact j_iret F hRt rfl (⟨by rw [hz]; rfl, ⟨fun a ha => (upR_n _ _ ha).trans (upR_n _ _ ha), fun i h1 h2 => (up_o55 h2).trans (up_o55 h1)⟩, fun q => by rw [hz] at q; cases q⟩) dX6_meets_234
          · refine j_iload F dX6_meets_208 rfl rfl ?_
            refine j_iload F dX6_meets_210 rfl rfl ?_
            refine j_iconst (v := nI (2)) F dX6_meets_212 rfl (by decide) ?_
            refine j_aload_n F dX6_meets_213 rfl rfl ?_
            refine j_iload_n F dX6_meets_214 rfl rfl ?_
            refine j_iconst (v := nI (2)) F dX6_meets_215 rfl (by decide) ?_
            refine kX6_138 hn F (As := [.int (nI (w)), .int (nI (2))]) (rest := [.int (nI (2)), .int (iI (P.low (P.lp l0 0) (P.lp l0 1) w)), .int (iI (dy * (((P.lin (P.lp l0 0) (P.lp l0 1) w).natAbs : Nat) : Int)))]) (c_X6_ofWall hn hM2 hBd w 2 (by omega) (by omega)) (by decide) rfl rfl (Nat.le_of_ble_eq_true rfl) dX6_meets_216 rfl (ro_k ?_)
            refine j_imulN (a := 2) (b := P.wl w 2) F dX6_meets_219 rfl ?_
            refine j_iaddZ F (a := P.low (P.lp l0 0) (P.lp l0 1) w) (b := ((2 * (P.wl w 2) : Nat) : Int)) rfl (nI_iI _) dX6_meets_220 rfl ?_
            refine j_aload_n F dX6_meets_221 rfl rfl ?_
            refine gX6_189 hn F dX6_meets_222 rfl ?_
            refine j_int (y := nI ((dx).natAbs)) (up_i55) ?_
            refine j_imulZ F (a := (P.low (P.lp l0 0) (P.lp l0 1) w) + ((2 * (P.wl w 2) : Nat) : Int)) (b := (((dx).natAbs : Nat) : Int)) rfl (nI_iI _) dX6_meets_225 rfl ?_
            refine j_icmp_gtZ F (a := dy * (((P.lin (P.lp l0 0) (P.lp l0 1) w).natAbs : Nat) : Int)) (b := ((P.low (P.lp l0 0) (P.lp l0 1) w) + ((2 * (P.wl w 2) : Nat) : Int)) * (((dx).natAbs : Nat) : Int)) rfl rfl (bd_mul hdy (bd_n (show (P.lin (P.lp l0 0) (P.lp l0 1) w).natAbs ≤ 40 by omega))) (bd_mul (bd_add blo (bd_n (show 2 * (P.wl w 2) ≤ 40 by omega))) (bd_n (show (dx).natAbs ≤ 40 by omega))) (by decide) (by decide) (tgt := 233) dX6_meets_226 (by decide) rfl (fun c_226 => ?_) (fun c_226 => ?_)
            · have hz : P.hit (P.lp l0 0) (P.lp l0 1) dx dy w = false := by
                unfold Pl.hit Pl.onB
                rw [hac, hal, hgp, hst]
                rw [decide_eq_false (p := _ ∧ _) (fun q => absurd q.2 (by omega)), Bool.and_false]
              refine j_iconst (v := nI (0)) F dX6_meets_233 rfl (by decide) ?_
              exact j_iret F hRt rfl (⟨by rw [hz]; rfl, ⟨fun a ha => (upR_n _ _ ha).trans (upR_n _ _ ha), fun i h1 h2 => (up_o55 h2).trans (up_o55 h1)⟩, fun q => by rw [hz] at q; cases q⟩) dX6_meets_234
            · have hz : P.hit (P.lp l0 0) (P.lp l0 1) dx dy w = true := by
                unfold Pl.hit Pl.onB
                rw [hac, hal, hgp, hst]
                rw [decide_eq_true (p := _ ∧ _) ⟨by omega, by omega⟩, decide_eq_true (p := ¬ _ = 0) (by omega), decide_eq_true (p := 0 ≤ _) (by omega)]
                rfl
              refine j_iconst (v := nI (1)) F dX6_meets_229 rfl (by decide) ?_
              refine j_goto (pc' := 234) F dX6_meets_230 (by decide) ?_
              exact j_iret F hRt rfl (⟨by rw [hz]; rfl, ⟨fun a ha => (upR_n _ _ ha).trans (upR_n _ _ ha), fun i h1 h2 => (up_o55 h2).trans (up_o55 h1)⟩, fun _ => ⟨(up_o55 (by decide)).trans (up_i55.trans (by rw [hgp, ← nI_iI])), up_i55.trans (by rw [hst, ← nI_iI])⟩⟩) dX6_meets_234

set_option maxRecDepth 10000 in
set_option maxHeartbeats 2000000 in
theorem c_X6_firstWall {l : Launch} {n : Nat} {E : Ev} {σ : St} {P : Pl} (hn : 69 ≤ n) (hM : MP σ P) (hBd : PB P) (hWl : ∀ w, w < P.nw → WallOK P w) (hLm : ∀ l, l < P.nl → LampOK P l) (l0 : Nat) (hl : l0 < P.nl) (dx dy : Int) (hdx : bd dx 40) (hdy : bd dy 40) : Ct l yX6_firstWall cX6_firstWall 8 (some .int) 2 n E [.ref (E.1 + 55), .int (nI (l0)), .int (iI (dx)), .int (iI (dy))] σ (fun v' σ' => v' = some (.int (fwR (P.fw (P.lp l0 0) (P.lp l0 1) dx dy P.nw))) ∧ F27 σ σ') := by
  refine Ct.of (lv0 := [some (.ref (E.1 + 55)), some (.int (nI (l0))), some (.int (iI (dx))), some (.int (iI (dy))), none, none, none, none]) (by decide) (Nat.le_of_ble_eq_true rfl) rfl ?_
  intro X hXn hXE hXl hXL F hRt
  subst hXn hXE hXl
  have hL : ∀ i, i < 8 → i < X.nL := fun i h => by rw [hXL]; exact h
  have hB0 := hBd
  obtain ⟨b1, b2, b3, b4, b5, b6, b7⟩ := hB0
  have hlo := hLm l0 hl
  unfold LampOK at hlo
  refine j_bipush (v := (-9 : Int32)) F dX6_firstWall_0 rfl (by decide) ?_
  refine j_istore (lv' := [some (.ref (X.E.1 + 55)), some (.int (nI (l0))), some (.int (iI (dx))), some (.int (iI (dy))), some (.int ((-9 : Int32))), none, none, none]) F dX6_firstWall_2 rfl (hL _ (by decide)) rfl rfl ?_
  refine j_iconst (v := nI (0)) F dX6_firstWall_4 rfl (by decide) ?_
  refine j_istore (lv' := [some (.ref (X.E.1 + 55)), some (.int (nI (l0))), some (.int (iI (dx))), some (.int (iI (dy))), some (.int ((-9 : Int32))), some (.int (nI (0))), none, none]) F dX6_firstWall_5 rfl (hL _ (by decide)) rfl rfl ?_
  refine j_iconst (v := nI (1)) F dX6_firstWall_7 rfl (by decide) ?_
  refine j_istore (lv' := [some (.ref (X.E.1 + 55)), some (.int (nI (l0))), some (.int (iI (dx))), some (.int (iI (dy))), some (.int ((-9 : Int32))), some (.int (nI (0))), some (.int (nI (1))), none]) F dX6_firstWall_8 rfl (hL _ (by decide)) rfl rfl ?_
  refine j_iconst (v := nI (0)) F dX6_firstWall_10 rfl (by decide) ?_
  refine j_istore (lv' := [some (.ref (X.E.1 + 55)), some (.int (nI (l0))), some (.int (iI (dx))), some (.int (iI (dy))), some (.int ((-9 : Int32))), some (.int (nI (0))), some (.int (nI (1))), some (.int (nI (0)))]) F dX6_firstWall_11 rfl (hL _ (by decide)) rfl rfl ?_
  have loop_13 : ∀ (ii : Nat), ii ≤ P.nw → ∀ (τ : St) (L4 : Int32) (L5 : Int32) (L6 : Int32), (F27 σ τ) → (fwI P (P.lp l0 0) (P.lp l0 1) dx dy ii L4 L5 L6) → J X 13 [some (.ref (X.E.1 + 55)), some (.int (nI (l0))), some (.int (iI (dx))), some (.int (iI (dy))), some (.int (L4)), some (.int (L5)), some (.int (L6)), some (.int (nI (ii)))] [] τ := by
    refine dnL (fun ii hii ih_13 => ?_)
    intro τ L4 L5 L6 hτF hI
    have hMt := hτF.fe.mp hM
    refine j_iload F dX6_firstWall_13 rfl rfl ?_
    refine j_aload_n F dX6_firstWall_15 rfl rfl ?_
    refine gX6_7 hn F dX6_firstWall_16 rfl ?_
    refine j_iconst (v := nI (1)) F dX6_firstWall_19 rfl (by decide) ?_
    refine j_iaload (a := 1) F (by omega) rfl rfl (by omega) (by decide) dX6_firstWall_20 rfl ?_
    refine j_int (y := nI (P.nw)) (hMt.nw) ?_
    refine j_icmp_geN (a := ii) (b := P.nw) F (by omega) (by omega) (tgt := 82) dX6_firstWall_21 (by decide) rfl (fun c_21 => ?_) (fun c_21 => ?_)
    · have hiN : ii = P.nw := by omega
      refine j_iload F dX6_firstWall_82 rfl rfl ?_
      exact j_iret F hRt rfl (⟨by rw [fwI_end hI, hiN], hτF⟩) dX6_firstWall_84
    · refine j_aload_n F dX6_firstWall_24 rfl rfl ?_
      refine j_iload_n F dX6_firstWall_25 rfl rfl ?_
      refine j_iload F dX6_firstWall_26 rfl rfl ?_
      refine j_iload_n F dX6_firstWall_28 rfl rfl ?_
      refine j_iload_n F dX6_firstWall_29 rfl rfl ?_
      refine kX6_192 hn F (As := [.int (nI (l0)), .int (nI (ii)), .int (iI (dx)), .int (iI (dy))]) (rest := []) (c_X6_meets hn hMt hBd hWl hLm l0 ii hl (by omega) dx dy hdx hdy) (by decide) rfl rfl (Nat.le_of_ble_eq_true rfl) dX6_firstWall_30 rfl (fun v_30 σ_30 q_30 => ?_)
      obtain ⟨rfl, f_30, m_30⟩ := q_30
      have b1g : bd (P.gap (P.lp l0 0) (P.lp l0 1) dx dy ii) 80 := by have z := bd_lin2 (lx := P.lp l0 0) (ly := P.lp l0 1) hBd hWl (by omega) (by omega) c_21; unfold Pl.gap; split; exact bd_mono (bd_neg z) (by decide); exact bd_mono z (by decide)
      have b2s : bd (P.stp dx dy ii) 80 := by unfold Pl.stp Pl.acr; split; exact bd_mono (bd_abs hdx) (by decide); exact bd_mono (bd_abs hdy) (by decide)
      refine j_if_eqB F (x := P.hit (P.lp l0 0) (P.lp l0 1) dx dy ii) (tgt := 76) dX6_firstWall_33 (by decide) rfl (fun c_33 => ?_) (fun c_33 => ?_)
      · have hnext : fwI P (P.lp l0 0) (P.lp l0 1) dx dy (ii + 1) L4 L5 L6 := fwI_no hI c_33
        refine j_iincN (a := ii) (c := 1) (lv' := [some (.ref (X.E.1 + 55)), some (.int (nI (l0))), some (.int (iI (dx))), some (.int (iI (dy))), some (.int (L4)), some (.int (L5)), some (.int (L6)), some (.int (nI (ii + 1)))]) F dX6_firstWall_76 rfl rfl (by decide) (hL _ (by decide)) rfl rfl ?_
        refine j_goto (pc' := 13) F dX6_firstWall_79 (by decide) ?_
        exact ih_13 (by omega) σ_30 L4 L5 L6 (hτF.tr f_30) hnext
      · obtain ⟨m27, m28⟩ := m_30 c_33
        refine j_iload F dX6_firstWall_36 rfl rfl ?_
        refine j_bipush (v := (-9 : Int32)) F dX6_firstWall_38 rfl (by decide) ?_
        refine j_icmp_eq F (tgt := 60) dX6_firstWall_40 (by decide) rfl (fun c_40 => ?_) (fun c_40 => ?_)
        · have hnext : fwI P (P.lp l0 0) (P.lp l0 1) dx dy (ii + 1) (nI ii) (iI (P.gap (P.lp l0 0) (P.lp l0 1) dx dy ii)) (iI (P.stp dx dy ii)) := fwI_new hI c_40 (by omega) c_33 b1g b2s
          refine j_iload F dX6_firstWall_60 rfl rfl ?_
          refine j_istore (lv' := [some (.ref (X.E.1 + 55)), some (.int (nI (l0))), some (.int (iI (dx))), some (.int (iI (dy))), some (.int (nI (ii))), some (.int (L5)), some (.int (L6)), some (.int (nI (ii)))]) F dX6_firstWall_62 rfl (hL _ (by decide)) rfl rfl ?_
          refine j_aload_n F dX6_firstWall_64 rfl rfl ?_
          refine gX6_186 hn F dX6_firstWall_65 rfl ?_
          refine j_int (y := iI (P.gap (P.lp l0 0) (P.lp l0 1) dx dy ii)) (m27) ?_
          refine j_istore (lv' := [some (.ref (X.E.1 + 55)), some (.int (nI (l0))), some (.int (iI (dx))), some (.int (iI (dy))), some (.int (nI (ii))), some (.int (iI (P.gap (P.lp l0 0) (P.lp l0 1) dx dy ii))), some (.int (L6)), some (.int (nI (ii)))]) F dX6_firstWall_68 rfl (hL _ (by decide)) rfl rfl ?_
          refine j_aload_n F dX6_firstWall_70 rfl rfl ?_
          refine gX6_189 hn F dX6_firstWall_71 rfl ?_
          refine j_int (y := iI (P.stp dx dy ii)) (m28) ?_
          refine j_istore (lv' := [some (.ref (X.E.1 + 55)), some (.int (nI (l0))), some (.int (iI (dx))), some (.int (iI (dy))), some (.int (nI (ii))), some (.int (iI (P.gap (P.lp l0 0) (P.lp l0 1) dx dy ii))), some (.int (iI (P.stp dx dy ii))), some (.int (nI (ii)))]) F dX6_firstWall_74 rfl (hL _ (by decide)) rfl rfl ?_
          refine j_iincN (a := ii) (c := 1) (lv' := [some (.ref (X.E.1 + 55)), some (.int (nI (l0))), some (.int (iI (dx))), some (.int (iI (dy))), some (.int (nI (ii))), some (.int (iI (P.gap (P.lp l0 0) (P.lp l0 1) dx dy ii))), some (.int (iI (P.stp dx dy ii))), some (.int (nI (ii + 1)))]) F dX6_firstWall_76 rfl rfl (by decide) (hL _ (by decide)) rfl rfl ?_
          refine j_goto (pc' := 13) F dX6_firstWall_79 (by decide) ?_
          exact ih_13 (by omega) σ_30 (nI (ii)) (iI (P.gap (P.lp l0 0) (P.lp l0 1) dx dy ii)) (iI (P.stp dx dy ii)) (hτF.tr f_30) hnext
        · obtain ⟨f0, g0, s0, q1z, q2, q3, q4, q5, q6, q7⟩ := fwI_some hI c_40
          refine j_lvq (lv' := [some (.ref (X.E.1 + 55)), some (.int (nI (l0))), some (.int (iI (dx))), some (.int (iI (dy))), some (.int (L4)), some (.int (iI (g0))), some (.int (iI (s0))), some (.int (nI (ii)))]) (by rw [q3, q4]) ?_
          refine j_aload_n F dX6_firstWall_43 rfl rfl ?_
          refine gX6_186 hn F dX6_firstWall_44 rfl ?_
          refine j_int (y := iI (P.gap (P.lp l0 0) (P.lp l0 1) dx dy ii)) (m27) ?_
          refine j_iload F dX6_firstWall_47 rfl rfl ?_
          refine j_imulZ F (a := P.gap (P.lp l0 0) (P.lp l0 1) dx dy ii) (b := s0) rfl rfl dX6_firstWall_49 rfl ?_
          refine j_iload F dX6_firstWall_50 rfl rfl ?_
          refine j_aload_n F dX6_firstWall_52 rfl rfl ?_
          refine gX6_189 hn F dX6_firstWall_53 rfl ?_
          refine j_int (y := iI (P.stp dx dy ii)) (m28) ?_
          refine j_imulZ F (a := g0) (b := P.stp dx dy ii) rfl rfl dX6_firstWall_56 rfl ?_
          refine j_icmp_geZ F (a := (P.gap (P.lp l0 0) (P.lp l0 1) dx dy ii) * s0) (b := g0 * (P.stp dx dy ii)) rfl rfl (bd_mul b1g q7) (bd_mul q6 b2s) (by decide) (by decide) (tgt := 76) dX6_firstWall_57 (by decide) rfl (fun c_57 => ?_) (fun c_57 => ?_)
          · have hnext : fwI P (P.lp l0 0) (P.lp l0 1) dx dy (ii + 1) L4 (iI (g0)) (iI (s0)) := fwI_keep (by rw [q3, q4] at hI; exact hI) q1z (by omega)
            refine j_iincN (a := ii) (c := 1) (lv' := [some (.ref (X.E.1 + 55)), some (.int (nI (l0))), some (.int (iI (dx))), some (.int (iI (dy))), some (.int (L4)), some (.int (iI (g0))), some (.int (iI (s0))), some (.int (nI (ii + 1)))]) F dX6_firstWall_76 rfl rfl (by decide) (hL _ (by decide)) rfl rfl ?_
            refine j_goto (pc' := 13) F dX6_firstWall_79 (by decide) ?_
            exact ih_13 (by omega) σ_30 L4 (iI (g0)) (iI (s0)) (hτF.tr f_30) hnext
          · have hnext : fwI P (P.lp l0 0) (P.lp l0 1) dx dy (ii + 1) (nI ii) (iI (P.gap (P.lp l0 0) (P.lp l0 1) dx dy ii)) (iI (P.stp dx dy ii)) := fwI_less q1z c_33 (by omega) b1g b2s
            refine j_iload F dX6_firstWall_60 rfl rfl ?_
            refine j_istore (lv' := [some (.ref (X.E.1 + 55)), some (.int (nI (l0))), some (.int (iI (dx))), some (.int (iI (dy))), some (.int (nI (ii))), some (.int (iI (g0))), some (.int (iI (s0))), some (.int (nI (ii)))]) F dX6_firstWall_62 rfl (hL _ (by decide)) rfl rfl ?_
            refine j_aload_n F dX6_firstWall_64 rfl rfl ?_
            refine gX6_186 hn F dX6_firstWall_65 rfl ?_
            refine j_int (y := iI (P.gap (P.lp l0 0) (P.lp l0 1) dx dy ii)) (m27) ?_
            refine j_istore (lv' := [some (.ref (X.E.1 + 55)), some (.int (nI (l0))), some (.int (iI (dx))), some (.int (iI (dy))), some (.int (nI (ii))), some (.int (iI (P.gap (P.lp l0 0) (P.lp l0 1) dx dy ii))), some (.int (iI (s0))), some (.int (nI (ii)))]) F dX6_firstWall_68 rfl (hL _ (by decide)) rfl rfl ?_
            refine j_aload_n F dX6_firstWall_70 rfl rfl ?_
            refine gX6_189 hn F dX6_firstWall_71 rfl ?_
            refine j_int (y := iI (P.stp dx dy ii)) (m28) ?_
            refine j_istore (lv' := [some (.ref (X.E.1 + 55)), some (.int (nI (l0))), some (.int (iI (dx))), some (.int (iI (dy))), some (.int (nI (ii))), some (.int (iI (P.gap (P.lp l0 0) (P.lp l0 1) dx dy ii))), some (.int (iI (P.stp dx dy ii))), some (.int (nI (ii)))]) F dX6_firstWall_74 rfl (hL _ (by decide)) rfl rfl ?_
            refine j_iincN (a := ii) (c := 1) (lv' := [some (.ref (X.E.1 + 55)), some (.int (nI (l0))), some (.int (iI (dx))), some (.int (iI (dy))), some (.int (nI (ii))), some (.int (iI (P.gap (P.lp l0 0) (P.lp l0 1) dx dy ii))), some (.int (iI (P.stp dx dy ii))), some (.int (nI (ii + 1)))]) F dX6_firstWall_76 rfl rfl (by decide) (hL _ (by decide)) rfl rfl ?_
            refine j_goto (pc' := 13) F dX6_firstWall_79 (by decide) ?_
            exact ih_13 (by omega) σ_30 (nI (ii)) (iI (P.gap (P.lp l0 0) (P.lp l0 1) dx dy ii)) (iI (P.stp dx dy ii)) (hτF.tr f_30) hnext
  exact loop_13 0 (by omega) σ ((-9 : Int32)) (nI (0)) (nI (1)) F27.rf (fwI_0 _ _ _ _ _ _ _)

set_option maxRecDepth 10000 in
set_option maxHeartbeats 2000000 in
theorem c_X6_wallOfSector {l : Launch} {n : Nat} {E : Ev} {σ : St} {P : Pl} (hn : 69 ≤ n) (hM : MP σ P) (hBd : PB P) (hWl : ∀ w, w < P.nw → WallOK P w) (hLm : ∀ l, l < P.nl → LampOK P l) {E0 : List Dr} (hV : EvM σ E0) (hRB : RB E0) (hlen : E0.length ≤ 100) (l0 kk : Nat) (hl : l0 < P.nl) (hkk : kk < E0.length) : Ct l yX6_wallOfSector cX6_wallOfSector 4 (some .int) 3 n E [.ref (E.1 + 55), .int (nI (l0)), .int (nI (kk))] σ (fun v' σ' => v' = some (.int (fwR (P.ws (P.lp l0 0) (P.lp l0 1) E0 kk))) ∧ F27 σ σ') := by
  refine Ct.of (lv0 := [some (.ref (E.1 + 55)), some (.int (nI (l0))), some (.int (nI (kk))), none]) (by decide) (Nat.le_of_ble_eq_true rfl) rfl ?_
  intro X hXn hXE hXl hXL F hRt
  subst hXn hXE hXl
  have hL : ∀ i, i < 4 → i < X.nL := fun i h => by rw [hXL]; exact h
  have hB0 := hBd
  obtain ⟨b1, b2, b3, b4, b5, b6, b7⟩ := hB0
  have hnx := nxt_lt hkk
  have hsx := bd_sX hRB hkk
  have hsy := bd_sY hRB hkk
  have hlo := hLm l0 hl
  unfold LampOK at hlo
  refine j_iload_n F dX6_wallOfSector_0 rfl rfl ?_
  refine j_iconst (v := nI (1)) F dX6_wallOfSector_1 rfl (by decide) ?_
  refine j_iaddN (a := kk) (b := 1) F dX6_wallOfSector_2 rfl ?_
  refine j_aload_n F dX6_wallOfSector_3 rfl rfl ?_
  refine gX6_176 hn F dX6_wallOfSector_4 rfl ?_
  refine j_int (y := nI (E0.length)) (hV.1) ?_
  refine j_iremN (a := kk + 1) (b := E0.length) F (by omega) (by omega) (by omega) dX6_wallOfSector_7 rfl ?_
  refine j_int (y := nI (nxt E0.length kk)) (congrArg nI (nxt_mod hkk)) ?_
  refine j_istore_n (lv' := [some (.ref (X.E.1 + 55)), some (.int (nI (l0))), some (.int (nI (kk))), some (.int (nI (nxt E0.length kk)))]) F dX6_wallOfSector_8 rfl (hL _ (by decide)) rfl rfl ?_
  refine j_aload_n F dX6_wallOfSector_9 rfl rfl ?_
  refine j_iload_n F dX6_wallOfSector_10 rfl rfl ?_
  refine j_aload_n F dX6_wallOfSector_11 rfl rfl ?_
  refine gX6_41 hn F dX6_wallOfSector_12 rfl ?_
  refine j_iload_n F dX6_wallOfSector_15 rfl rfl ?_
  refine j_iaload (a := kk) F (by omega) rfl rfl (by omega) (by decide) dX6_wallOfSector_16 rfl ?_
  refine j_int (y := iI ((E0.getD kk (0, 0)).1)) ((hV.2 _ hkk).1) ?_
  refine j_aload_n F dX6_wallOfSector_17 rfl rfl ?_
  refine gX6_41 hn F dX6_wallOfSector_18 rfl ?_
  refine j_iload_n F dX6_wallOfSector_21 rfl rfl ?_
  refine j_iaload (a := nxt E0.length kk) F (by omega) rfl rfl (by omega) (by decide) dX6_wallOfSector_22 rfl ?_
  refine j_int (y := iI ((E0.getD (nxt E0.length kk) (0, 0)).1)) ((hV.2 _ hnx).1) ?_
  refine j_iaddZ F (a := (E0.getD kk (0, 0)).1) (b := (E0.getD (nxt E0.length kk) (0, 0)).1) rfl rfl dX6_wallOfSector_23 rfl ?_
  refine j_int (y := iI (sX E0 kk)) (rfl) ?_
  refine j_aload_n F dX6_wallOfSector_24 rfl rfl ?_
  refine gX6_44 hn F dX6_wallOfSector_25 rfl ?_
  refine j_iload_n F dX6_wallOfSector_28 rfl rfl ?_
  refine j_iaload (a := kk) F (by omega) rfl rfl (by omega) (by decide) dX6_wallOfSector_29 rfl ?_
  refine j_int (y := iI ((E0.getD kk (0, 0)).2)) ((hV.2 _ hkk).2) ?_
  refine j_aload_n F dX6_wallOfSector_30 rfl rfl ?_
  refine gX6_44 hn F dX6_wallOfSector_31 rfl ?_
  refine j_iload_n F dX6_wallOfSector_34 rfl rfl ?_
  refine j_iaload (a := nxt E0.length kk) F (by omega) rfl rfl (by omega) (by decide) dX6_wallOfSector_35 rfl ?_
  refine j_int (y := iI ((E0.getD (nxt E0.length kk) (0, 0)).2)) ((hV.2 _ hnx).2) ?_
  refine j_iaddZ F (a := (E0.getD kk (0, 0)).2) (b := (E0.getD (nxt E0.length kk) (0, 0)).2) rfl rfl dX6_wallOfSector_36 rfl ?_
  refine j_int (y := iI (sY E0 kk)) (rfl) ?_
  refine kX6_195 hn F (As := [.int (nI (l0)), .int (iI (sX E0 kk)), .int (iI (sY E0 kk))]) (rest := []) (c_X6_firstWall hn hM hBd hWl hLm l0 hl (sX E0 kk) (sY E0 kk) hsx hsy) (by decide) rfl rfl (Nat.le_of_ble_eq_true rfl) dX6_wallOfSector_37 rfl (fun v_37 σ_37 q_37 => ?_)
  obtain ⟨rfl, f_37⟩ := q_37
  exact j_iret F hRt rfl (⟨rfl, f_37⟩) dX6_wallOfSector_40

set_option maxRecDepth 10000 in
set_option maxHeartbeats 2000000 in
theorem c_X6_areaOf {l : Launch} {n : Nat} {E : Ev} {σ : St} {P : Pl} (hn : 69 ≤ n) (hM : MP σ P) (hBd : PB P) (hWl : ∀ w, w < P.nw → WallOK P w) (hLm : ∀ l, l < P.nl → LampOK P l) {E0 : List Dr} (hV : EvM σ E0) (hRB : RB E0) (hlen : E0.length ≤ 100) (l0 kk : Nat) (hl : l0 < P.nl) (hkk : kk < E0.length) (w : Nat) (hw : w < P.nw) (x : Int32) (ht : 0 < trn E0 kk) (hg0 : 0 < P.agc (P.lp l0 0) (P.lp l0 1) E0 kk w) : Ct l yX6_areaOf cX6_areaOf 12 (some .int) 2 n E [.ref (E.1 + 55), .int (nI (l0)), .int (nI (kk)), .int (nI (w)), .int (x)] σ (ro (.int (if x = nI 1 then iI (P.arU (P.lp l0 0) (P.lp l0 1) E0 kk w) else iI (P.arL (P.lp l0 0) (P.lp l0 1) E0 kk w))) σ) := by
  refine Ct.of (lv0 := [some (.ref (E.1 + 55)), some (.int (nI (l0))), some (.int (nI (kk))), some (.int (nI (w))), some (.int (x)), none, none, none, none, none, none, none]) (by decide) (Nat.le_of_ble_eq_true rfl) rfl ?_
  intro X hXn hXE hXl hXL F hRt
  subst hXn hXE hXl
  have hL : ∀ i, i < 12 → i < X.nL := fun i h => by rw [hXL]; exact h
  have hB0 := hBd
  obtain ⟨b1, b2, b3, b4, b5, b6, b7⟩ := hB0
  have hnx := nxt_lt hkk
  have hsx := bd_sX hRB hkk
  have hsy := bd_sY hRB hkk
  have hlo := hLm l0 hl
  unfold LampOK at hlo
  obtain ⟨w1, w2, w3, w4, w5, w6⟩ := hWl w hw
  have bl := bd_lin2 (lx := P.lp l0 0) (ly := P.lp l0 1) hBd hWl (by omega) (by omega) hw
  have bt := bd_trn hRB hkk
  have nbt := bd_na.mp bt
  have bs := bd_sts (P := P) (w := w) hRB hkk
  have nbs := bd_na.mp bs
  have bu : bd (P.aU (P.lp l0 0) (P.lp l0 1) E0 kk w) 320000 := bd_mul (bd_mul bt bl) bl
  have bL := bd_aL (P := P) (w := w) hRB hkk
  have bg : P.agc (P.lp l0 0) (P.lp l0 1) E0 kk w ≤ 323200 := gc_bd bu bL
  refine j_aload_n F dX6_areaOf_0 rfl rfl ?_
  refine j_iload_n F dX6_areaOf_1 rfl rfl ?_
  refine j_iconst (v := nI (3)) F dX6_areaOf_2 rfl (by decide) ?_
  refine kX6_138 hn F (As := [.int (nI (w)), .int (nI (3))]) (rest := []) (c_X6_ofWall hn hM hBd w 3 (by omega) (by omega)) (by decide) rfl rfl (Nat.le_of_ble_eq_true rfl) dX6_areaOf_3 rfl (ro_k ?_)
  refine j_iconst (v := nI (1)) F dX6_areaOf_6 rfl (by decide) ?_
  refine j_icmp_neN (a := P.wl w 3) (b := 1) F (by omega) (by omega) (tgt := 14) dX6_areaOf_7 (by decide) rfl (fun c_7 => ?_) (fun c_7 => ?_)
  · have c_7z : ¬ P.wl w 3 = 1 := c_7
    refine j_iconst (v := nI (0)) F dX6_areaOf_14 rfl (by decide) ?_
    refine j_istore (lv' := [some (.ref (X.E.1 + 55)), some (.int (nI (l0))), some (.int (nI (kk))), some (.int (nI (w))), some (.int (x)), some (.int (nI (0))), none, none, none, none, none, none]) F dX6_areaOf_15 rfl (hL _ (by decide)) rfl rfl ?_
    refine j_iload F dX6_areaOf_17 rfl rfl ?_
    refine j_if_eqN (a := 0) F (by omega) (tgt := 44) dX6_areaOf_19 (by decide) rfl (fun c_19 => ?_) (fun c_19 => False.elim (by revert c_19; decide))
    refine j_iconst (v := nI (2)) F dX6_areaOf_44 rfl (by decide) ?_
    refine j_aload_n F dX6_areaOf_45 rfl rfl ?_
    refine j_iload_n F dX6_areaOf_46 rfl rfl ?_
    refine j_iconst (v := nI (1)) F dX6_areaOf_47 rfl (by decide) ?_
    refine kX6_138 hn F (As := [.int (nI (w)), .int (nI (1))]) (rest := [.int (nI (2))]) (c_X6_ofWall hn hM hBd w 1 (by omega) (by omega)) (by decide) rfl rfl (Nat.le_of_ble_eq_true rfl) dX6_areaOf_48 rfl (ro_k ?_)
    refine j_imulN (a := 2) (b := P.wl w 1) F dX6_areaOf_51 rfl ?_
    refine j_iconst (v := nI (2)) F dX6_areaOf_52 rfl (by decide) ?_
    refine j_aload_n F dX6_areaOf_53 rfl rfl ?_
    refine j_iload_n F dX6_areaOf_54 rfl rfl ?_
    refine j_iconst (v := nI (1)) F dX6_areaOf_55 rfl (by decide) ?_
    refine kX6_70 hn F (As := [.int (nI (l0)), .int (nI (1))]) (rest := [.int (nI (2)), .int (nI (2 * (P.wl w 1)))]) (c_X6_ofLamp hn hM hBd l0 1 (by omega) (by omega)) (by decide) rfl rfl (Nat.le_of_ble_eq_true rfl) dX6_areaOf_56 rfl (ro_k ?_)
    refine j_imulN (a := 2) (b := P.lp l0 1) F dX6_areaOf_59 rfl ?_
    refine j_isubZ F (a := ((2 * (P.wl w 1) : Nat) : Int)) (b := ((2 * (P.lp l0 1) : Nat) : Int)) (nI_iI _) (nI_iI _) dX6_areaOf_60 rfl ?_
    refine j_iconst (v := nI (1)) F dX6_areaOf_61 rfl (by decide) ?_
    refine j_isubZ F (a := ((2 * (P.wl w 1) : Nat) : Int) - ((2 * (P.lp l0 1) : Nat) : Int)) (b := ((1 : Nat) : Int)) rfl (nI_iI _) dX6_areaOf_62 rfl ?_
    refine j_int (y := iI (P.lin (P.lp l0 0) (P.lp l0 1) w)) (by unfold Pl.lin; (first | rw [if_pos c_7z] | rw [if_neg c_7z]); congr 1; omega) ?_
    refine j_istore (lv' := [some (.ref (X.E.1 + 55)), some (.int (nI (l0))), some (.int (nI (kk))), some (.int (nI (w))), some (.int (x)), some (.int (nI (0))), some (.int (iI (P.lin (P.lp l0 0) (P.lp l0 1) w))), none, none, none, none, none]) F dX6_areaOf_63 rfl (hL _ (by decide)) rfl rfl ?_
    refine j_iload_n F dX6_areaOf_65 rfl rfl ?_
    refine j_iconst (v := nI (1)) F dX6_areaOf_66 rfl (by decide) ?_
    refine j_iaddN (a := kk) (b := 1) F dX6_areaOf_67 rfl ?_
    refine j_aload_n F dX6_areaOf_68 rfl rfl ?_
    refine gX6_176 hn F dX6_areaOf_69 rfl ?_
    refine j_int (y := nI (E0.length)) (hV.1) ?_
    refine j_iremN (a := kk + 1) (b := E0.length) F (by omega) (by omega) (by omega) dX6_areaOf_72 rfl ?_
    refine j_int (y := nI (nxt E0.length kk)) (congrArg nI (nxt_mod hkk)) ?_
    refine j_istore (lv' := [some (.ref (X.E.1 + 55)), some (.int (nI (l0))), some (.int (nI (kk))), some (.int (nI (w))), some (.int (x)), some (.int (nI (0))), some (.int (iI (P.lin (P.lp l0 0) (P.lp l0 1) w))), some (.int (nI (nxt E0.length kk))), none, none, none, none]) F dX6_areaOf_73 rfl (hL _ (by decide)) rfl rfl ?_
    refine j_aload_n F dX6_areaOf_75 rfl rfl ?_
    refine gX6_41 hn F dX6_areaOf_76 rfl ?_
    refine j_iload_n F dX6_areaOf_79 rfl rfl ?_
    refine j_iaload (a := kk) F (by omega) rfl rfl (by omega) (by decide) dX6_areaOf_80 rfl ?_
    refine j_int (y := iI ((E0.getD kk (0, 0)).1)) ((hV.2 _ hkk).1) ?_
    refine j_aload_n F dX6_areaOf_81 rfl rfl ?_
    refine gX6_44 hn F dX6_areaOf_82 rfl ?_
    refine j_iload F dX6_areaOf_85 rfl rfl ?_
    refine j_iaload (a := nxt E0.length kk) F (by omega) rfl rfl (by omega) (by decide) dX6_areaOf_87 rfl ?_
    refine j_int (y := iI ((E0.getD (nxt E0.length kk) (0, 0)).2)) ((hV.2 _ hnx).2) ?_
    refine j_imulZ F (a := (E0.getD kk (0, 0)).1) (b := (E0.getD (nxt E0.length kk) (0, 0)).2) rfl rfl dX6_areaOf_88 rfl ?_
    refine j_aload_n F dX6_areaOf_89 rfl rfl ?_
    refine gX6_44 hn F dX6_areaOf_90 rfl ?_
    refine j_iload_n F dX6_areaOf_93 rfl rfl ?_
    refine j_iaload (a := kk) F (by omega) rfl rfl (by omega) (by decide) dX6_areaOf_94 rfl ?_
    refine j_int (y := iI ((E0.getD kk (0, 0)).2)) ((hV.2 _ hkk).2) ?_
    refine j_aload_n F dX6_areaOf_95 rfl rfl ?_
    refine gX6_41 hn F dX6_areaOf_96 rfl ?_
    refine j_iload F dX6_areaOf_99 rfl rfl ?_
    refine j_iaload (a := nxt E0.length kk) F (by omega) rfl rfl (by omega) (by decide) dX6_areaOf_101 rfl ?_
    refine j_int (y := iI ((E0.getD (nxt E0.length kk) (0, 0)).1)) ((hV.2 _ hnx).1) ?_
    refine j_imulZ F (a := (E0.getD kk (0, 0)).2) (b := (E0.getD (nxt E0.length kk) (0, 0)).1) rfl rfl dX6_areaOf_102 rfl ?_
    refine j_isubZ F (a := ((E0.getD kk (0, 0)).1) * ((E0.getD (nxt E0.length kk) (0, 0)).2)) (b := ((E0.getD kk (0, 0)).2) * ((E0.getD (nxt E0.length kk) (0, 0)).1)) rfl rfl dX6_areaOf_103 rfl ?_
    refine j_int (y := iI (trn E0 kk)) (rfl) ?_
    refine j_istore (lv' := [some (.ref (X.E.1 + 55)), some (.int (nI (l0))), some (.int (nI (kk))), some (.int (nI (w))), some (.int (x)), some (.int (nI (0))), some (.int (iI (P.lin (P.lp l0 0) (P.lp l0 1) w))), some (.int (nI (nxt E0.length kk))), some (.int (iI (trn E0 kk))), none, none, none]) F dX6_areaOf_104 rfl (hL _ (by decide)) rfl rfl ?_
    refine j_iload F dX6_areaOf_106 rfl rfl ?_
    refine j_iload F dX6_areaOf_108 rfl rfl ?_
    refine j_imulZ F (a := P.lin (P.lp l0 0) (P.lp l0 1) w) (b := P.lin (P.lp l0 0) (P.lp l0 1) w) rfl rfl dX6_areaOf_110 rfl ?_
    refine j_iload F dX6_areaOf_111 rfl rfl ?_
    refine kX6_170 F (As := [.int (iI (trn E0 kk))]) (rest := [.int (iI ((P.lin (P.lp l0 0) (P.lp l0 1) w) * (P.lin (P.lp l0 0) (P.lp l0 1) w)))]) (c_X6_size (trn E0 kk) bt (by decide)) (by decide) rfl rfl (Nat.le_of_ble_eq_true rfl) dX6_areaOf_113 rfl (ro_k ?_)
    refine j_imulZ F (a := (P.lin (P.lp l0 0) (P.lp l0 1) w) * (P.lin (P.lp l0 0) (P.lp l0 1) w)) (b := (((trn E0 kk).natAbs : Nat) : Int)) rfl (nI_iI _) dX6_areaOf_116 rfl ?_
    refine j_int (y := iI (P.aU (P.lp l0 0) (P.lp l0 1) E0 kk w)) (ar_cm ht) ?_
    refine j_istore (lv' := [some (.ref (X.E.1 + 55)), some (.int (nI (l0))), some (.int (nI (kk))), some (.int (nI (w))), some (.int (x)), some (.int (nI (0))), some (.int (iI (P.lin (P.lp l0 0) (P.lp l0 1) w))), some (.int (nI (nxt E0.length kk))), some (.int (iI (trn E0 kk))), some (.int (iI (P.aU (P.lp l0 0) (P.lp l0 1) E0 kk w))), none, none]) F dX6_areaOf_117 rfl (hL _ (by decide)) rfl rfl ?_
    refine j_bipush (v := nI (8)) F dX6_areaOf_119 rfl (by decide) ?_
    refine j_iload F dX6_areaOf_121 rfl rfl ?_
    refine j_if_eqN (a := 0) F (by omega) (tgt := 143) dX6_areaOf_123 (by decide) rfl (fun c_123 => ?_) (fun c_123 => False.elim (by revert c_123; decide))
    refine j_aload_n F dX6_areaOf_143 rfl rfl ?_
    refine gX6_44 hn F dX6_areaOf_144 rfl ?_
    refine j_iload_n F dX6_areaOf_147 rfl rfl ?_
    refine j_iaload (a := kk) F (by omega) rfl rfl (by omega) (by decide) dX6_areaOf_148 rfl ?_
    refine j_int (y := iI ((E0.getD kk (0, 0)).2)) ((hV.2 _ hkk).2) ?_
    refine j_aload_n F dX6_areaOf_149 rfl rfl ?_
    refine gX6_44 hn F dX6_areaOf_150 rfl ?_
    refine j_iload F dX6_areaOf_153 rfl rfl ?_
    refine j_iaload (a := nxt E0.length kk) F (by omega) rfl rfl (by omega) (by decide) dX6_areaOf_155 rfl ?_
    refine j_int (y := iI ((E0.getD (nxt E0.length kk) (0, 0)).2)) ((hV.2 _ hnx).2) ?_
    refine j_imulZ F (a := (E0.getD kk (0, 0)).2) (b := (E0.getD (nxt E0.length kk) (0, 0)).2) rfl rfl dX6_areaOf_156 rfl ?_
    refine j_int (y := iI (P.sts E0 kk w)) (by unfold Pl.sts; rw [if_neg c_7z]) ?_
    refine kX6_170 F (As := [.int (iI (P.sts E0 kk w))]) (rest := [.int (nI (8))]) (c_X6_size (P.sts E0 kk w) bs (by decide)) (by decide) rfl rfl (Nat.le_of_ble_eq_true rfl) dX6_areaOf_157 rfl (ro_k ?_)
    refine j_imulN (a := 8) (b := (P.sts E0 kk w).natAbs) F dX6_areaOf_160 rfl ?_
    refine j_int (y := iI (P.aL E0 kk w)) (nI_iI _) ?_
    refine j_istore (lv' := [some (.ref (X.E.1 + 55)), some (.int (nI (l0))), some (.int (nI (kk))), some (.int (nI (w))), some (.int (x)), some (.int (nI (0))), some (.int (iI (P.lin (P.lp l0 0) (P.lp l0 1) w))), some (.int (nI (nxt E0.length kk))), some (.int (iI (trn E0 kk))), some (.int (iI (P.aU (P.lp l0 0) (P.lp l0 1) E0 kk w))), some (.int (iI (P.aL E0 kk w))), none]) F dX6_areaOf_161 rfl (hL _ (by decide)) rfl rfl ?_
    refine j_iload F dX6_areaOf_163 rfl rfl ?_
    refine j_iload F dX6_areaOf_165 rfl rfl ?_
    refine kX6_173 F (As := [.int (iI (P.aU (P.lp l0 0) (P.lp l0 1) E0 kk w)), .int (iI (P.aL E0 kk w))]) (rest := []) (c_X6_divisor (P.aU (P.lp l0 0) (P.lp l0 1) E0 kk w) (P.aL E0 kk w) (bd_mono bu (by decide)) (bd_mono bL (by decide))) (by decide) rfl rfl (Nat.le_of_ble_eq_true rfl) dX6_areaOf_167 rfl (ro_k ?_)
    refine j_int (y := nI (P.agc (P.lp l0 0) (P.lp l0 1) E0 kk w)) (rfl) ?_
    refine j_istore (lv' := [some (.ref (X.E.1 + 55)), some (.int (nI (l0))), some (.int (nI (kk))), some (.int (nI (w))), some (.int (x)), some (.int (nI (0))), some (.int (iI (P.lin (P.lp l0 0) (P.lp l0 1) w))), some (.int (nI (nxt E0.length kk))), some (.int (iI (trn E0 kk))), some (.int (iI (P.aU (P.lp l0 0) (P.lp l0 1) E0 kk w))), some (.int (iI (P.aL E0 kk w))), some (.int (nI (P.agc (P.lp l0 0) (P.lp l0 1) E0 kk w)))]) F dX6_areaOf_170 rfl (hL _ (by decide)) rfl rfl ?_
    refine j_iload F dX6_areaOf_172 rfl rfl ?_
    refine j_iconst (v := nI (1)) F dX6_areaOf_174 rfl (by decide) ?_
    refine j_icmp_ne F (tgt := 186) dX6_areaOf_175 (by decide) rfl (fun c_175 => ?_) (fun c_175 => ?_)
    · have c_175y : ¬ x = nI 1 := c_175
      refine j_iload F dX6_areaOf_186 rfl rfl ?_
      refine j_iload F dX6_areaOf_188 rfl rfl ?_
      refine j_idivZ F (a := P.aL E0 kk w) (b := ((P.agc (P.lp l0 0) (P.lp l0 1) E0 kk w : Nat) : Int)) rfl (nI_iI _) bL (bd_n bg) (by decide) (by decide) (by omega) dX6_areaOf_190 rfl ?_
      exact j_iret F hRt rfl (roI (by rw [if_neg c_175y]; unfold Pl.arL; rw [if_neg (by omega)])) dX6_areaOf_191
    · have c_175y : x = nI 1 := by first | exact c_175 | exact Classical.byContradiction c_175
      refine j_iload F dX6_areaOf_178 rfl rfl ?_
      refine j_iload F dX6_areaOf_180 rfl rfl ?_
      refine j_idivZ F (a := P.aU (P.lp l0 0) (P.lp l0 1) E0 kk w) (b := ((P.agc (P.lp l0 0) (P.lp l0 1) E0 kk w : Nat) : Int)) rfl (nI_iI _) bu (bd_n bg) (by decide) (by decide) (by omega) dX6_areaOf_182 rfl ?_
      refine j_goto (pc' := 191) F dX6_areaOf_183 (by decide) ?_
      exact j_iret F hRt rfl (roI (by rw [if_pos c_175y]; unfold Pl.arU; rw [if_neg (by omega)])) dX6_areaOf_191
  · have c_7z : P.wl w 3 = 1 := by omega
    refine j_iconst (v := nI (1)) F dX6_areaOf_10 rfl (by decide) ?_
    refine j_goto (pc' := 15) F dX6_areaOf_11 (by decide) ?_
    refine j_istore (lv' := [some (.ref (X.E.1 + 55)), some (.int (nI (l0))), some (.int (nI (kk))), some (.int (nI (w))), some (.int (x)), some (.int (nI (1))), none, none, none, none, none, none]) F dX6_areaOf_15 rfl (hL _ (by decide)) rfl rfl ?_
    refine j_iload F dX6_areaOf_17 rfl rfl ?_
    refine j_if_eqN (a := 1) F (by omega) (tgt := 44) dX6_areaOf_19 (by decide) rfl (fun c_19 => False.elim (by revert c_19; decide)) (fun c_19 => ?_)
    refine j_iconst (v := nI (2)) F dX6_areaOf_22 rfl (by decide) ?_
    refine j_aload_n F dX6_areaOf_23 rfl rfl ?_
    refine j_iload_n F dX6_areaOf_24 rfl rfl ?_
    refine j_iconst (v := nI (0)) F dX6_areaOf_25 rfl (by decide) ?_
    refine kX6_138 hn F (As := [.int (nI (w)), .int (nI (0))]) (rest := [.int (nI (2))]) (c_X6_ofWall hn hM hBd w 0 (by omega) (by omega)) (by decide) rfl rfl (Nat.le_of_ble_eq_true rfl) dX6_areaOf_26 rfl (ro_k ?_)
    refine j_imulN (a := 2) (b := P.wl w 0) F dX6_areaOf_29 rfl ?_
    refine j_iconst (v := nI (2)) F dX6_areaOf_30 rfl (by decide) ?_
    refine j_aload_n F dX6_areaOf_31 rfl rfl ?_
    refine j_iload_n F dX6_areaOf_32 rfl rfl ?_
    refine j_iconst (v := nI (0)) F dX6_areaOf_33 rfl (by decide) ?_
    refine kX6_70 hn F (As := [.int (nI (l0)), .int (nI (0))]) (rest := [.int (nI (2)), .int (nI (2 * (P.wl w 0)))]) (c_X6_ofLamp hn hM hBd l0 0 (by omega) (by omega)) (by decide) rfl rfl (Nat.le_of_ble_eq_true rfl) dX6_areaOf_34 rfl (ro_k ?_)
    refine j_imulN (a := 2) (b := P.lp l0 0) F dX6_areaOf_37 rfl ?_
    refine j_isubZ F (a := ((2 * (P.wl w 0) : Nat) : Int)) (b := ((2 * (P.lp l0 0) : Nat) : Int)) (nI_iI _) (nI_iI _) dX6_areaOf_38 rfl ?_
    refine j_iconst (v := nI (1)) F dX6_areaOf_39 rfl (by decide) ?_
    refine j_isubZ F (a := ((2 * (P.wl w 0) : Nat) : Int) - ((2 * (P.lp l0 0) : Nat) : Int)) (b := ((1 : Nat) : Int)) rfl (nI_iI _) dX6_areaOf_40 rfl ?_
    refine j_int (y := iI (P.lin (P.lp l0 0) (P.lp l0 1) w)) (by unfold Pl.lin; (first | rw [if_pos c_7z] | rw [if_neg c_7z]); congr 1; omega) ?_
    refine j_goto (pc' := 63) F dX6_areaOf_41 (by decide) ?_
    refine j_istore (lv' := [some (.ref (X.E.1 + 55)), some (.int (nI (l0))), some (.int (nI (kk))), some (.int (nI (w))), some (.int (x)), some (.int (nI (1))), some (.int (iI (P.lin (P.lp l0 0) (P.lp l0 1) w))), none, none, none, none, none]) F dX6_areaOf_63 rfl (hL _ (by decide)) rfl rfl ?_
    refine j_iload_n F dX6_areaOf_65 rfl rfl ?_
    refine j_iconst (v := nI (1)) F dX6_areaOf_66 rfl (by decide) ?_
    refine j_iaddN (a := kk) (b := 1) F dX6_areaOf_67 rfl ?_
    refine j_aload_n F dX6_areaOf_68 rfl rfl ?_
    refine gX6_176 hn F dX6_areaOf_69 rfl ?_
    refine j_int (y := nI (E0.length)) (hV.1) ?_
    refine j_iremN (a := kk + 1) (b := E0.length) F (by omega) (by omega) (by omega) dX6_areaOf_72 rfl ?_
    refine j_int (y := nI (nxt E0.length kk)) (congrArg nI (nxt_mod hkk)) ?_
    refine j_istore (lv' := [some (.ref (X.E.1 + 55)), some (.int (nI (l0))), some (.int (nI (kk))), some (.int (nI (w))), some (.int (x)), some (.int (nI (1))), some (.int (iI (P.lin (P.lp l0 0) (P.lp l0 1) w))), some (.int (nI (nxt E0.length kk))), none, none, none, none]) F dX6_areaOf_73 rfl (hL _ (by decide)) rfl rfl ?_
    refine j_aload_n F dX6_areaOf_75 rfl rfl ?_
    refine gX6_41 hn F dX6_areaOf_76 rfl ?_
    refine j_iload_n F dX6_areaOf_79 rfl rfl ?_
    refine j_iaload (a := kk) F (by omega) rfl rfl (by omega) (by decide) dX6_areaOf_80 rfl ?_
    refine j_int (y := iI ((E0.getD kk (0, 0)).1)) ((hV.2 _ hkk).1) ?_
    refine j_aload_n F dX6_areaOf_81 rfl rfl ?_
    refine gX6_44 hn F dX6_areaOf_82 rfl ?_
    refine j_iload F dX6_areaOf_85 rfl rfl ?_
    refine j_iaload (a := nxt E0.length kk) F (by omega) rfl rfl (by omega) (by decide) dX6_areaOf_87 rfl ?_
    refine j_int (y := iI ((E0.getD (nxt E0.length kk) (0, 0)).2)) ((hV.2 _ hnx).2) ?_
    refine j_imulZ F (a := (E0.getD kk (0, 0)).1) (b := (E0.getD (nxt E0.length kk) (0, 0)).2) rfl rfl dX6_areaOf_88 rfl ?_
    refine j_aload_n F dX6_areaOf_89 rfl rfl ?_
    refine gX6_44 hn F dX6_areaOf_90 rfl ?_
    refine j_iload_n F dX6_areaOf_93 rfl rfl ?_
    refine j_iaload (a := kk) F (by omega) rfl rfl (by omega) (by decide) dX6_areaOf_94 rfl ?_
    refine j_int (y := iI ((E0.getD kk (0, 0)).2)) ((hV.2 _ hkk).2) ?_
    refine j_aload_n F dX6_areaOf_95 rfl rfl ?_
    refine gX6_41 hn F dX6_areaOf_96 rfl ?_
    refine j_iload F dX6_areaOf_99 rfl rfl ?_
    refine j_iaload (a := nxt E0.length kk) F (by omega) rfl rfl (by omega) (by decide) dX6_areaOf_101 rfl ?_
    refine j_int (y := iI ((E0.getD (nxt E0.length kk) (0, 0)).1)) ((hV.2 _ hnx).1) ?_
    refine j_imulZ F (a := (E0.getD kk (0, 0)).2) (b := (E0.getD (nxt E0.length kk) (0, 0)).1) rfl rfl dX6_areaOf_102 rfl ?_
    refine j_isubZ F (a := ((E0.getD kk (0, 0)).1) * ((E0.getD (nxt E0.length kk) (0, 0)).2)) (b := ((E0.getD kk (0, 0)).2) * ((E0.getD (nxt E0.length kk) (0, 0)).1)) rfl rfl dX6_areaOf_103 rfl ?_
    refine j_int (y := iI (trn E0 kk)) (rfl) ?_
    refine j_istore (lv' := [some (.ref (X.E.1 + 55)), some (.int (nI (l0))), some (.int (nI (kk))), some (.int (nI (w))), some (.int (x)), some (.int (nI (1))), some (.int (iI (P.lin (P.lp l0 0) (P.lp l0 1) w))), some (.int (nI (nxt E0.length kk))), some (.int (iI (trn E0 kk))), none, none, none]) F dX6_areaOf_104 rfl (hL _ (by decide)) rfl rfl ?_
    refine j_iload F dX6_areaOf_106 rfl rfl ?_
    refine j_iload F dX6_areaOf_108 rfl rfl ?_
    refine j_imulZ F (a := P.lin (P.lp l0 0) (P.lp l0 1) w) (b := P.lin (P.lp l0 0) (P.lp l0 1) w) rfl rfl dX6_areaOf_110 rfl ?_
    refine j_iload F dX6_areaOf_111 rfl rfl ?_
    refine kX6_170 F (As := [.int (iI (trn E0 kk))]) (rest := [.int (iI ((P.lin (P.lp l0 0) (P.lp l0 1) w) * (P.lin (P.lp l0 0) (P.lp l0 1) w)))]) (c_X6_size (trn E0 kk) bt (by decide)) (by decide) rfl rfl (Nat.le_of_ble_eq_true rfl) dX6_areaOf_113 rfl (ro_k ?_)
    refine j_imulZ F (a := (P.lin (P.lp l0 0) (P.lp l0 1) w) * (P.lin (P.lp l0 0) (P.lp l0 1) w)) (b := (((trn E0 kk).natAbs : Nat) : Int)) rfl (nI_iI _) dX6_areaOf_116 rfl ?_
    refine j_int (y := iI (P.aU (P.lp l0 0) (P.lp l0 1) E0 kk w)) (ar_cm ht) ?_
    refine j_istore (lv' := [some (.ref (X.E.1 + 55)), some (.int (nI (l0))), some (.int (nI (kk))), some (.int (nI (w))), some (.int (x)), some (.int (nI (1))), some (.int (iI (P.lin (P.lp l0 0) (P.lp l0 1) w))), some (.int (nI (nxt E0.length kk))), some (.int (iI (trn E0 kk))), some (.int (iI (P.aU (P.lp l0 0) (P.lp l0 1) E0 kk w))), none, none]) F dX6_areaOf_117 rfl (hL _ (by decide)) rfl rfl ?_
    refine j_bipush (v := nI (8)) F dX6_areaOf_119 rfl (by decide) ?_
    refine j_iload F dX6_areaOf_121 rfl rfl ?_
    refine j_if_eqN (a := 1) F (by omega) (tgt := 143) dX6_areaOf_123 (by decide) rfl (fun c_123 => False.elim (by revert c_123; decide)) (fun c_123 => ?_)
    refine j_aload_n F dX6_areaOf_126 rfl rfl ?_
    refine gX6_41 hn F dX6_areaOf_127 rfl ?_
    refine j_iload_n F dX6_areaOf_130 rfl rfl ?_
    refine j_iaload (a := kk) F (by omega) rfl rfl (by omega) (by decide) dX6_areaOf_131 rfl ?_
    refine j_int (y := iI ((E0.getD kk (0, 0)).1)) ((hV.2 _ hkk).1) ?_
    refine j_aload_n F dX6_areaOf_132 rfl rfl ?_
    refine gX6_41 hn F dX6_areaOf_133 rfl ?_
    refine j_iload F dX6_areaOf_136 rfl rfl ?_
    refine j_iaload (a := nxt E0.length kk) F (by omega) rfl rfl (by omega) (by decide) dX6_areaOf_138 rfl ?_
    refine j_int (y := iI ((E0.getD (nxt E0.length kk) (0, 0)).1)) ((hV.2 _ hnx).1) ?_
    refine j_imulZ F (a := (E0.getD kk (0, 0)).1) (b := (E0.getD (nxt E0.length kk) (0, 0)).1) rfl rfl dX6_areaOf_139 rfl ?_
    refine j_int (y := iI (P.sts E0 kk w)) (by unfold Pl.sts; rw [if_pos c_7z]) ?_
    refine j_goto (pc' := 157) F dX6_areaOf_140 (by decide) ?_
    refine kX6_170 F (As := [.int (iI (P.sts E0 kk w))]) (rest := [.int (nI (8))]) (c_X6_size (P.sts E0 kk w) bs (by decide)) (by decide) rfl rfl (Nat.le_of_ble_eq_true rfl) dX6_areaOf_157 rfl (ro_k ?_)
    refine j_imulN (a := 8) (b := (P.sts E0 kk w).natAbs) F dX6_areaOf_160 rfl ?_
    refine j_int (y := iI (P.aL E0 kk w)) (nI_iI _) ?_
    refine j_istore (lv' := [some (.ref (X.E.1 + 55)), some (.int (nI (l0))), some (.int (nI (kk))), some (.int (nI (w))), some (.int (x)), some (.int (nI (1))), some (.int (iI (P.lin (P.lp l0 0) (P.lp l0 1) w))), some (.int (nI (nxt E0.length kk))), some (.int (iI (trn E0 kk))), some (.int (iI (P.aU (P.lp l0 0) (P.lp l0 1) E0 kk w))), some (.int (iI (P.aL E0 kk w))), none]) F dX6_areaOf_161 rfl (hL _ (by decide)) rfl rfl ?_
    refine j_iload F dX6_areaOf_163 rfl rfl ?_
    refine j_iload F dX6_areaOf_165 rfl rfl ?_
    refine kX6_173 F (As := [.int (iI (P.aU (P.lp l0 0) (P.lp l0 1) E0 kk w)), .int (iI (P.aL E0 kk w))]) (rest := []) (c_X6_divisor (P.aU (P.lp l0 0) (P.lp l0 1) E0 kk w) (P.aL E0 kk w) (bd_mono bu (by decide)) (bd_mono bL (by decide))) (by decide) rfl rfl (Nat.le_of_ble_eq_true rfl) dX6_areaOf_167 rfl (ro_k ?_)
    refine j_int (y := nI (P.agc (P.lp l0 0) (P.lp l0 1) E0 kk w)) (rfl) ?_
    refine j_istore (lv' := [some (.ref (X.E.1 + 55)), some (.int (nI (l0))), some (.int (nI (kk))), some (.int (nI (w))), some (.int (x)), some (.int (nI (1))), some (.int (iI (P.lin (P.lp l0 0) (P.lp l0 1) w))), some (.int (nI (nxt E0.length kk))), some (.int (iI (trn E0 kk))), some (.int (iI (P.aU (P.lp l0 0) (P.lp l0 1) E0 kk w))), some (.int (iI (P.aL E0 kk w))), some (.int (nI (P.agc (P.lp l0 0) (P.lp l0 1) E0 kk w)))]) F dX6_areaOf_170 rfl (hL _ (by decide)) rfl rfl ?_
    refine j_iload F dX6_areaOf_172 rfl rfl ?_
    refine j_iconst (v := nI (1)) F dX6_areaOf_174 rfl (by decide) ?_
    refine j_icmp_ne F (tgt := 186) dX6_areaOf_175 (by decide) rfl (fun c_175 => ?_) (fun c_175 => ?_)
    · have c_175y : ¬ x = nI 1 := c_175
      refine j_iload F dX6_areaOf_186 rfl rfl ?_
      refine j_iload F dX6_areaOf_188 rfl rfl ?_
      refine j_idivZ F (a := P.aL E0 kk w) (b := ((P.agc (P.lp l0 0) (P.lp l0 1) E0 kk w : Nat) : Int)) rfl (nI_iI _) bL (bd_n bg) (by decide) (by decide) (by omega) dX6_areaOf_190 rfl ?_
      exact j_iret F hRt rfl (roI (by rw [if_neg c_175y]; unfold Pl.arL; rw [if_neg (by omega)])) dX6_areaOf_191
    · have c_175y : x = nI 1 := by first | exact c_175 | exact Classical.byContradiction c_175
      refine j_iload F dX6_areaOf_178 rfl rfl ?_
      refine j_iload F dX6_areaOf_180 rfl rfl ?_
      refine j_idivZ F (a := P.aU (P.lp l0 0) (P.lp l0 1) E0 kk w) (b := ((P.agc (P.lp l0 0) (P.lp l0 1) E0 kk w : Nat) : Int)) rfl (nI_iI _) bu (bd_n bg) (by decide) (by decide) (by omega) dX6_areaOf_182 rfl ?_
      refine j_goto (pc' := 191) F dX6_areaOf_183 (by decide) ?_
      exact j_iret F hRt rfl (roI (by rw [if_pos c_175y]; unfold Pl.arU; rw [if_neg (by omega)])) dX6_areaOf_191

set_option maxRecDepth 10000 in
set_option maxHeartbeats 2000000 in
theorem c_X6_events {l : Launch} {n : Nat} {E : Ev} {σ : St} {A : Ab} (hn : 69 ≤ n) (hA : AI A) (hR : MR σ A) (x : Int32) : Ct l yX6_events cX6_events 2 (some .int) 4 n E [.ref (E.1 + 55), .int (x)] σ (oM σ (o_events A x)) := by
  refine Ct.of (lv0 := [some (.ref (E.1 + 55)), some (.int (x))]) (by decide) (Nat.le_of_ble_eq_true rfl) rfl ?_
  intro X hXn hXE hXl hXL F hRt
  subst hXn hXE hXl
  have hL : ∀ i, i < 2 → i < X.nL := fun i h => by rw [hXL]; exact h
  have hTh := hR.1
  have hM := hR.2.1
  have hG := hA.1
  have hBd := hG.1
  have hWl := hG.2.1
  have hLm := hG.2.2.1
  have hB0 := hBd
  obtain ⟨b1, b2, b3, b4, b5, b6, b7⟩ := hB0
  refine j_aload_n F dX6_events_0 rfl rfl ?_
  refine j_iconst (v := nI (0)) F dX6_events_1 rfl (by decide) ?_
  refine pX6_56 hn F dX6_events_2 rfl ?_
  refine j_store (σ' := σ) (up_id hTh) ?_
  refine j_aload_n F dX6_events_5 rfl rfl ?_
  refine j_iload_n F dX6_events_6 rfl rfl ?_
  refine kX6_141 hn F (As := [.int (x)]) (rest := []) (c_X6_isLamp hn hM hBd x) (by decide) rfl rfl (Nat.le_of_ble_eq_true rfl) dX6_events_7 rfl (ro_k ?_)
  refine j_if_neB F (x := inR x A.P.nl) (tgt := 15) dX6_events_10 (by decide) rfl (fun c_10 => ?_) (fun c_10 => ?_)
  · have hz := c_10
    obtain ⟨j, hj, rfl⟩ := inR_t c_10 (by omega)
    refine j_aload_n F dX6_events_15 rfl rfl ?_
    refine j_iload_n F dX6_events_16 rfl rfl ?_
    refine kX6_198 hn F (As := [.int (nI (j))]) (rest := []) (c_X6_laysEvents hn hM hBd hWl hLm j hj) (by decide) rfl rfl (Nat.le_of_ble_eq_true rfl) dX6_events_17 rfl (fun v_17 σ_17 q_17 => ?_)
    obtain ⟨rfl, v_17z, f_17⟩ := q_17
    rw [ev_eq hWl j] at v_17z
    have hM_17 := f_17.mp hM
    have hR_17 := f_17.mr hR
    have hE100 := EC_len hBd j
    have hERB := EC_RB hBd (hLm j hj)
    have hlo := hLm j hj
    unfold LampOK at hlo
    refine j_aload_n F dX6_events_20 rfl rfl ?_
    refine gX6_176 hn F dX6_events_21 rfl ?_
    refine j_int (y := nI ((A.P.EC j).length)) (v_17z.1) ?_
    exact j_iret F hRt rfl (oM_q (by rw [if_pos hz, tn_n (by omega)]) hR_17 f_17.m) dX6_events_24
  · have hz : ¬ inR x A.P.nl = true := by rw [c_10]; decide
    refine j_iconst (v := (-1 : Int32)) F dX6_events_13 rfl (by decide) ?_
    exact j_iret F hRt rfl (oM_q (if_neg hz) hR FrM.rf) dX6_events_14

set_option maxRecDepth 10000 in
set_option maxHeartbeats 2000000 in
theorem c_X6_event {l : Launch} {n : Nat} {E : Ev} {σ : St} {A : Ab} (hn : 69 ≤ n) (hA : AI A) (hR : MR σ A) (l0 k0 x : Int32) : Ct l yX6_event cX6_event 4 (some .int) 4 n E [.ref (E.1 + 55), .int (l0), .int (k0), .int (x)] σ (oM σ (o_event A l0 k0 x)) := by
  refine Ct.of (lv0 := [some (.ref (E.1 + 55)), some (.int (l0)), some (.int (k0)), some (.int (x))]) (by decide) (Nat.le_of_ble_eq_true rfl) rfl ?_
  intro X hXn hXE hXl hXL F hRt
  subst hXn hXE hXl
  have hL : ∀ i, i < 4 → i < X.nL := fun i h => by rw [hXL]; exact h
  have hTh := hR.1
  have hM := hR.2.1
  have hG := hA.1
  have hBd := hG.1
  have hWl := hG.2.1
  have hLm := hG.2.2.1
  have hB0 := hBd
  obtain ⟨b1, b2, b3, b4, b5, b6, b7⟩ := hB0
  refine j_aload_n F dX6_event_0 rfl rfl ?_
  refine j_iconst (v := nI (0)) F dX6_event_1 rfl (by decide) ?_
  refine pX6_56 hn F dX6_event_2 rfl ?_
  refine j_store (σ' := σ) (up_id hTh) ?_
  refine j_aload_n F dX6_event_5 rfl rfl ?_
  refine j_iload_n F dX6_event_6 rfl rfl ?_
  refine kX6_141 hn F (As := [.int (l0)]) (rest := []) (c_X6_isLamp hn hM hBd l0) (by decide) rfl rfl (Nat.le_of_ble_eq_true rfl) dX6_event_7 rfl (ro_k ?_)
  refine j_if_eqB F (x := inR l0 A.P.nl) (tgt := 26) dX6_event_10 (by decide) rfl (fun c_10 => ?_) (fun c_10 => ?_)
  · have hz : ¬ (inR l0 A.P.nl = true ∧ ¬ k0 < 0 ∧ ¬ x < 0 ∧ x ≤ nI 1 ∧ k0 < nI (A.P.EC (tn l0)).length) := fun q => by rw [c_10] at q; exact absurd q.1 (by decide)
    refine j_sipush (v := (-1000 : Int32)) F dX6_event_26 rfl (by decide) ?_
    exact j_iret F hRt rfl (oM_q (if_neg hz) hR FrM.rf) dX6_event_29
  · refine j_iload_n F dX6_event_13 rfl rfl ?_
    refine j_iconst (v := nI (0)) F dX6_event_14 rfl (by decide) ?_
    refine j_iconst (v := nI (1)) F dX6_event_15 rfl (by decide) ?_
    refine kX6_63 F (As := [.int (x), .int (nI (0)), .int (nI (1))]) (rest := []) (c_X6_in x (nI (0)) (nI (1))) (by decide) rfl rfl (Nat.le_of_ble_eq_true rfl) dX6_event_16 rfl (ro_k ?_)
    refine j_int (y := bI (decide (¬ x < 0 ∧ x ≤ nI 1))) (congrArg bI (in_k (by decide))) ?_
    refine j_if_eqB F (x := decide (¬ x < 0 ∧ x ≤ nI 1)) (tgt := 26) dX6_event_19 (by decide) rfl (fun c_19 => ?_) (fun c_19 => ?_)
    · have hz : ¬ (inR l0 A.P.nl = true ∧ ¬ k0 < 0 ∧ ¬ x < 0 ∧ x ≤ nI 1 ∧ k0 < nI (A.P.EC (tn l0)).length) := fun q => of_decide_eq_false c_19 ⟨q.2.2.1, q.2.2.2.1⟩
      refine j_sipush (v := (-1000 : Int32)) F dX6_event_26 rfl (by decide) ?_
      exact j_iret F hRt rfl (oM_q (if_neg hz) hR FrM.rf) dX6_event_29
    · refine j_iload_n F dX6_event_22 rfl rfl ?_
      refine j_if_ge F (tgt := 30) dX6_event_23 (by decide) rfl (fun c_23 => ?_) (fun c_23 => ?_)
      · have hxx := of_decide_eq_true c_19
        have hk0 : ¬ k0 < 0 := Int32.not_lt.mpr c_23
        have hs0 := c_10
        obtain ⟨j, hj, rfl⟩ := inR_t c_10 (by omega)
        refine j_aload_n F dX6_event_30 rfl rfl ?_
        refine j_iload_n F dX6_event_31 rfl rfl ?_
        refine kX6_198 hn F (As := [.int (nI (j))]) (rest := []) (c_X6_laysEvents hn hM hBd hWl hLm j hj) (by decide) rfl rfl (Nat.le_of_ble_eq_true rfl) dX6_event_32 rfl (fun v_32 σ_32 q_32 => ?_)
        obtain ⟨rfl, v_32z, f_32⟩ := q_32
        rw [ev_eq hWl j] at v_32z
        have hM_32 := f_32.mp hM
        have hR_32 := f_32.mr hR
        have hE100 := EC_len hBd j
        have hERB := EC_RB hBd (hLm j hj)
        have hlo := hLm j hj
        unfold LampOK at hlo
        refine j_iload_n F dX6_event_35 rfl rfl ?_
        refine j_aload_n F dX6_event_36 rfl rfl ?_
        refine gX6_176 hn F dX6_event_37 rfl ?_
        refine j_int (y := nI ((A.P.EC j).length)) (v_32z.1) ?_
        refine j_icmp_lt F (tgt := 49) dX6_event_40 (by decide) rfl (fun c_40 => ?_) (fun c_40 => ?_)
        · have hz : inR (nI j) A.P.nl = true ∧ ¬ k0 < 0 ∧ ¬ x < 0 ∧ x ≤ nI 1 ∧ k0 < nI (A.P.EC (tn (nI j))).length := ⟨hs0, hk0, hxx.1, hxx.2, by rw [tn_n (by omega)]; exact c_40⟩
          obtain ⟨i, hi, rfl⟩ := rg_lt hk0 c_40 (by omega)
          refine j_iload_n F dX6_event_49 rfl rfl ?_
          refine j_if_ne F (tgt := 62) dX6_event_50 (by decide) rfl (fun c_50 => ?_) (fun c_50 => ?_)
          · have c_50z : ¬ x = 0 := c_50
            refine j_aload_n F dX6_event_62 rfl rfl ?_
            refine gX6_44 hn F dX6_event_63 rfl ?_
            refine j_iload_n F dX6_event_66 rfl rfl ?_
            refine j_iaload (a := i) F (by omega) rfl rfl (by omega) (by decide) dX6_event_67 rfl ?_
            refine j_int (y := iI (((A.P.EC j).getD i (0, 0)).2)) ((v_32z.2 i hi).2) ?_
            exact j_iret F hRt rfl (oM_q (by rw [if_pos hz, tn_n (show j < 2147483648 by omega), tn_n (show i < 2147483648 by omega)]; first | rw [if_pos c_50z] | rw [if_neg c_50z]) hR_32 f_32.m) dX6_event_68
          · have c_50z : x = 0 := by first | exact c_50 | exact Classical.byContradiction c_50
            refine j_aload_n F dX6_event_53 rfl rfl ?_
            refine gX6_41 hn F dX6_event_54 rfl ?_
            refine j_iload_n F dX6_event_57 rfl rfl ?_
            refine j_iaload (a := i) F (by omega) rfl rfl (by omega) (by decide) dX6_event_58 rfl ?_
            refine j_int (y := iI (((A.P.EC j).getD i (0, 0)).1)) ((v_32z.2 i hi).1) ?_
            refine j_goto (pc' := 68) F dX6_event_59 (by decide) ?_
            exact j_iret F hRt rfl (oM_q (by rw [if_pos hz, tn_n (show j < 2147483648 by omega), tn_n (show i < 2147483648 by omega)]; first | rw [if_pos c_50z] | rw [if_neg c_50z]) hR_32 f_32.m) dX6_event_68
        · have hz : ¬ (inR (nI j) A.P.nl = true ∧ ¬ k0 < 0 ∧ ¬ x < 0 ∧ x ≤ nI 1 ∧ k0 < nI (A.P.EC (tn (nI j))).length) := fun q => c_40 (by have r := q.2.2.2.2; rw [tn_n (by omega)] at r; exact r)
          refine j_sipush (v := (-1000 : Int32)) F dX6_event_43 rfl (by decide) ?_
          refine j_goto (pc' := 68) F dX6_event_46 (by decide) ?_
          exact j_iret F hRt rfl (oM_q (if_neg hz) hR_32 f_32.m) dX6_event_68
      · have hz : ¬ (inR l0 A.P.nl = true ∧ ¬ k0 < 0 ∧ ¬ x < 0 ∧ x ≤ nI 1 ∧ k0 < nI (A.P.EC (tn l0)).length) := fun q => absurd (Int32.not_le.mp c_23) q.2.1
        refine j_sipush (v := (-1000 : Int32)) F dX6_event_26 rfl (by decide) ?_
        exact j_iret F hRt rfl (oM_q (if_neg hz) hR FrM.rf) dX6_event_29

set_option maxRecDepth 10000 in
set_option maxHeartbeats 2000000 in
theorem c_X6_sector {l : Launch} {n : Nat} {E : Ev} {σ : St} {A : Ab} (hn : 69 ≤ n) (hA : AI A) (hR : MR σ A) (l0 k0 x : Int32) : Ct l yX6_sector cX6_sector 5 (some .int) 4 n E [.ref (E.1 + 55), .int (l0), .int (k0), .int (x)] σ (oM σ (o_sector A l0 k0 x)) := by
  refine Ct.of (lv0 := [some (.ref (E.1 + 55)), some (.int (l0)), some (.int (k0)), some (.int (x)), none]) (by decide) (Nat.le_of_ble_eq_true rfl) rfl ?_
  intro X hXn hXE hXl hXL F hRt
  subst hXn hXE hXl
  have hL : ∀ i, i < 5 → i < X.nL := fun i h => by rw [hXL]; exact h
  have hTh := hR.1
  have hM := hR.2.1
  have hG := hA.1
  have hBd := hG.1
  have hWl := hG.2.1
  have hLm := hG.2.2.1
  have hB0 := hBd
  obtain ⟨b1, b2, b3, b4, b5, b6, b7⟩ := hB0
  refine j_aload_n F dX6_sector_0 rfl rfl ?_
  refine j_iconst (v := nI (0)) F dX6_sector_1 rfl (by decide) ?_
  refine pX6_56 hn F dX6_sector_2 rfl ?_
  refine j_store (σ' := σ) (up_id hTh) ?_
  refine j_aload_n F dX6_sector_5 rfl rfl ?_
  refine j_iload_n F dX6_sector_6 rfl rfl ?_
  refine kX6_141 hn F (As := [.int (l0)]) (rest := []) (c_X6_isLamp hn hM hBd l0) (by decide) rfl rfl (Nat.le_of_ble_eq_true rfl) dX6_sector_7 rfl (ro_k ?_)
  refine j_if_eqB F (x := inR l0 A.P.nl) (tgt := 26) dX6_sector_10 (by decide) rfl (fun c_10 => ?_) (fun c_10 => ?_)
  · have hz : ¬ (inR l0 A.P.nl = true ∧ ¬ k0 < 0 ∧ ¬ x < 0 ∧ x ≤ nI 2) := fun q => by rw [c_10] at q; exact absurd q.1 (by decide)
    refine j_iconst (v := (-1 : Int32)) F dX6_sector_26 rfl (by decide) ?_
    exact j_iret F hRt rfl (oM_q (if_neg hz) hR FrM.rf) dX6_sector_27
  · refine j_iload_n F dX6_sector_13 rfl rfl ?_
    refine j_iconst (v := nI (0)) F dX6_sector_14 rfl (by decide) ?_
    refine j_iconst (v := nI (2)) F dX6_sector_15 rfl (by decide) ?_
    refine kX6_63 F (As := [.int (x), .int (nI (0)), .int (nI (2))]) (rest := []) (c_X6_in x (nI (0)) (nI (2))) (by decide) rfl rfl (Nat.le_of_ble_eq_true rfl) dX6_sector_16 rfl (ro_k ?_)
    refine j_int (y := bI (decide (¬ x < 0 ∧ x ≤ nI 2))) (congrArg bI (in_k (by decide))) ?_
    refine j_if_eqB F (x := decide (¬ x < 0 ∧ x ≤ nI 2)) (tgt := 26) dX6_sector_19 (by decide) rfl (fun c_19 => ?_) (fun c_19 => ?_)
    · have hz : ¬ (inR l0 A.P.nl = true ∧ ¬ k0 < 0 ∧ ¬ x < 0 ∧ x ≤ nI 2) := fun q => of_decide_eq_false c_19 q.2.2
      refine j_iconst (v := (-1 : Int32)) F dX6_sector_26 rfl (by decide) ?_
      exact j_iret F hRt rfl (oM_q (if_neg hz) hR FrM.rf) dX6_sector_27
    · refine j_iload_n F dX6_sector_22 rfl rfl ?_
      refine j_if_ge F (tgt := 28) dX6_sector_23 (by decide) rfl (fun c_23 => ?_) (fun c_23 => ?_)
      · have hxx := of_decide_eq_true c_19
        have hk0 : ¬ k0 < 0 := Int32.not_lt.mpr c_23
        have hz : inR l0 A.P.nl = true ∧ ¬ k0 < 0 ∧ ¬ x < 0 ∧ x ≤ nI 2 := ⟨c_10, hk0, hxx.1, hxx.2⟩
        obtain ⟨j, hj, rfl⟩ := inR_t c_10 (by omega)
        refine j_aload_n F dX6_sector_28 rfl rfl ?_
        refine j_iload_n F dX6_sector_29 rfl rfl ?_
        refine kX6_198 hn F (As := [.int (nI (j))]) (rest := []) (c_X6_laysEvents hn hM hBd hWl hLm j hj) (by decide) rfl rfl (Nat.le_of_ble_eq_true rfl) dX6_sector_30 rfl (fun v_30 σ_30 q_30 => ?_)
        obtain ⟨rfl, v_30z, f_30⟩ := q_30
        rw [ev_eq hWl j] at v_30z
        have hM_30 := f_30.mp hM
        have hR_30 := f_30.mr hR
        have hE100 := EC_len hBd j
        have hERB := EC_RB hBd (hLm j hj)
        have hlo := hLm j hj
        unfold LampOK at hlo
        refine j_iload_n F dX6_sector_33 rfl rfl ?_
        refine j_aload_n F dX6_sector_34 rfl rfl ?_
        refine gX6_176 hn F dX6_sector_35 rfl ?_
        refine j_int (y := nI ((A.P.EC j).length)) (v_30z.1) ?_
        refine j_icmp_lt F (tgt := 44) dX6_sector_38 (by decide) rfl (fun c_38 => ?_) (fun c_38 => ?_)
        · have hk : k0 < nI (A.P.EC (tn (nI j))).length := by rw [tn_n (by omega)]; exact c_38
          obtain ⟨i, hi, rfl⟩ := rg_lt hk0 c_38 (by omega)
          refine j_aload_n F dX6_sector_44 rfl rfl ?_
          refine j_iload_n F dX6_sector_45 rfl rfl ?_
          refine j_iload_n F dX6_sector_46 rfl rfl ?_
          refine kX6_202 hn F (As := [.int (nI (j)), .int (nI (i))]) (rest := []) (c_X6_wallOfSector hn hM_30 hBd hWl hLm v_30z hERB hE100 j i hj (by omega)) (by decide) rfl rfl (Nat.le_of_ble_eq_true rfl) dX6_sector_47 rfl (fun v_47 σ_47 q_47 => ?_)
          obtain ⟨rfl, f_47⟩ := q_47
          obtain ⟨qw, hqw⟩ := ws_some hG hj (show i < (A.P.EC j).length by omega)
          have hq14 := fw_lt hqw
          have v_47z := f_47.ev v_30z
          have hM_47 := f_47.fe.mp hM_30
          have hR_47 := f_47.fe.mr hR_30
          have fe_47 := f_30.tr f_47.fe
          refine j_int (y := nI (qw.1)) (by show fwR (A.P.wsl j i) = _; rw [hqw]; rfl) ?_
          refine j_istore (lv' := [some (.ref (X.E.1 + 55)), some (.int (nI (j))), some (.int (nI (i))), some (.int (x)), some (.int (nI (qw.1)))]) F dX6_sector_50 rfl (hL _ (by decide)) rfl rfl ?_
          refine j_iload_n F dX6_sector_52 rfl rfl ?_
          refine j_if_ne F (tgt := 61) dX6_sector_53 (by decide) rfl (fun c_53 => ?_) (fun c_53 => ?_)
          · have c_53z : ¬ x = 0 := c_53
            refine j_aload_n F dX6_sector_61 rfl rfl ?_
            refine j_iload_n F dX6_sector_62 rfl rfl ?_
            refine j_iload_n F dX6_sector_63 rfl rfl ?_
            refine j_iload F dX6_sector_64 rfl rfl ?_
            refine j_iload_n F dX6_sector_66 rfl rfl ?_
            refine kX6_205 hn F (As := [.int (nI (j)), .int (nI (i)), .int (nI (qw.1)), .int (x)]) (rest := []) (c_X6_areaOf hn hM_47 hBd hWl hLm v_47z hERB hE100 j i hj hi qw.1 hq14 x (EC_trn hG hj hi) (agc_pos hi)) (by decide) rfl rfl (Nat.le_of_ble_eq_true rfl) dX6_sector_67 rfl (ro_k ?_)
            exact j_iret F hRt rfl (oM_q (by rw [if_pos hz, if_pos hk, tn_n (show j < 2147483648 by omega), tn_n (show i < 2147483648 by omega)]; unfold secA; rw [hqw]; exact if_neg c_53z) hR_47 fe_47.m) dX6_sector_70
          · have c_53z : x = 0 := by first | exact c_53 | exact Classical.byContradiction c_53
            refine j_iload F dX6_sector_56 rfl rfl ?_
            refine j_goto (pc' := 70) F dX6_sector_58 (by decide) ?_
            exact j_iret F hRt rfl (oM_q (by rw [if_pos hz, if_pos hk, tn_n (show j < 2147483648 by omega), tn_n (show i < 2147483648 by omega)]; unfold secA; rw [hqw]; exact if_pos c_53z) hR_47 fe_47.m) dX6_sector_70
        · have hk : ¬ k0 < nI (A.P.EC (tn (nI j))).length := by rw [tn_n (by omega)]; exact c_38
          refine j_bipush (v := (-9 : Int32)) F dX6_sector_41 rfl (by decide) ?_
          exact j_iret F hRt rfl (oM_q (by rw [if_pos hz, if_neg hk]) hR_30 f_30.m) dX6_sector_43
      · have hz : ¬ (inR l0 A.P.nl = true ∧ ¬ k0 < 0 ∧ ¬ x < 0 ∧ x ≤ nI 2) := fun q => absurd (Int32.not_le.mp c_23) q.2.1
        refine j_iconst (v := (-1 : Int32)) F dX6_sector_26 rfl (by decide) ?_
        exact j_iret F hRt rfl (oM_q (if_neg hz) hR FrM.rf) dX6_sector_27

set_option maxRecDepth 10000 in
set_option maxHeartbeats 2000000 in
theorem c_X6_walls {l : Launch} {n : Nat} {E : Ev} {σ : St} {A : Ab} (hn : 69 ≤ n) (hA : AI A) (hR : MR σ A) (x : Int32) : Ct l yX6_walls cX6_walls 4 (some .int) 4 n E [.ref (E.1 + 55), .int (x)] σ (oM σ (o_walls A x)) := by
  refine Ct.of (lv0 := [some (.ref (E.1 + 55)), some (.int (x)), none, none]) (by decide) (Nat.le_of_ble_eq_true rfl) rfl ?_
  intro X hXn hXE hXl hXL F hRt
  subst hXn hXE hXl
  have hL : ∀ i, i < 4 → i < X.nL := fun i h => by rw [hXL]; exact h
  have hTh := hR.1
  have hM := hR.2.1
  have hG := hA.1
  have hBd := hG.1
  have hWl := hG.2.1
  have hLm := hG.2.2.1
  have hB0 := hBd
  obtain ⟨b1, b2, b3, b4, b5, b6, b7⟩ := hB0
  refine j_aload_n F dX6_walls_0 rfl rfl ?_
  refine j_iconst (v := nI (0)) F dX6_walls_1 rfl (by decide) ?_
  refine pX6_56 hn F dX6_walls_2 rfl ?_
  refine j_store (σ' := σ) (up_id hTh) ?_
  refine j_aload_n F dX6_walls_5 rfl rfl ?_
  refine j_iload_n F dX6_walls_6 rfl rfl ?_
  refine kX6_141 hn F (As := [.int (x)]) (rest := []) (c_X6_isLamp hn hM hBd x) (by decide) rfl rfl (Nat.le_of_ble_eq_true rfl) dX6_walls_7 rfl (ro_k ?_)
  refine j_if_neB F (x := inR x A.P.nl) (tgt := 15) dX6_walls_10 (by decide) rfl (fun c_10 => ?_) (fun c_10 => ?_)
  · have hz := c_10
    obtain ⟨j, hj, rfl⟩ := inR_t c_10 (by omega)
    refine j_aload_n F dX6_walls_15 rfl rfl ?_
    refine j_iload_n F dX6_walls_16 rfl rfl ?_
    refine kX6_198 hn F (As := [.int (nI (j))]) (rest := []) (c_X6_laysEvents hn hM hBd hWl hLm j hj) (by decide) rfl rfl (Nat.le_of_ble_eq_true rfl) dX6_walls_17 rfl (fun v_17 σ_17 q_17 => ?_)
    obtain ⟨rfl, v_17z, f_17⟩ := q_17
    rw [ev_eq hWl j] at v_17z
    have hM_17 := f_17.mp hM
    have hR_17 := f_17.mr hR
    have hE100 := EC_len hBd j
    have hERB := EC_RB hBd (hLm j hj)
    have hlo := hLm j hj
    unfold LampOK at hlo
    refine j_iconst (v := nI (0)) F dX6_walls_20 rfl (by decide) ?_
    refine j_istore_n (lv' := [some (.ref (X.E.1 + 55)), some (.int (nI (j))), some (.int (nI (0))), none]) F dX6_walls_21 rfl (hL _ (by decide)) rfl rfl ?_
    refine j_iconst (v := nI (0)) F dX6_walls_22 rfl (by decide) ?_
    refine j_istore_n (lv' := [some (.ref (X.E.1 + 55)), some (.int (nI (j))), some (.int (nI (0))), some (.int (nI (0)))]) F dX6_walls_23 rfl (hL _ (by decide)) rfl rfl ?_
    have loop_24 : ∀ (ii : Nat), ii ≤ (A.P.EC j).length → ∀ (τ : St), (EvM τ (A.P.EC j)) → (MP τ A.P) → (MR τ A) → (FrE σ τ) → J X 24 [some (.ref (X.E.1 + 55)), some (.int (nI (j))), some (.int (nI (wbits A.P j ii))), some (.int (nI (ii)))] [] τ := by
      refine dnL (fun ii hii ih_24 => ?_)
      intro τ vτ hMτ hRτ feτ
      refine j_iload_n F dX6_walls_24 rfl rfl ?_
      refine j_aload_n F dX6_walls_25 rfl rfl ?_
      refine gX6_176 hn F dX6_walls_26 rfl ?_
      refine j_int (y := nI ((A.P.EC j).length)) (vτ.1) ?_
      refine j_icmp_geN (a := ii) (b := (A.P.EC j).length) F (by omega) (by omega) (tgt := 49) dX6_walls_29 (by decide) rfl (fun c_29 => ?_) (fun c_29 => ?_)
      · have hiN : ii = (A.P.EC j).length := by omega
        refine j_iload_n F dX6_walls_49 rfl rfl ?_
        exact j_iret F hRt rfl (oM_q (by rw [if_pos hz, tn_n (by omega), hiN]) hRτ feτ.m) dX6_walls_50
      · refine j_iload_n F dX6_walls_32 rfl rfl ?_
        refine j_iconst (v := nI (1)) F dX6_walls_33 rfl (by decide) ?_
        refine j_aload_n F dX6_walls_34 rfl rfl ?_
        refine j_iload_n F dX6_walls_35 rfl rfl ?_
        refine j_iload_n F dX6_walls_36 rfl rfl ?_
        refine kX6_202 hn F (As := [.int (nI (j)), .int (nI (ii))]) (rest := [.int (nI (1)), .int (nI (wbits A.P j ii))]) (c_X6_wallOfSector hn hMτ hBd hWl hLm vτ hERB hE100 j ii hj (by omega)) (by decide) rfl rfl (Nat.le_of_ble_eq_true rfl) dX6_walls_37 rfl (fun v_37 σ_37 q_37 => ?_)
        obtain ⟨rfl, f_37⟩ := q_37
        obtain ⟨qw, hqw⟩ := ws_some hG hj (show ii < (A.P.EC j).length by omega)
        have hq14 := fw_lt hqw
        have v_37z := f_37.ev vτ
        have hM_37 := f_37.fe.mp hMτ
        have hR_37 := f_37.fe.mr hRτ
        have fe_37 := feτ.tr f_37.fe
        refine j_int (y := nI (qw.1)) (by show fwR (A.P.wsl j ii) = _; rw [hqw]; rfl) ?_
        refine j_ishl F dX6_walls_40 rfl ?_
        refine j_ior F dX6_walls_41 rfl ?_
        refine j_int (y := nI (wbits A.P j ii ||| 2 ^ qw.1)) (or_1 (by omega)) ?_
        refine j_istore_n (lv' := [some (.ref (X.E.1 + 55)), some (.int (nI (j))), some (.int (nI (wbits A.P j ii ||| 2 ^ qw.1))), some (.int (nI (ii)))]) F dX6_walls_42 rfl (hL _ (by decide)) rfl rfl ?_
        refine j_iincN (a := ii) (c := 1) (lv' := [some (.ref (X.E.1 + 55)), some (.int (nI (j))), some (.int (nI (wbits A.P j ii ||| 2 ^ qw.1))), some (.int (nI (ii + 1)))]) F dX6_walls_43 rfl rfl (by decide) (hL _ (by decide)) rfl rfl ?_
        refine j_goto (pc' := 24) F dX6_walls_46 (by decide) ?_
        refine j_lvq (lv' := [some (.ref (X.E.1 + 55)), some (.int (nI (j))), some (.int (nI (wbits A.P j (ii + 1)))), some (.int (nI (ii + 1)))]) (by rw [show wbits A.P j ii ||| 2 ^ qw.1 = wbits A.P j (ii + 1) from by show _ = wbits A.P j ii ||| wbit A.P j ii; unfold wbit; rw [hqw]]) ?_
        exact ih_24 (by omega) σ_37 v_37z hM_37 hR_37 fe_37
    exact loop_24 0 (by omega) σ_17 v_17z hM_17 hR_17 f_17
  · have hz : ¬ inR x A.P.nl = true := by rw [c_10]; decide
    refine j_iconst (v := (-1 : Int32)) F dX6_walls_13 rfl (by decide) ?_
    exact j_iret F hRt rfl (oM_q (if_neg hz) hR FrM.rf) dX6_walls_14
