/-! ===== light ===== -/
def stopC (ac ae li al ale be en : Nat) : Bool :=
  if (ac < li ↔ ae < li) then false
  else if nI ae - nI ac ≤ 0 then decide (¬ nI al * (nI ae - nI ac) + (nI ale - nI al) * (nI li - nI ac) < nI en * (nI ae - nI ac) ∧ ¬ nI be * (nI ae - nI ac) < nI al * (nI ae - nI ac) + (nI ale - nI al) * (nI li - nI ac))
  else decide (¬ nI al * (nI ae - nI ac) + (nI ale - nI al) * (nI li - nI ac) < nI be * (nI ae - nI ac) ∧ ¬ nI en * (nI ae - nI ac) < nI al * (nI ae - nI ac) + (nI ale - nI al) * (nI li - nI ac))
def stopW (u x y len fx fy tx ty : Nat) : Bool :=
  if u = 1 then stopC (2 * fx + 1) (2 * tx + 1) (2 * x) (2 * fy + 1) (2 * ty + 1) (2 * y) (2 * y + 2 * len)
  else stopC (2 * fy + 1) (2 * ty + 1) (2 * y) (2 * fx + 1) (2 * tx + 1) (2 * x) (2 * x + 2 * len)
def Pl.stop (P : Pl) (w fx fy tx ty : Nat) : Bool := stopW (P.wl w 3) (P.wl w 0) (P.wl w 1) (P.wl w 2) fx fy tx ty
def Pl.free (P : Pl) (fx fy tx ty : Nat) (wo : Int32) : Bool := decide (∀ w, w < P.nw → 4 ≤ w → ¬ nI w = wo → P.stop w fx fy tx ty = false)
def Pl.LA (P : Pl) (x y q : Nat) (wo : Int32) : Nat := Bt (fun l => q.testBit l && P.free (P.lp l 0) (P.lp l 1) x y wo) P.nl
def Pl.LS (P : Pl) (q : Nat) (wo : Int32) (s : Nat) : Nat := P.LA (s % P.W) (s / P.W) q wo
def Pl.cL (P : Pl) (q : Nat) (wo : Int32) : Nat := fa_cnt (fun s => decide (¬ P.LS q wo s = 0)) (P.W * P.H)
def enoughL (L : Nat → Nat) (N q : Nat) : Bool := decide (∀ s, s < N → ¬ L s = 0 → ¬ (L s &&& q) = 0)
def Pl.dark (P : Pl) (L : Nat → Nat) (fx fy : Nat) : Nat := fa_cnt (fun s => decide (L s = 0) && P.free fx fy (s % P.W) (s / P.W) (-9)) (P.W * P.H)
theorem dm_1 {i j W : Nat} (h : j < W) : (i * W + j) % W = j := by rw [Nat.mul_comm, Nat.mul_add_mod]; exact Nat.mod_eq_of_lt h
theorem dm_2 {i j W : Nat} (h : j < W) : (i * W + j) / W = i := by
  rw [Nat.mul_comm, Nat.mul_add_div (by omega), Nat.div_eq_of_lt h, Nat.add_zero]
theorem sp_lt {i j W H : Nat} (hi : i < H) (hj : j < W) : i * W + j < W * H := by
  have h1 : (i + 1) * W ≤ H * W := Nat.mul_le_mul_right W hi
  rw [Nat.add_mul, Nat.one_mul] at h1
  rw [Nat.mul_comm W H]
  omega
theorem ar_le {W H : Nat} (hW : W ≤ 9) (hH : H ≤ 9) : W * H ≤ 81 := Nat.mul_le_mul hW hH
theorem upR_id (σ : St) (k : Nat) : upR σ k (σ k) = σ := by
  funext a
  by_cases h : a = k
  · subst h; rw [upR_s]
  · rw [upR_n _ _ h]
theorem upR_up (σ : St) (k i : Nat) (g : Nat → Int32) (v : Int32) : up (upR σ k g) k i v = upR σ k (upd g i v) := by
  funext a
  by_cases h : a = k
  · subst h; simp only [up, upR_s]
  · simp only [up, upR_n _ _ h]
theorem sl_n : ∀ n, n < 32 → ((nI n &&& 31).toBitVec.smod 32).toNat = n := by decide +kernel
theorem bit_n {q l : Nat} (hq : q < 2147483648) (hl : l < 31) : (nI q >>> (nI l &&& 31)) &&& nI 1 = nI (q.testBit l).toNat := by
  rw [pk_shrN hq _ l (sl_n l (by omega)), fa_and, Nat.and_one_is_mod, Nat.testBit_eq_decide_div_mod_eq]
  congr 1
  by_cases h : q / 2 ^ l % 2 = 1
  · rw [decide_eq_true h, h]; rfl
  · rw [decide_eq_false h]
    have := Nat.mod_two_eq_zero_or_one (q / 2 ^ l)
    show _ = 0
    omega
theorem tb_1 {b : Bool} (h : b.toNat = 1) : b = true := by cases b; exact absurd h (by decide); rfl
theorem tb_0 {b : Bool} (h : ¬ b.toNat = 1) : b = false := by cases b; rfl; exact absurd rfl h
theorem tb_le (b : Bool) : b.toNat ≤ 1 := by cases b <;> decide
set_option maxRecDepth 10000 in
set_option maxHeartbeats 2000000 in
theorem c_X0_isStopped {l : Launch} {n : Nat} {E : Ev} {σ : St} {k : Nat} {P : Pl} (hn : 55 ≤ n) (hk : isPl n k) (hP : PlanOK σ k P) (hBd : PB P) (hWl : ∀ w, w < P.nw → WallOK P w) (w fx fy tx ty : Nat) (hw : w < P.nw) (h1 : fx ≤ 9) (h2 : fy ≤ 9) (h3 : tx ≤ 9) (h4 : ty ≤ 9) : Ct l yX0_isStopped cX0_isStopped 16 (some .boolean) 1 n E [.ref (E.1 + k), .int (nI (w)), .int (nI (fx)), .int (nI (fy)), .int (nI (tx)), .int (nI (ty))] σ (ro (.int (bI (P.stop w fx fy tx ty))) σ) := by
  refine Ct.of (lv0 := [some (.ref (E.1 + k)), some (.int (nI (w))), some (.int (nI (fx))), some (.int (nI (fy))), some (.int (nI (tx))), some (.int (nI (ty))), none, none, none, none, none, none, none, none, none, none]) (by decide) (Nat.le_of_ble_eq_true rfl) rfl ?_
  intro X hXn hXE hXl hXL F hRt
  subst hXn hXE hXl
  have hL : ∀ i, i < 16 → i < X.nL := fun i h => by rw [hXL]; exact h
  have hB0 := hBd
  obtain ⟨b1, b2, b3, b4, b5, b6, b7⟩ := hB0
  obtain ⟨w1, w2, w3, w4, w5, w6⟩ := hWl w hw
  refine j_aload_n F dX0_isStopped_0 rfl rfl ?_
  refine j_iload_n F dX0_isStopped_1 rfl rfl ?_
  refine j_iconst (v := nI (3)) F dX0_isStopped_2 rfl (by decide) ?_
  refine kX0_25 hk F (As := [.int (nI (w)), .int (nI (3))]) (rest := []) (c_X2_wallPart hn hk hP hBd w 3 (by omega) (by decide)) (by decide) rfl rfl (Nat.le_of_ble_eq_true rfl) dX0_isStopped_3 rfl (ro_k ?_)
  refine j_iconst (v := nI (1)) F dX0_isStopped_6 rfl (by decide) ?_
  refine j_icmp_neN (a := P.wl w 3) (b := 1) F (by omega) (by omega) (tgt := 14) dX0_isStopped_7 (by decide) rfl (fun c_7 => ?_) (fun c_7 => ?_)
  · refine j_iconst (v := nI (0)) F dX0_isStopped_14 rfl (by decide) ?_
    refine j_istore (lv' := [some (.ref (X.E.1 + k)), some (.int (nI (w))), some (.int (nI (fx))), some (.int (nI (fy))), some (.int (nI (tx))), some (.int (nI (ty))), some (.int (nI (0))), none, none, none, none, none, none, none, none, none]) F dX0_isStopped_15 rfl (hL _ (by decide)) rfl rfl ?_
    refine j_iconst (v := nI (2)) F dX0_isStopped_17 rfl (by decide) ?_
    refine j_aload_n F dX0_isStopped_18 rfl rfl ?_
    refine j_iload_n F dX0_isStopped_19 rfl rfl ?_
    refine j_iload F dX0_isStopped_20 rfl rfl ?_
    refine j_if_eqN (a := 0) F (by omega) (tgt := 29) dX0_isStopped_22 (by decide) rfl (fun c_22 => ?_) (fun c_22 => False.elim (by revert c_22; decide))
    refine j_iconst (v := nI (1)) F dX0_isStopped_29 rfl (by decide) ?_
    refine kX0_25 hk F (As := [.int (nI (w)), .int (nI (1))]) (rest := [.int (nI (2))]) (c_X2_wallPart hn hk hP hBd w 1 (by omega) (by decide)) (by decide) rfl rfl (Nat.le_of_ble_eq_true rfl) dX0_isStopped_30 rfl (ro_k ?_)
    refine j_imulN (a := 2) (b := P.wl w 1) F dX0_isStopped_33 rfl ?_
    refine j_istore (lv' := [some (.ref (X.E.1 + k)), some (.int (nI (w))), some (.int (nI (fx))), some (.int (nI (fy))), some (.int (nI (tx))), some (.int (nI (ty))), some (.int (nI (0))), some (.int (nI (2 * (P.wl w 1)))), none, none, none, none, none, none, none, none]) F dX0_isStopped_34 rfl (hL _ (by decide)) rfl rfl ?_
    refine j_iconst (v := nI (2)) F dX0_isStopped_36 rfl (by decide) ?_
    refine j_iload F dX0_isStopped_37 rfl rfl ?_
    refine j_if_eqN (a := 0) F (by omega) (tgt := 46) dX0_isStopped_39 (by decide) rfl (fun c_39 => ?_) (fun c_39 => False.elim (by revert c_39; decide))
    refine j_iload_n F dX0_isStopped_46 rfl rfl ?_
    refine j_imulN (a := 2) (b := fy) F dX0_isStopped_47 rfl ?_
    refine j_iconst (v := nI (1)) F dX0_isStopped_48 rfl (by decide) ?_
    refine j_iaddN (a := 2 * fy) (b := 1) F dX0_isStopped_49 rfl ?_
    refine j_istore (lv' := [some (.ref (X.E.1 + k)), some (.int (nI (w))), some (.int (nI (fx))), some (.int (nI (fy))), some (.int (nI (tx))), some (.int (nI (ty))), some (.int (nI (0))), some (.int (nI (2 * (P.wl w 1)))), some (.int (nI ((2 * fy) + 1))), none, none, none, none, none, none, none]) F dX0_isStopped_50 rfl (hL _ (by decide)) rfl rfl ?_
    refine j_iconst (v := nI (2)) F dX0_isStopped_52 rfl (by decide) ?_
    refine j_iload F dX0_isStopped_53 rfl rfl ?_
    refine j_if_eqN (a := 0) F (by omega) (tgt := 63) dX0_isStopped_55 (by decide) rfl (fun c_55 => ?_) (fun c_55 => False.elim (by revert c_55; decide))
    refine j_iload F dX0_isStopped_63 rfl rfl ?_
    refine j_imulN (a := 2) (b := ty) F dX0_isStopped_65 rfl ?_
    refine j_iconst (v := nI (1)) F dX0_isStopped_66 rfl (by decide) ?_
    refine j_iaddN (a := 2 * ty) (b := 1) F dX0_isStopped_67 rfl ?_
    refine j_istore (lv' := [some (.ref (X.E.1 + k)), some (.int (nI (w))), some (.int (nI (fx))), some (.int (nI (fy))), some (.int (nI (tx))), some (.int (nI (ty))), some (.int (nI (0))), some (.int (nI (2 * (P.wl w 1)))), some (.int (nI ((2 * fy) + 1))), some (.int (nI ((2 * ty) + 1))), none, none, none, none, none, none]) F dX0_isStopped_68 rfl (hL _ (by decide)) rfl rfl ?_
    refine j_iload F dX0_isStopped_70 rfl rfl ?_
    refine j_iload F dX0_isStopped_72 rfl rfl ?_
    refine j_icmp_geN (a := (2 * fy) + 1) (b := 2 * (P.wl w 1)) F (by omega) (by omega) (tgt := 81) dX0_isStopped_74 (by decide) rfl (fun c_74 => ?_) (fun c_74 => ?_)
    · refine j_iconst (v := nI (0)) F dX0_isStopped_81 rfl (by decide) ?_
      refine j_iload F dX0_isStopped_82 rfl rfl ?_
      refine j_iload F dX0_isStopped_84 rfl rfl ?_
      refine j_icmp_geN (a := (2 * ty) + 1) (b := 2 * (P.wl w 1)) F (by omega) (by omega) (tgt := 93) dX0_isStopped_86 (by decide) rfl (fun c_86 => ?_) (fun c_86 => ?_)
      · refine j_iconst (v := nI (0)) F dX0_isStopped_93 rfl (by decide) ?_
        refine j_icmp_neN (a := 0) (b := 0) F (by omega) (by omega) (tgt := 99) dX0_isStopped_94 (by decide) rfl (fun c_94 => False.elim (by revert c_94; decide)) (fun c_94 => ?_)
        have hz : P.stop w fx fy tx ty = false := by
          unfold Pl.stop stopW
          first | rw [if_pos c_7] | rw [if_neg c_7]
          unfold stopC
          rw [if_pos (by omega)]
        refine j_iconst (v := nI (0)) F dX0_isStopped_97 rfl (by decide) ?_
        exact j_iret F hRt rfl (roB_f hz) dX0_isStopped_98
      · refine j_iconst (v := nI (1)) F dX0_isStopped_89 rfl (by decide) ?_
        refine j_goto (pc' := 94) F dX0_isStopped_90 (by decide) ?_
        refine j_icmp_neN (a := 0) (b := 1) F (by omega) (by omega) (tgt := 99) dX0_isStopped_94 (by decide) rfl (fun c_94 => ?_) (fun c_94 => False.elim (by revert c_94; decide))
        refine j_iconst (v := nI (2)) F dX0_isStopped_99 rfl (by decide) ?_
        refine j_iload F dX0_isStopped_100 rfl rfl ?_
        refine j_if_eqN (a := 0) F (by omega) (tgt := 109) dX0_isStopped_102 (by decide) rfl (fun c_102 => ?_) (fun c_102 => False.elim (by revert c_102; decide))
        refine j_iload_n F dX0_isStopped_109 rfl rfl ?_
        refine j_imulN (a := 2) (b := fx) F dX0_isStopped_110 rfl ?_
        refine j_iconst (v := nI (1)) F dX0_isStopped_111 rfl (by decide) ?_
        refine j_iaddN (a := 2 * fx) (b := 1) F dX0_isStopped_112 rfl ?_
        refine j_istore (lv' := [some (.ref (X.E.1 + k)), some (.int (nI (w))), some (.int (nI (fx))), some (.int (nI (fy))), some (.int (nI (tx))), some (.int (nI (ty))), some (.int (nI (0))), some (.int (nI (2 * (P.wl w 1)))), some (.int (nI ((2 * fy) + 1))), some (.int (nI ((2 * ty) + 1))), some (.int (nI ((2 * fx) + 1))), none, none, none, none, none]) F dX0_isStopped_113 rfl (hL _ (by decide)) rfl rfl ?_
        refine j_iconst (v := nI (2)) F dX0_isStopped_115 rfl (by decide) ?_
        refine j_iload F dX0_isStopped_116 rfl rfl ?_
        refine j_if_eqN (a := 0) F (by omega) (tgt := 126) dX0_isStopped_118 (by decide) rfl (fun c_118 => ?_) (fun c_118 => False.elim (by revert c_118; decide))
        refine j_iload F dX0_isStopped_126 rfl rfl ?_
        refine j_imulN (a := 2) (b := tx) F dX0_isStopped_128 rfl ?_
        refine j_iconst (v := nI (1)) F dX0_isStopped_129 rfl (by decide) ?_
        refine j_iaddN (a := 2 * tx) (b := 1) F dX0_isStopped_130 rfl ?_
        refine j_istore (lv' := [some (.ref (X.E.1 + k)), some (.int (nI (w))), some (.int (nI (fx))), some (.int (nI (fy))), some (.int (nI (tx))), some (.int (nI (ty))), some (.int (nI (0))), some (.int (nI (2 * (P.wl w 1)))), some (.int (nI ((2 * fy) + 1))), some (.int (nI ((2 * ty) + 1))), some (.int (nI ((2 * fx) + 1))), some (.int (nI ((2 * tx) + 1))), none, none, none, none]) F dX0_isStopped_131 rfl (hL _ (by decide)) rfl rfl ?_
        refine j_iconst (v := nI (2)) F dX0_isStopped_133 rfl (by decide) ?_
        refine j_aload_n F dX0_isStopped_134 rfl rfl ?_
        refine j_iload_n F dX0_isStopped_135 rfl rfl ?_
        refine j_iload F dX0_isStopped_136 rfl rfl ?_
        refine j_if_eqN (a := 0) F (by omega) (tgt := 145) dX0_isStopped_138 (by decide) rfl (fun c_138 => ?_) (fun c_138 => False.elim (by revert c_138; decide))
        refine j_iconst (v := nI (0)) F dX0_isStopped_145 rfl (by decide) ?_
        refine kX0_25 hk F (As := [.int (nI (w)), .int (nI (0))]) (rest := [.int (nI (2))]) (c_X2_wallPart hn hk hP hBd w 0 (by omega) (by decide)) (by decide) rfl rfl (Nat.le_of_ble_eq_true rfl) dX0_isStopped_146 rfl (ro_k ?_)
        refine j_imulN (a := 2) (b := P.wl w 0) F dX0_isStopped_149 rfl ?_
        refine j_istore (lv' := [some (.ref (X.E.1 + k)), some (.int (nI (w))), some (.int (nI (fx))), some (.int (nI (fy))), some (.int (nI (tx))), some (.int (nI (ty))), some (.int (nI (0))), some (.int (nI (2 * (P.wl w 1)))), some (.int (nI ((2 * fy) + 1))), some (.int (nI ((2 * ty) + 1))), some (.int (nI ((2 * fx) + 1))), some (.int (nI ((2 * tx) + 1))), some (.int (nI (2 * (P.wl w 0)))), none, none, none]) F dX0_isStopped_150 rfl (hL _ (by decide)) rfl rfl ?_
        refine j_iload F dX0_isStopped_152 rfl rfl ?_
        refine j_iconst (v := nI (2)) F dX0_isStopped_154 rfl (by decide) ?_
        refine j_aload_n F dX0_isStopped_155 rfl rfl ?_
        refine j_iload_n F dX0_isStopped_156 rfl rfl ?_
        refine j_iconst (v := nI (2)) F dX0_isStopped_157 rfl (by decide) ?_
        refine kX0_25 hk F (As := [.int (nI (w)), .int (nI (2))]) (rest := [.int (nI (2)), .int (nI (2 * (P.wl w 0)))]) (c_X2_wallPart hn hk hP hBd w 2 (by omega) (by decide)) (by decide) rfl rfl (Nat.le_of_ble_eq_true rfl) dX0_isStopped_158 rfl (ro_k ?_)
        refine j_imulN (a := 2) (b := P.wl w 2) F dX0_isStopped_161 rfl ?_
        refine j_iaddN (a := 2 * (P.wl w 0)) (b := 2 * (P.wl w 2)) F dX0_isStopped_162 rfl ?_
        refine j_istore (lv' := [some (.ref (X.E.1 + k)), some (.int (nI (w))), some (.int (nI (fx))), some (.int (nI (fy))), some (.int (nI (tx))), some (.int (nI (ty))), some (.int (nI (0))), some (.int (nI (2 * (P.wl w 1)))), some (.int (nI ((2 * fy) + 1))), some (.int (nI ((2 * ty) + 1))), some (.int (nI ((2 * fx) + 1))), some (.int (nI ((2 * tx) + 1))), some (.int (nI (2 * (P.wl w 0)))), some (.int (nI ((2 * (P.wl w 0)) + (2 * (P.wl w 2))))), none, none]) F dX0_isStopped_163 rfl (hL _ (by decide)) rfl rfl ?_
        refine j_iload F dX0_isStopped_165 rfl rfl ?_
        refine j_iload F dX0_isStopped_167 rfl rfl ?_
        refine j_isub F dX0_isStopped_169 rfl ?_
        refine j_istore (lv' := [some (.ref (X.E.1 + k)), some (.int (nI (w))), some (.int (nI (fx))), some (.int (nI (fy))), some (.int (nI (tx))), some (.int (nI (ty))), some (.int (nI (0))), some (.int (nI (2 * (P.wl w 1)))), some (.int (nI ((2 * fy) + 1))), some (.int (nI ((2 * ty) + 1))), some (.int (nI ((2 * fx) + 1))), some (.int (nI ((2 * tx) + 1))), some (.int (nI (2 * (P.wl w 0)))), some (.int (nI ((2 * (P.wl w 0)) + (2 * (P.wl w 2))))), some (.int ((nI ((2 * ty) + 1) - nI ((2 * fy) + 1)))), none]) F dX0_isStopped_170 rfl (hL _ (by decide)) rfl rfl ?_
        refine j_iload F dX0_isStopped_172 rfl rfl ?_
        refine j_iload F dX0_isStopped_174 rfl rfl ?_
        refine j_imul F dX0_isStopped_176 rfl ?_
        refine j_iload F dX0_isStopped_177 rfl rfl ?_
        refine j_iload F dX0_isStopped_179 rfl rfl ?_
        refine j_isub F dX0_isStopped_181 rfl ?_
        refine j_iload F dX0_isStopped_182 rfl rfl ?_
        refine j_iload F dX0_isStopped_184 rfl rfl ?_
        refine j_isub F dX0_isStopped_186 rfl ?_
        refine j_imul F dX0_isStopped_187 rfl ?_
        refine j_iadd F dX0_isStopped_188 rfl ?_
        refine j_istore (lv' := [some (.ref (X.E.1 + k)), some (.int (nI (w))), some (.int (nI (fx))), some (.int (nI (fy))), some (.int (nI (tx))), some (.int (nI (ty))), some (.int (nI (0))), some (.int (nI (2 * (P.wl w 1)))), some (.int (nI ((2 * fy) + 1))), some (.int (nI ((2 * ty) + 1))), some (.int (nI ((2 * fx) + 1))), some (.int (nI ((2 * tx) + 1))), some (.int (nI (2 * (P.wl w 0)))), some (.int (nI ((2 * (P.wl w 0)) + (2 * (P.wl w 2))))), some (.int ((nI ((2 * ty) + 1) - nI ((2 * fy) + 1)))), some (.int (((nI ((2 * fx) + 1) * (nI ((2 * ty) + 1) - nI ((2 * fy) + 1))) + ((nI ((2 * tx) + 1) - nI ((2 * fx) + 1)) * (nI (2 * (P.wl w 1)) - nI ((2 * fy) + 1))))))]) F dX0_isStopped_189 rfl (hL _ (by decide)) rfl rfl ?_
        refine j_iload F dX0_isStopped_191 rfl rfl ?_
        refine j_if_le F (tgt := 224) dX0_isStopped_193 (by decide) rfl (fun c_193 => ?_) (fun c_193 => ?_)
        · refine j_iload F dX0_isStopped_224 rfl rfl ?_
          refine j_iload F dX0_isStopped_226 rfl rfl ?_
          refine j_imul F dX0_isStopped_228 rfl ?_
          refine j_iload F dX0_isStopped_229 rfl rfl ?_
          refine j_icmp_gt F (tgt := 248) dX0_isStopped_231 (by decide) rfl (fun c_231 => ?_) (fun c_231 => ?_)
          · have hz : P.stop w fx fy tx ty = false := by
              unfold Pl.stop stopW
              first | rw [if_pos c_7] | rw [if_neg c_7]
              unfold stopC
              rw [if_neg (by omega)]
              rw [if_pos c_193]
              exact decide_eq_false (fun q => q.1 c_231)
            refine j_iconst (v := nI (0)) F dX0_isStopped_248 rfl (by decide) ?_
            exact j_iret F hRt rfl (roB_f hz) dX0_isStopped_249
          · refine j_iload F dX0_isStopped_234 rfl rfl ?_
            refine j_iload F dX0_isStopped_236 rfl rfl ?_
            refine j_iload F dX0_isStopped_238 rfl rfl ?_
            refine j_imul F dX0_isStopped_240 rfl ?_
            refine j_icmp_gt F (tgt := 248) dX0_isStopped_241 (by decide) rfl (fun c_241 => ?_) (fun c_241 => ?_)
            · have hz : P.stop w fx fy tx ty = false := by
                unfold Pl.stop stopW
                first | rw [if_pos c_7] | rw [if_neg c_7]
                unfold stopC
                rw [if_neg (by omega)]
                rw [if_pos c_193]
                exact decide_eq_false (fun q => q.2 c_241)
              refine j_iconst (v := nI (0)) F dX0_isStopped_248 rfl (by decide) ?_
              exact j_iret F hRt rfl (roB_f hz) dX0_isStopped_249
            · have hz : P.stop w fx fy tx ty = true := by
                unfold Pl.stop stopW
                first | rw [if_pos c_7] | rw [if_neg c_7]
                unfold stopC
                rw [if_neg (by omega)]
                rw [if_pos c_193]
                exact decide_eq_true ⟨c_231, c_241⟩
              refine j_iconst (v := nI (1)) F dX0_isStopped_244 rfl (by decide) ?_
              refine j_goto (pc' := 249) F dX0_isStopped_245 (by decide) ?_
              exact j_iret F hRt rfl (roB_t hz) dX0_isStopped_249
        · refine j_iload F dX0_isStopped_196 rfl rfl ?_
          refine j_iload F dX0_isStopped_198 rfl rfl ?_
          refine j_imul F dX0_isStopped_200 rfl ?_
          refine j_iload F dX0_isStopped_201 rfl rfl ?_
          refine j_icmp_gt F (tgt := 220) dX0_isStopped_203 (by decide) rfl (fun c_203 => ?_) (fun c_203 => ?_)
          · have hz : P.stop w fx fy tx ty = false := by
              unfold Pl.stop stopW
              first | rw [if_pos c_7] | rw [if_neg c_7]
              unfold stopC
              rw [if_neg (by omega)]
              rw [if_neg c_193]
              exact decide_eq_false (fun q => q.1 c_203)
            refine j_iconst (v := nI (0)) F dX0_isStopped_220 rfl (by decide) ?_
            refine j_goto (pc' := 249) F dX0_isStopped_221 (by decide) ?_
            exact j_iret F hRt rfl (roB_f hz) dX0_isStopped_249
          · refine j_iload F dX0_isStopped_206 rfl rfl ?_
            refine j_iload F dX0_isStopped_208 rfl rfl ?_
            refine j_iload F dX0_isStopped_210 rfl rfl ?_
            refine j_imul F dX0_isStopped_212 rfl ?_
            refine j_icmp_gt F (tgt := 220) dX0_isStopped_213 (by decide) rfl (fun c_213 => ?_) (fun c_213 => ?_)
            · have hz : P.stop w fx fy tx ty = false := by
                unfold Pl.stop stopW
                first | rw [if_pos c_7] | rw [if_neg c_7]
                unfold stopC
                rw [if_neg (by omega)]
                rw [if_neg c_193]
                exact decide_eq_false (fun q => q.2 c_213)
              refine j_iconst (v := nI (0)) F dX0_isStopped_220 rfl (by decide) ?_
              refine j_goto (pc' := 249) F dX0_isStopped_221 (by decide) ?_
              exact j_iret F hRt rfl (roB_f hz) dX0_isStopped_249
            · have hz : P.stop w fx fy tx ty = true := by
                unfold Pl.stop stopW
                first | rw [if_pos c_7] | rw [if_neg c_7]
                unfold stopC
                rw [if_neg (by omega)]
                rw [if_neg c_193]
                exact decide_eq_true ⟨c_203, c_213⟩
              refine j_iconst (v := nI (1)) F dX0_isStopped_216 rfl (by decide) ?_
              refine j_goto (pc' := 249) F dX0_isStopped_217 (by decide) ?_
              exact j_iret F hRt rfl (roB_t hz) dX0_isStopped_249
    · refine j_iconst (v := nI (1)) F dX0_isStopped_77 rfl (by decide) ?_
      refine j_goto (pc' := 82) F dX0_isStopped_78 (by decide) ?_
      refine j_iload F dX0_isStopped_82 rfl rfl ?_
      refine j_iload F dX0_isStopped_84 rfl rfl ?_
      refine j_icmp_geN (a := (2 * ty) + 1) (b := 2 * (P.wl w 1)) F (by omega) (by omega) (tgt := 93) dX0_isStopped_86 (by decide) rfl (fun c_86 => ?_) (fun c_86 => ?_)
      · refine j_iconst (v := nI (0)) F dX0_isStopped_93 rfl (by decide) ?_
        refine j_icmp_neN (a := 1) (b := 0) F (by omega) (by omega) (tgt := 99) dX0_isStopped_94 (by decide) rfl (fun c_94 => ?_) (fun c_94 => False.elim (by revert c_94; decide))
        refine j_iconst (v := nI (2)) F dX0_isStopped_99 rfl (by decide) ?_
        refine j_iload F dX0_isStopped_100 rfl rfl ?_
        refine j_if_eqN (a := 0) F (by omega) (tgt := 109) dX0_isStopped_102 (by decide) rfl (fun c_102 => ?_) (fun c_102 => False.elim (by revert c_102; decide))
        refine j_iload_n F dX0_isStopped_109 rfl rfl ?_
        refine j_imulN (a := 2) (b := fx) F dX0_isStopped_110 rfl ?_
        refine j_iconst (v := nI (1)) F dX0_isStopped_111 rfl (by decide) ?_
        refine j_iaddN (a := 2 * fx) (b := 1) F dX0_isStopped_112 rfl ?_
        refine j_istore (lv' := [some (.ref (X.E.1 + k)), some (.int (nI (w))), some (.int (nI (fx))), some (.int (nI (fy))), some (.int (nI (tx))), some (.int (nI (ty))), some (.int (nI (0))), some (.int (nI (2 * (P.wl w 1)))), some (.int (nI ((2 * fy) + 1))), some (.int (nI ((2 * ty) + 1))), some (.int (nI ((2 * fx) + 1))), none, none, none, none, none]) F dX0_isStopped_113 rfl (hL _ (by decide)) rfl rfl ?_
        refine j_iconst (v := nI (2)) F dX0_isStopped_115 rfl (by decide) ?_
        refine j_iload F dX0_isStopped_116 rfl rfl ?_
        refine j_if_eqN (a := 0) F (by omega) (tgt := 126) dX0_isStopped_118 (by decide) rfl (fun c_118 => ?_) (fun c_118 => False.elim (by revert c_118; decide))
        refine j_iload F dX0_isStopped_126 rfl rfl ?_
        refine j_imulN (a := 2) (b := tx) F dX0_isStopped_128 rfl ?_
        refine j_iconst (v := nI (1)) F dX0_isStopped_129 rfl (by decide) ?_
        refine j_iaddN (a := 2 * tx) (b := 1) F dX0_isStopped_130 rfl ?_
        refine j_istore (lv' := [some (.ref (X.E.1 + k)), some (.int (nI (w))), some (.int (nI (fx))), some (.int (nI (fy))), some (.int (nI (tx))), some (.int (nI (ty))), some (.int (nI (0))), some (.int (nI (2 * (P.wl w 1)))), some (.int (nI ((2 * fy) + 1))), some (.int (nI ((2 * ty) + 1))), some (.int (nI ((2 * fx) + 1))), some (.int (nI ((2 * tx) + 1))), none, none, none, none]) F dX0_isStopped_131 rfl (hL _ (by decide)) rfl rfl ?_
        refine j_iconst (v := nI (2)) F dX0_isStopped_133 rfl (by decide) ?_
        refine j_aload_n F dX0_isStopped_134 rfl rfl ?_
        refine j_iload_n F dX0_isStopped_135 rfl rfl ?_
        refine j_iload F dX0_isStopped_136 rfl rfl ?_
        refine j_if_eqN (a := 0) F (by omega) (tgt := 145) dX0_isStopped_138 (by decide) rfl (fun c_138 => ?_) (fun c_138 => False.elim (by revert c_138; decide))
        refine j_iconst (v := nI (0)) F dX0_isStopped_145 rfl (by decide) ?_
        refine kX0_25 hk F (As := [.int (nI (w)), .int (nI (0))]) (rest := [.int (nI (2))]) (c_X2_wallPart hn hk hP hBd w 0 (by omega) (by decide)) (by decide) rfl rfl (Nat.le_of_ble_eq_true rfl) dX0_isStopped_146 rfl (ro_k ?_)
        refine j_imulN (a := 2) (b := P.wl w 0) F dX0_isStopped_149 rfl ?_
        refine j_istore (lv' := [some (.ref (X.E.1 + k)), some (.int (nI (w))), some (.int (nI (fx))), some (.int (nI (fy))), some (.int (nI (tx))), some (.int (nI (ty))), some (.int (nI (0))), some (.int (nI (2 * (P.wl w 1)))), some (.int (nI ((2 * fy) + 1))), some (.int (nI ((2 * ty) + 1))), some (.int (nI ((2 * fx) + 1))), some (.int (nI ((2 * tx) + 1))), some (.int (nI (2 * (P.wl w 0)))), none, none, none]) F dX0_isStopped_150 rfl (hL _ (by decide)) rfl rfl ?_
        refine j_iload F dX0_isStopped_152 rfl rfl ?_
        refine j_iconst (v := nI (2)) F dX0_isStopped_154 rfl (by decide) ?_
        refine j_aload_n F dX0_isStopped_155 rfl rfl ?_
        refine j_iload_n F dX0_isStopped_156 rfl rfl ?_
        refine j_iconst (v := nI (2)) F dX0_isStopped_157 rfl (by decide) ?_
        refine kX0_25 hk F (As := [.int (nI (w)), .int (nI (2))]) (rest := [.int (nI (2)), .int (nI (2 * (P.wl w 0)))]) (c_X2_wallPart hn hk hP hBd w 2 (by omega) (by decide)) (by decide) rfl rfl (Nat.le_of_ble_eq_true rfl) dX0_isStopped_158 rfl (ro_k ?_)
        refine j_imulN (a := 2) (b := P.wl w 2) F dX0_isStopped_161 rfl ?_
        refine j_iaddN (a := 2 * (P.wl w 0)) (b := 2 * (P.wl w 2)) F dX0_isStopped_162 rfl ?_
        refine j_istore (lv' := [some (.ref (X.E.1 + k)), some (.int (nI (w))), some (.int (nI (fx))), some (.int (nI (fy))), some (.int (nI (tx))), some (.int (nI (ty))), some (.int (nI (0))), some (.int (nI (2 * (P.wl w 1)))), some (.int (nI ((2 * fy) + 1))), some (.int (nI ((2 * ty) + 1))), some (.int (nI ((2 * fx) + 1))), some (.int (nI ((2 * tx) + 1))), some (.int (nI (2 * (P.wl w 0)))), some (.int (nI ((2 * (P.wl w 0)) + (2 * (P.wl w 2))))), none, none]) F dX0_isStopped_163 rfl (hL _ (by decide)) rfl rfl ?_
        refine j_iload F dX0_isStopped_165 rfl rfl ?_
        refine j_iload F dX0_isStopped_167 rfl rfl ?_
        refine j_isub F dX0_isStopped_169 rfl ?_
        refine j_istore (lv' := [some (.ref (X.E.1 + k)), some (.int (nI (w))), some (.int (nI (fx))), some (.int (nI (fy))), some (.int (nI (tx))), some (.int (nI (ty))), some (.int (nI (0))), some (.int (nI (2 * (P.wl w 1)))), some (.int (nI ((2 * fy) + 1))), some (.int (nI ((2 * ty) + 1))), some (.int (nI ((2 * fx) + 1))), some (.int (nI ((2 * tx) + 1))), some (.int (nI (2 * (P.wl w 0)))), some (.int (nI ((2 * (P.wl w 0)) + (2 * (P.wl w 2))))), some (.int ((nI ((2 * ty) + 1) - nI ((2 * fy) + 1)))), none]) F dX0_isStopped_170 rfl (hL _ (by decide)) rfl rfl ?_
        refine j_iload F dX0_isStopped_172 rfl rfl ?_
        refine j_iload F dX0_isStopped_174 rfl rfl ?_
        refine j_imul F dX0_isStopped_176 rfl ?_
        refine j_iload F dX0_isStopped_177 rfl rfl ?_
        refine j_iload F dX0_isStopped_179 rfl rfl ?_
        refine j_isub F dX0_isStopped_181 rfl ?_
        refine j_iload F dX0_isStopped_182 rfl rfl ?_
        refine j_iload F dX0_isStopped_184 rfl rfl ?_
        refine j_isub F dX0_isStopped_186 rfl ?_
        refine j_imul F dX0_isStopped_187 rfl ?_
        refine j_iadd F dX0_isStopped_188 rfl ?_
        refine j_istore (lv' := [some (.ref (X.E.1 + k)), some (.int (nI (w))), some (.int (nI (fx))), some (.int (nI (fy))), some (.int (nI (tx))), some (.int (nI (ty))), some (.int (nI (0))), some (.int (nI (2 * (P.wl w 1)))), some (.int (nI ((2 * fy) + 1))), some (.int (nI ((2 * ty) + 1))), some (.int (nI ((2 * fx) + 1))), some (.int (nI ((2 * tx) + 1))), some (.int (nI (2 * (P.wl w 0)))), some (.int (nI ((2 * (P.wl w 0)) + (2 * (P.wl w 2))))), some (.int ((nI ((2 * ty) + 1) - nI ((2 * fy) + 1)))), some (.int (((nI ((2 * fx) + 1) * (nI ((2 * ty) + 1) - nI ((2 * fy) + 1))) + ((nI ((2 * tx) + 1) - nI ((2 * fx) + 1)) * (nI (2 * (P.wl w 1)) - nI ((2 * fy) + 1))))))]) F dX0_isStopped_189 rfl (hL _ (by decide)) rfl rfl ?_
        refine j_iload F dX0_isStopped_191 rfl rfl ?_
        refine j_if_le F (tgt := 224) dX0_isStopped_193 (by decide) rfl (fun c_193 => ?_) (fun c_193 => ?_)
        · refine j_iload F dX0_isStopped_224 rfl rfl ?_
          refine j_iload F dX0_isStopped_226 rfl rfl ?_
          refine j_imul F dX0_isStopped_228 rfl ?_
          refine j_iload F dX0_isStopped_229 rfl rfl ?_
          refine j_icmp_gt F (tgt := 248) dX0_isStopped_231 (by decide) rfl (fun c_231 => ?_) (fun c_231 => ?_)
          · have hz : P.stop w fx fy tx ty = false := by
              unfold Pl.stop stopW
              first | rw [if_pos c_7] | rw [if_neg c_7]
              unfold stopC
              rw [if_neg (by omega)]
              rw [if_pos c_193]
              exact decide_eq_false (fun q => q.1 c_231)
            refine j_iconst (v := nI (0)) F dX0_isStopped_248 rfl (by decide) ?_
            exact j_iret F hRt rfl (roB_f hz) dX0_isStopped_249
          · refine j_iload F dX0_isStopped_234 rfl rfl ?_
            refine j_iload F dX0_isStopped_236 rfl rfl ?_
            refine j_iload F dX0_isStopped_238 rfl rfl ?_
            refine j_imul F dX0_isStopped_240 rfl ?_
            refine j_icmp_gt F (tgt := 248) dX0_isStopped_241 (by decide) rfl (fun c_241 => ?_) (fun c_241 => ?_)
            · have hz : P.stop w fx fy tx ty = false := by
                unfold Pl.stop stopW
                first | rw [if_pos c_7] | rw [if_neg c_7]
                unfold stopC
                rw [if_neg (by omega)]
                rw [if_pos c_193]
                exact decide_eq_false (fun q => q.2 c_241)
              refine j_iconst (v := nI (0)) F dX0_isStopped_248 rfl (by decide) ?_
              exact j_iret F hRt rfl (roB_f hz) dX0_isStopped_249
            · have hz : P.stop w fx fy tx ty = true := by
                unfold Pl.stop stopW
                first | rw [if_pos c_7] | rw [if_neg c_7]
                unfold stopC
                rw [if_neg (by omega)]
                rw [if_pos c_193]
                exact decide_eq_true ⟨c_231, c_241⟩
              refine j_iconst (v := nI (1)) F dX0_isStopped_244 rfl (by decide) ?_
              refine j_goto (pc' := 249) F dX0_isStopped_245 (by decide) ?_
              exact j_iret F hRt rfl (roB_t hz) dX0_isStopped_249
        · refine j_iload F dX0_isStopped_196 rfl rfl ?_
          refine j_iload F dX0_isStopped_198 rfl rfl ?_
          refine j_imul F dX0_isStopped_200 rfl ?_
          refine j_iload F dX0_isStopped_201 rfl rfl ?_
          refine j_icmp_gt F (tgt := 220) dX0_isStopped_203 (by decide) rfl (fun c_203 => ?_) (fun c_203 => ?_)
          · have hz : P.stop w fx fy tx ty = false := by
              unfold Pl.stop stopW
              first | rw [if_pos c_7] | rw [if_neg c_7]
              unfold stopC
              rw [if_neg (by omega)]
              rw [if_neg c_193]
              exact decide_eq_false (fun q => q.1 c_203)
            refine j_iconst (v := nI (0)) F dX0_isStopped_220 rfl (by decide) ?_
            refine j_goto (pc' := 249) F dX0_isStopped_221 (by decide) ?_
            exact j_iret F hRt rfl (roB_f hz) dX0_isStopped_249
          · refine j_iload F dX0_isStopped_206 rfl rfl ?_
            refine j_iload F dX0_isStopped_208 rfl rfl ?_
            refine j_iload F dX0_isStopped_210 rfl rfl ?_
            refine j_imul F dX0_isStopped_212 rfl ?_
            refine j_icmp_gt F (tgt := 220) dX0_isStopped_213 (by decide) rfl (fun c_213 => ?_) (fun c_213 => ?_)
            · have hz : P.stop w fx fy tx ty = false := by
                unfold Pl.stop stopW
                first | rw [if_pos c_7] | rw [if_neg c_7]
                unfold stopC
                rw [if_neg (by omega)]
                rw [if_neg c_193]
                exact decide_eq_false (fun q => q.2 c_213)
              refine j_iconst (v := nI (0)) F dX0_isStopped_220 rfl (by decide) ?_
              refine j_goto (pc' := 249) F dX0_isStopped_221 (by decide) ?_
              exact j_iret F hRt rfl (roB_f hz) dX0_isStopped_249
            · have hz : P.stop w fx fy tx ty = true := by
                unfold Pl.stop stopW
                first | rw [if_pos c_7] | rw [if_neg c_7]
                unfold stopC
                rw [if_neg (by omega)]
                rw [if_neg c_193]
                exact decide_eq_true ⟨c_203, c_213⟩
              refine j_iconst (v := nI (1)) F dX0_isStopped_216 rfl (by decide) ?_
              refine j_goto (pc' := 249) F dX0_isStopped_217 (by decide) ?_
              exact j_iret F hRt rfl (roB_t hz) dX0_isStopped_249
      · refine j_iconst (v := nI (1)) F dX0_isStopped_89 rfl (by decide) ?_
        refine j_goto (pc' := 94) F dX0_isStopped_90 (by decide) ?_
        refine j_icmp_neN (a := 1) (b := 1) F (by omega) (by omega) (tgt := 99) dX0_isStopped_94 (by decide) rfl (fun c_94 => False.elim (by revert c_94; decide)) (fun c_94 => ?_)
        have hz : P.stop w fx fy tx ty = false := by
          unfold Pl.stop stopW
          first | rw [if_pos c_7] | rw [if_neg c_7]
          unfold stopC
          rw [if_pos (by omega)]
        refine j_iconst (v := nI (0)) F dX0_isStopped_97 rfl (by decide) ?_
        exact j_iret F hRt rfl (roB_f hz) dX0_isStopped_98
  · refine j_iconst (v := nI (1)) F dX0_isStopped_10 rfl (by decide) ?_
    refine j_goto (pc' := 15) F dX0_isStopped_11 (by decide) ?_
    refine j_istore (lv' := [some (.ref (X.E.1 + k)), some (.int (nI (w))), some (.int (nI (fx))), some (.int (nI (fy))), some (.int (nI (tx))), some (.int (nI (ty))), some (.int (nI (1))), none, none, none, none, none, none, none, none, none]) F dX0_isStopped_15 rfl (hL _ (by decide)) rfl rfl ?_
    refine j_iconst (v := nI (2)) F dX0_isStopped_17 rfl (by decide) ?_
    refine j_aload_n F dX0_isStopped_18 rfl rfl ?_
    refine j_iload_n F dX0_isStopped_19 rfl rfl ?_
    refine j_iload F dX0_isStopped_20 rfl rfl ?_
    refine j_if_eqN (a := 1) F (by omega) (tgt := 29) dX0_isStopped_22 (by decide) rfl (fun c_22 => False.elim (by revert c_22; decide)) (fun c_22 => ?_)
    refine j_iconst (v := nI (0)) F dX0_isStopped_25 rfl (by decide) ?_
    refine j_goto (pc' := 30) F dX0_isStopped_26 (by decide) ?_
    refine kX0_25 hk F (As := [.int (nI (w)), .int (nI (0))]) (rest := [.int (nI (2))]) (c_X2_wallPart hn hk hP hBd w 0 (by omega) (by decide)) (by decide) rfl rfl (Nat.le_of_ble_eq_true rfl) dX0_isStopped_30 rfl (ro_k ?_)
    refine j_imulN (a := 2) (b := P.wl w 0) F dX0_isStopped_33 rfl ?_
    refine j_istore (lv' := [some (.ref (X.E.1 + k)), some (.int (nI (w))), some (.int (nI (fx))), some (.int (nI (fy))), some (.int (nI (tx))), some (.int (nI (ty))), some (.int (nI (1))), some (.int (nI (2 * (P.wl w 0)))), none, none, none, none, none, none, none, none]) F dX0_isStopped_34 rfl (hL _ (by decide)) rfl rfl ?_
    refine j_iconst (v := nI (2)) F dX0_isStopped_36 rfl (by decide) ?_
    refine j_iload F dX0_isStopped_37 rfl rfl ?_
    refine j_if_eqN (a := 1) F (by omega) (tgt := 46) dX0_isStopped_39 (by decide) rfl (fun c_39 => False.elim (by revert c_39; decide)) (fun c_39 => ?_)
    refine j_iload_n F dX0_isStopped_42 rfl rfl ?_
    refine j_goto (pc' := 47) F dX0_isStopped_43 (by decide) ?_
    refine j_imulN (a := 2) (b := fx) F dX0_isStopped_47 rfl ?_
    refine j_iconst (v := nI (1)) F dX0_isStopped_48 rfl (by decide) ?_
    refine j_iaddN (a := 2 * fx) (b := 1) F dX0_isStopped_49 rfl ?_
    refine j_istore (lv' := [some (.ref (X.E.1 + k)), some (.int (nI (w))), some (.int (nI (fx))), some (.int (nI (fy))), some (.int (nI (tx))), some (.int (nI (ty))), some (.int (nI (1))), some (.int (nI (2 * (P.wl w 0)))), some (.int (nI ((2 * fx) + 1))), none, none, none, none, none, none, none]) F dX0_isStopped_50 rfl (hL _ (by decide)) rfl rfl ?_
    refine j_iconst (v := nI (2)) F dX0_isStopped_52 rfl (by decide) ?_
    refine j_iload F dX0_isStopped_53 rfl rfl ?_
    refine j_if_eqN (a := 1) F (by omega) (tgt := 63) dX0_isStopped_55 (by decide) rfl (fun c_55 => False.elim (by revert c_55; decide)) (fun c_55 => ?_)
    refine j_iload F dX0_isStopped_58 rfl rfl ?_
    refine j_goto (pc' := 65) F dX0_isStopped_60 (by decide) ?_
    refine j_imulN (a := 2) (b := tx) F dX0_isStopped_65 rfl ?_
    refine j_iconst (v := nI (1)) F dX0_isStopped_66 rfl (by decide) ?_
    refine j_iaddN (a := 2 * tx) (b := 1) F dX0_isStopped_67 rfl ?_
    refine j_istore (lv' := [some (.ref (X.E.1 + k)), some (.int (nI (w))), some (.int (nI (fx))), some (.int (nI (fy))), some (.int (nI (tx))), some (.int (nI (ty))), some (.int (nI (1))), some (.int (nI (2 * (P.wl w 0)))), some (.int (nI ((2 * fx) + 1))), some (.int (nI ((2 * tx) + 1))), none, none, none, none, none, none]) F dX0_isStopped_68 rfl (hL _ (by decide)) rfl rfl ?_
    refine j_iload F dX0_isStopped_70 rfl rfl ?_
    refine j_iload F dX0_isStopped_72 rfl rfl ?_
    refine j_icmp_geN (a := (2 * fx) + 1) (b := 2 * (P.wl w 0)) F (by omega) (by omega) (tgt := 81) dX0_isStopped_74 (by decide) rfl (fun c_74 => ?_) (fun c_74 => ?_)
    · refine j_iconst (v := nI (0)) F dX0_isStopped_81 rfl (by decide) ?_
      refine j_iload F dX0_isStopped_82 rfl rfl ?_
      refine j_iload F dX0_isStopped_84 rfl rfl ?_
      refine j_icmp_geN (a := (2 * tx) + 1) (b := 2 * (P.wl w 0)) F (by omega) (by omega) (tgt := 93) dX0_isStopped_86 (by decide) rfl (fun c_86 => ?_) (fun c_86 => ?_)
      · refine j_iconst (v := nI (0)) F dX0_isStopped_93 rfl (by decide) ?_
        refine j_icmp_neN (a := 0) (b := 0) F (by omega) (by omega) (tgt := 99) dX0_isStopped_94 (by decide) rfl (fun c_94 => False.elim (by revert c_94; decide)) (fun c_94 => ?_)
        have hz : P.stop w fx fy tx ty = false := by
          unfold Pl.stop stopW
          first | rw [if_pos c_7] | rw [if_neg c_7]
          unfold stopC
          rw [if_pos (by omega)]
        refine j_iconst (v := nI (0)) F dX0_isStopped_97 rfl (by decide) ?_
        exact j_iret F hRt rfl (roB_f hz) dX0_isStopped_98
      · refine j_iconst (v := nI (1)) F dX0_isStopped_89 rfl (by decide) ?_
        refine j_goto (pc' := 94) F dX0_isStopped_90 (by decide) ?_
        refine j_icmp_neN (a := 0) (b := 1) F (by omega) (by omega) (tgt := 99) dX0_isStopped_94 (by decide) rfl (fun c_94 => ?_) (fun c_94 => False.elim (by revert c_94; decide))
        refine j_iconst (v := nI (2)) F dX0_isStopped_99 rfl (by decide) ?_
        refine j_iload F dX0_isStopped_100 rfl rfl ?_
        refine j_if_eqN (a := 1) F (by omega) (tgt := 109) dX0_isStopped_102 (by decide) rfl (fun c_102 => False.elim (by revert c_102; decide)) (fun c_102 => ?_)
        refine j_iload_n F dX0_isStopped_105 rfl rfl ?_
        refine j_goto (pc' := 110) F dX0_isStopped_106 (by decide) ?_
        refine j_imulN (a := 2) (b := fy) F dX0_isStopped_110 rfl ?_
        refine j_iconst (v := nI (1)) F dX0_isStopped_111 rfl (by decide) ?_
        refine j_iaddN (a := 2 * fy) (b := 1) F dX0_isStopped_112 rfl ?_
        refine j_istore (lv' := [some (.ref (X.E.1 + k)), some (.int (nI (w))), some (.int (nI (fx))), some (.int (nI (fy))), some (.int (nI (tx))), some (.int (nI (ty))), some (.int (nI (1))), some (.int (nI (2 * (P.wl w 0)))), some (.int (nI ((2 * fx) + 1))), some (.int (nI ((2 * tx) + 1))), some (.int (nI ((2 * fy) + 1))), none, none, none, none, none]) F dX0_isStopped_113 rfl (hL _ (by decide)) rfl rfl ?_
        refine j_iconst (v := nI (2)) F dX0_isStopped_115 rfl (by decide) ?_
        refine j_iload F dX0_isStopped_116 rfl rfl ?_
        refine j_if_eqN (a := 1) F (by omega) (tgt := 126) dX0_isStopped_118 (by decide) rfl (fun c_118 => False.elim (by revert c_118; decide)) (fun c_118 => ?_)
        refine j_iload F dX0_isStopped_121 rfl rfl ?_
        refine j_goto (pc' := 128) F dX0_isStopped_123 (by decide) ?_
        refine j_imulN (a := 2) (b := ty) F dX0_isStopped_128 rfl ?_
        refine j_iconst (v := nI (1)) F dX0_isStopped_129 rfl (by decide) ?_
        refine j_iaddN (a := 2 * ty) (b := 1) F dX0_isStopped_130 rfl ?_
        refine j_istore (lv' := [some (.ref (X.E.1 + k)), some (.int (nI (w))), some (.int (nI (fx))), some (.int (nI (fy))), some (.int (nI (tx))), some (.int (nI (ty))), some (.int (nI (1))), some (.int (nI (2 * (P.wl w 0)))), some (.int (nI ((2 * fx) + 1))), some (.int (nI ((2 * tx) + 1))), some (.int (nI ((2 * fy) + 1))), some (.int (nI ((2 * ty) + 1))), none, none, none, none]) F dX0_isStopped_131 rfl (hL _ (by decide)) rfl rfl ?_
        refine j_iconst (v := nI (2)) F dX0_isStopped_133 rfl (by decide) ?_
        refine j_aload_n F dX0_isStopped_134 rfl rfl ?_
        refine j_iload_n F dX0_isStopped_135 rfl rfl ?_
        refine j_iload F dX0_isStopped_136 rfl rfl ?_
        refine j_if_eqN (a := 1) F (by omega) (tgt := 145) dX0_isStopped_138 (by decide) rfl (fun c_138 => False.elim (by revert c_138; decide)) (fun c_138 => ?_)
        refine j_iconst (v := nI (1)) F dX0_isStopped_141 rfl (by decide) ?_
        refine j_goto (pc' := 146) F dX0_isStopped_142 (by decide) ?_
        refine kX0_25 hk F (As := [.int (nI (w)), .int (nI (1))]) (rest := [.int (nI (2))]) (c_X2_wallPart hn hk hP hBd w 1 (by omega) (by decide)) (by decide) rfl rfl (Nat.le_of_ble_eq_true rfl) dX0_isStopped_146 rfl (ro_k ?_)
        refine j_imulN (a := 2) (b := P.wl w 1) F dX0_isStopped_149 rfl ?_
        refine j_istore (lv' := [some (.ref (X.E.1 + k)), some (.int (nI (w))), some (.int (nI (fx))), some (.int (nI (fy))), some (.int (nI (tx))), some (.int (nI (ty))), some (.int (nI (1))), some (.int (nI (2 * (P.wl w 0)))), some (.int (nI ((2 * fx) + 1))), some (.int (nI ((2 * tx) + 1))), some (.int (nI ((2 * fy) + 1))), some (.int (nI ((2 * ty) + 1))), some (.int (nI (2 * (P.wl w 1)))), none, none, none]) F dX0_isStopped_150 rfl (hL _ (by decide)) rfl rfl ?_
        refine j_iload F dX0_isStopped_152 rfl rfl ?_
        refine j_iconst (v := nI (2)) F dX0_isStopped_154 rfl (by decide) ?_
        refine j_aload_n F dX0_isStopped_155 rfl rfl ?_
        refine j_iload_n F dX0_isStopped_156 rfl rfl ?_
        refine j_iconst (v := nI (2)) F dX0_isStopped_157 rfl (by decide) ?_
        refine kX0_25 hk F (As := [.int (nI (w)), .int (nI (2))]) (rest := [.int (nI (2)), .int (nI (2 * (P.wl w 1)))]) (c_X2_wallPart hn hk hP hBd w 2 (by omega) (by decide)) (by decide) rfl rfl (Nat.le_of_ble_eq_true rfl) dX0_isStopped_158 rfl (ro_k ?_)
        refine j_imulN (a := 2) (b := P.wl w 2) F dX0_isStopped_161 rfl ?_
        refine j_iaddN (a := 2 * (P.wl w 1)) (b := 2 * (P.wl w 2)) F dX0_isStopped_162 rfl ?_
        refine j_istore (lv' := [some (.ref (X.E.1 + k)), some (.int (nI (w))), some (.int (nI (fx))), some (.int (nI (fy))), some (.int (nI (tx))), some (.int (nI (ty))), some (.int (nI (1))), some (.int (nI (2 * (P.wl w 0)))), some (.int (nI ((2 * fx) + 1))), some (.int (nI ((2 * tx) + 1))), some (.int (nI ((2 * fy) + 1))), some (.int (nI ((2 * ty) + 1))), some (.int (nI (2 * (P.wl w 1)))), some (.int (nI ((2 * (P.wl w 1)) + (2 * (P.wl w 2))))), none, none]) F dX0_isStopped_163 rfl (hL _ (by decide)) rfl rfl ?_
        refine j_iload F dX0_isStopped_165 rfl rfl ?_
        refine j_iload F dX0_isStopped_167 rfl rfl ?_
        refine j_isub F dX0_isStopped_169 rfl ?_
        refine j_istore (lv' := [some (.ref (X.E.1 + k)), some (.int (nI (w))), some (.int (nI (fx))), some (.int (nI (fy))), some (.int (nI (tx))), some (.int (nI (ty))), some (.int (nI (1))), some (.int (nI (2 * (P.wl w 0)))), some (.int (nI ((2 * fx) + 1))), some (.int (nI ((2 * tx) + 1))), some (.int (nI ((2 * fy) + 1))), some (.int (nI ((2 * ty) + 1))), some (.int (nI (2 * (P.wl w 1)))), some (.int (nI ((2 * (P.wl w 1)) + (2 * (P.wl w 2))))), some (.int ((nI ((2 * tx) + 1) - nI ((2 * fx) + 1)))), none]) F dX0_isStopped_170 rfl (hL _ (by decide)) rfl rfl ?_
        refine j_iload F dX0_isStopped_172 rfl rfl ?_
        refine j_iload F dX0_isStopped_174 rfl rfl ?_
        refine j_imul F dX0_isStopped_176 rfl ?_
        refine j_iload F dX0_isStopped_177 rfl rfl ?_
        refine j_iload F dX0_isStopped_179 rfl rfl ?_
        refine j_isub F dX0_isStopped_181 rfl ?_
        refine j_iload F dX0_isStopped_182 rfl rfl ?_
        refine j_iload F dX0_isStopped_184 rfl rfl ?_
        refine j_isub F dX0_isStopped_186 rfl ?_
        refine j_imul F dX0_isStopped_187 rfl ?_
        refine j_iadd F dX0_isStopped_188 rfl ?_
        refine j_istore (lv' := [some (.ref (X.E.1 + k)), some (.int (nI (w))), some (.int (nI (fx))), some (.int (nI (fy))), some (.int (nI (tx))), some (.int (nI (ty))), some (.int (nI (1))), some (.int (nI (2 * (P.wl w 0)))), some (.int (nI ((2 * fx) + 1))), some (.int (nI ((2 * tx) + 1))), some (.int (nI ((2 * fy) + 1))), some (.int (nI ((2 * ty) + 1))), some (.int (nI (2 * (P.wl w 1)))), some (.int (nI ((2 * (P.wl w 1)) + (2 * (P.wl w 2))))), some (.int ((nI ((2 * tx) + 1) - nI ((2 * fx) + 1)))), some (.int (((nI ((2 * fy) + 1) * (nI ((2 * tx) + 1) - nI ((2 * fx) + 1))) + ((nI ((2 * ty) + 1) - nI ((2 * fy) + 1)) * (nI (2 * (P.wl w 0)) - nI ((2 * fx) + 1))))))]) F dX0_isStopped_189 rfl (hL _ (by decide)) rfl rfl ?_
        refine j_iload F dX0_isStopped_191 rfl rfl ?_
        refine j_if_le F (tgt := 224) dX0_isStopped_193 (by decide) rfl (fun c_193 => ?_) (fun c_193 => ?_)
        · refine j_iload F dX0_isStopped_224 rfl rfl ?_
          refine j_iload F dX0_isStopped_226 rfl rfl ?_
          refine j_imul F dX0_isStopped_228 rfl ?_
          refine j_iload F dX0_isStopped_229 rfl rfl ?_
          refine j_icmp_gt F (tgt := 248) dX0_isStopped_231 (by decide) rfl (fun c_231 => ?_) (fun c_231 => ?_)
          · have hz : P.stop w fx fy tx ty = false := by
              unfold Pl.stop stopW
              first | rw [if_pos c_7] | rw [if_neg c_7]
              unfold stopC
              rw [if_neg (by omega)]
              rw [if_pos c_193]
              exact decide_eq_false (fun q => q.1 c_231)
            refine j_iconst (v := nI (0)) F dX0_isStopped_248 rfl (by decide) ?_
            exact j_iret F hRt rfl (roB_f hz) dX0_isStopped_249
          · refine j_iload F dX0_isStopped_234 rfl rfl ?_
            refine j_iload F dX0_isStopped_236 rfl rfl ?_
            refine j_iload F dX0_isStopped_238 rfl rfl ?_
            refine j_imul F dX0_isStopped_240 rfl ?_
            refine j_icmp_gt F (tgt := 248) dX0_isStopped_241 (by decide) rfl (fun c_241 => ?_) (fun c_241 => ?_)
            · have hz : P.stop w fx fy tx ty = false := by
                unfold Pl.stop stopW
                first | rw [if_pos c_7] | rw [if_neg c_7]
                unfold stopC
                rw [if_neg (by omega)]
                rw [if_pos c_193]
                exact decide_eq_false (fun q => q.2 c_241)
              refine j_iconst (v := nI (0)) F dX0_isStopped_248 rfl (by decide) ?_
              exact j_iret F hRt rfl (roB_f hz) dX0_isStopped_249
            · have hz : P.stop w fx fy tx ty = true := by
                unfold Pl.stop stopW
                first | rw [if_pos c_7] | rw [if_neg c_7]
                unfold stopC
                rw [if_neg (by omega)]
                rw [if_pos c_193]
                exact decide_eq_true ⟨c_231, c_241⟩
              refine j_iconst (v := nI (1)) F dX0_isStopped_244 rfl (by decide) ?_
              refine j_goto (pc' := 249) F dX0_isStopped_245 (by decide) ?_
              exact j_iret F hRt rfl (roB_t hz) dX0_isStopped_249
        · refine j_iload F dX0_isStopped_196 rfl rfl ?_
          refine j_iload F dX0_isStopped_198 rfl rfl ?_
          refine j_imul F dX0_isStopped_200 rfl ?_
          refine j_iload F dX0_isStopped_201 rfl rfl ?_
          refine j_icmp_gt F (tgt := 220) dX0_isStopped_203 (by decide) rfl (fun c_203 => ?_) (fun c_203 => ?_)
          · have hz : P.stop w fx fy tx ty = false := by
              unfold Pl.stop stopW
              first | rw [if_pos c_7] | rw [if_neg c_7]
              unfold stopC
              rw [if_neg (by omega)]
              rw [if_neg c_193]
              exact decide_eq_false (fun q => q.1 c_203)
            refine j_iconst (v := nI (0)) F dX0_isStopped_220 rfl (by decide) ?_
            refine j_goto (pc' := 249) F dX0_isStopped_221 (by decide) ?_
            exact j_iret F hRt rfl (roB_f hz) dX0_isStopped_249
          · refine j_iload F dX0_isStopped_206 rfl rfl ?_
            refine j_iload F dX0_isStopped_208 rfl rfl ?_
            refine j_iload F dX0_isStopped_210 rfl rfl ?_
            refine j_imul F dX0_isStopped_212 rfl ?_
            refine j_icmp_gt F (tgt := 220) dX0_isStopped_213 (by decide) rfl (fun c_213 => ?_) (fun c_213 => ?_)
            · have hz : P.stop w fx fy tx ty = false := by
                unfold Pl.stop stopW
                first | rw [if_pos c_7] | rw [if_neg c_7]
                unfold stopC
                rw [if_neg (by omega)]
                rw [if_neg c_193]
                exact decide_eq_false (fun q => q.2 c_213)
              refine j_iconst (v := nI (0)) F dX0_isStopped_220 rfl (by decide) ?_
              refine j_goto (pc' := 249) F dX0_isStopped_221 (by decide) ?_
              exact j_iret F hRt rfl (roB_f hz) dX0_isStopped_249
            · have hz : P.stop w fx fy tx ty = true := by
                unfold Pl.stop stopW
                first | rw [if_pos c_7] | rw [if_neg c_7]
                unfold stopC
                rw [if_neg (by omega)]
                rw [if_neg c_193]
                exact decide_eq_true ⟨c_203, c_213⟩
              refine j_iconst (v := nI (1)) F dX0_isStopped_216 rfl (by decide) ?_
              refine j_goto (pc' := 249) F dX0_isStopped_217 (by decide) ?_
              exact j_iret F hRt rfl (roB_t hz) dX0_isStopped_249
    · refine j_iconst (v := nI (1)) F dX0_isStopped_77 rfl (by decide) ?_
      refine j_goto (pc' := 82) F dX0_isStopped_78 (by decide) ?_
      refine j_iload F dX0_isStopped_82 rfl rfl ?_
      refine j_iload F dX0_isStopped_84 rfl rfl ?_
      refine j_icmp_geN (a := (2 * tx) + 1) (b := 2 * (P.wl w 0)) F (by omega) (by omega) (tgt := 93) dX0_isStopped_86 (by decide) rfl (fun c_86 => ?_) (fun c_86 => ?_)
      · refine j_iconst (v := nI (0)) F dX0_isStopped_93 rfl (by decide) ?_
        refine j_icmp_neN (a := 1) (b := 0) F (by omega) (by omega) (tgt := 99) dX0_isStopped_94 (by decide) rfl (fun c_94 => ?_) (fun c_94 => False.elim (by revert c_94; decide))
        refine j_iconst (v := nI (2)) F dX0_isStopped_99 rfl (by decide) ?_
        refine j_iload F dX0_isStopped_100 rfl rfl ?_
        refine j_if_eqN (a := 1) F (by omega) (tgt := 109) dX0_isStopped_102 (by decide) rfl (fun c_102 => False.elim (by revert c_102; decide)) (fun c_102 => ?_)
        refine j_iload_n F dX0_isStopped_105 rfl rfl ?_
        refine j_goto (pc' := 110) F dX0_isStopped_106 (by decide) ?_
        refine j_imulN (a := 2) (b := fy) F dX0_isStopped_110 rfl ?_
        refine j_iconst (v := nI (1)) F dX0_isStopped_111 rfl (by decide) ?_
        refine j_iaddN (a := 2 * fy) (b := 1) F dX0_isStopped_112 rfl ?_
        refine j_istore (lv' := [some (.ref (X.E.1 + k)), some (.int (nI (w))), some (.int (nI (fx))), some (.int (nI (fy))), some (.int (nI (tx))), some (.int (nI (ty))), some (.int (nI (1))), some (.int (nI (2 * (P.wl w 0)))), some (.int (nI ((2 * fx) + 1))), some (.int (nI ((2 * tx) + 1))), some (.int (nI ((2 * fy) + 1))), none, none, none, none, none]) F dX0_isStopped_113 rfl (hL _ (by decide)) rfl rfl ?_
        refine j_iconst (v := nI (2)) F dX0_isStopped_115 rfl (by decide) ?_
        refine j_iload F dX0_isStopped_116 rfl rfl ?_
        refine j_if_eqN (a := 1) F (by omega) (tgt := 126) dX0_isStopped_118 (by decide) rfl (fun c_118 => False.elim (by revert c_118; decide)) (fun c_118 => ?_)
        refine j_iload F dX0_isStopped_121 rfl rfl ?_
        refine j_goto (pc' := 128) F dX0_isStopped_123 (by decide) ?_
        refine j_imulN (a := 2) (b := ty) F dX0_isStopped_128 rfl ?_
        refine j_iconst (v := nI (1)) F dX0_isStopped_129 rfl (by decide) ?_
        refine j_iaddN (a := 2 * ty) (b := 1) F dX0_isStopped_130 rfl ?_
        refine j_istore (lv' := [some (.ref (X.E.1 + k)), some (.int (nI (w))), some (.int (nI (fx))), some (.int (nI (fy))), some (.int (nI (tx))), some (.int (nI (ty))), some (.int (nI (1))), some (.int (nI (2 * (P.wl w 0)))), some (.int (nI ((2 * fx) + 1))), some (.int (nI ((2 * tx) + 1))), some (.int (nI ((2 * fy) + 1))), some (.int (nI ((2 * ty) + 1))), none, none, none, none]) F dX0_isStopped_131 rfl (hL _ (by decide)) rfl rfl ?_
        refine j_iconst (v := nI (2)) F dX0_isStopped_133 rfl (by decide) ?_
        refine j_aload_n F dX0_isStopped_134 rfl rfl ?_
        refine j_iload_n F dX0_isStopped_135 rfl rfl ?_
        refine j_iload F dX0_isStopped_136 rfl rfl ?_
        refine j_if_eqN (a := 1) F (by omega) (tgt := 145) dX0_isStopped_138 (by decide) rfl (fun c_138 => False.elim (by revert c_138; decide)) (fun c_138 => ?_)
        refine j_iconst (v := nI (1)) F dX0_isStopped_141 rfl (by decide) ?_
        refine j_goto (pc' := 146) F dX0_isStopped_142 (by decide) ?_
        refine kX0_25 hk F (As := [.int (nI (w)), .int (nI (1))]) (rest := [.int (nI (2))]) (c_X2_wallPart hn hk hP hBd w 1 (by omega) (by decide)) (by decide) rfl rfl (Nat.le_of_ble_eq_true rfl) dX0_isStopped_146 rfl (ro_k ?_)
        refine j_imulN (a := 2) (b := P.wl w 1) F dX0_isStopped_149 rfl ?_
        refine j_istore (lv' := [some (.ref (X.E.1 + k)), some (.int (nI (w))), some (.int (nI (fx))), some (.int (nI (fy))), some (.int (nI (tx))), some (.int (nI (ty))), some (.int (nI (1))), some (.int (nI (2 * (P.wl w 0)))), some (.int (nI ((2 * fx) + 1))), some (.int (nI ((2 * tx) + 1))), some (.int (nI ((2 * fy) + 1))), some (.int (nI ((2 * ty) + 1))), some (.int (nI (2 * (P.wl w 1)))), none, none, none]) F dX0_isStopped_150 rfl (hL _ (by decide)) rfl rfl ?_
        refine j_iload F dX0_isStopped_152 rfl rfl ?_
        refine j_iconst (v := nI (2)) F dX0_isStopped_154 rfl (by decide) ?_
        refine j_aload_n F dX0_isStopped_155 rfl rfl ?_
        refine j_iload_n F dX0_isStopped_156 rfl rfl ?_
        refine j_iconst (v := nI (2)) F dX0_isStopped_157 rfl (by decide) ?_
        refine kX0_25 hk F (As := [.int (nI (w)), .int (nI (2))]) (rest := [.int (nI (2)), .int (nI (2 * (P.wl w 1)))]) (c_X2_wallPart hn hk hP hBd w 2 (by omega) (by decide)) (by decide) rfl rfl (Nat.le_of_ble_eq_true rfl) dX0_isStopped_158 rfl (ro_k ?_)
        refine j_imulN (a := 2) (b := P.wl w 2) F dX0_isStopped_161 rfl ?_
        refine j_iaddN (a := 2 * (P.wl w 1)) (b := 2 * (P.wl w 2)) F dX0_isStopped_162 rfl ?_
        refine j_istore (lv' := [some (.ref (X.E.1 + k)), some (.int (nI (w))), some (.int (nI (fx))), some (.int (nI (fy))), some (.int (nI (tx))), some (.int (nI (ty))), some (.int (nI (1))), some (.int (nI (2 * (P.wl w 0)))), some (.int (nI ((2 * fx) + 1))), some (.int (nI ((2 * tx) + 1))), some (.int (nI ((2 * fy) + 1))), some (.int (nI ((2 * ty) + 1))), some (.int (nI (2 * (P.wl w 1)))), some (.int (nI ((2 * (P.wl w 1)) + (2 * (P.wl w 2))))), none, none]) F dX0_isStopped_163 rfl (hL _ (by decide)) rfl rfl ?_
        refine j_iload F dX0_isStopped_165 rfl rfl ?_
        refine j_iload F dX0_isStopped_167 rfl rfl ?_
        refine j_isub F dX0_isStopped_169 rfl ?_
        refine j_istore (lv' := [some (.ref (X.E.1 + k)), some (.int (nI (w))), some (.int (nI (fx))), some (.int (nI (fy))), some (.int (nI (tx))), some (.int (nI (ty))), some (.int (nI (1))), some (.int (nI (2 * (P.wl w 0)))), some (.int (nI ((2 * fx) + 1))), some (.int (nI ((2 * tx) + 1))), some (.int (nI ((2 * fy) + 1))), some (.int (nI ((2 * ty) + 1))), some (.int (nI (2 * (P.wl w 1)))), some (.int (nI ((2 * (P.wl w 1)) + (2 * (P.wl w 2))))), some (.int ((nI ((2 * tx) + 1) - nI ((2 * fx) + 1)))), none]) F dX0_isStopped_170 rfl (hL _ (by decide)) rfl rfl ?_
        refine j_iload F dX0_isStopped_172 rfl rfl ?_
        refine j_iload F dX0_isStopped_174 rfl rfl ?_
        refine j_imul F dX0_isStopped_176 rfl ?_
        refine j_iload F dX0_isStopped_177 rfl rfl ?_
        refine j_iload F dX0_isStopped_179 rfl rfl ?_
        refine j_isub F dX0_isStopped_181 rfl ?_
        refine j_iload F dX0_isStopped_182 rfl rfl ?_
        refine j_iload F dX0_isStopped_184 rfl rfl ?_
        refine j_isub F dX0_isStopped_186 rfl ?_
        refine j_imul F dX0_isStopped_187 rfl ?_
        refine j_iadd F dX0_isStopped_188 rfl ?_
        refine j_istore (lv' := [some (.ref (X.E.1 + k)), some (.int (nI (w))), some (.int (nI (fx))), some (.int (nI (fy))), some (.int (nI (tx))), some (.int (nI (ty))), some (.int (nI (1))), some (.int (nI (2 * (P.wl w 0)))), some (.int (nI ((2 * fx) + 1))), some (.int (nI ((2 * tx) + 1))), some (.int (nI ((2 * fy) + 1))), some (.int (nI ((2 * ty) + 1))), some (.int (nI (2 * (P.wl w 1)))), some (.int (nI ((2 * (P.wl w 1)) + (2 * (P.wl w 2))))), some (.int ((nI ((2 * tx) + 1) - nI ((2 * fx) + 1)))), some (.int (((nI ((2 * fy) + 1) * (nI ((2 * tx) + 1) - nI ((2 * fx) + 1))) + ((nI ((2 * ty) + 1) - nI ((2 * fy) + 1)) * (nI (2 * (P.wl w 0)) - nI ((2 * fx) + 1))))))]) F dX0_isStopped_189 rfl (hL _ (by decide)) rfl rfl ?_
        refine j_iload F dX0_isStopped_191 rfl rfl ?_
        refine j_if_le F (tgt := 224) dX0_isStopped_193 (by decide) rfl (fun c_193 => ?_) (fun c_193 => ?_)
        · refine j_iload F dX0_isStopped_224 rfl rfl ?_
          refine j_iload F dX0_isStopped_226 rfl rfl ?_
          refine j_imul F dX0_isStopped_228 rfl ?_
          refine j_iload F dX0_isStopped_229 rfl rfl ?_
          refine j_icmp_gt F (tgt := 248) dX0_isStopped_231 (by decide) rfl (fun c_231 => ?_) (fun c_231 => ?_)
          · have hz : P.stop w fx fy tx ty = false := by
              unfold Pl.stop stopW
              first | rw [if_pos c_7] | rw [if_neg c_7]
              unfold stopC
              rw [if_neg (by omega)]
              rw [if_pos c_193]
              exact decide_eq_false (fun q => q.1 c_231)
            refine j_iconst (v := nI (0)) F dX0_isStopped_248 rfl (by decide) ?_
            exact j_iret F hRt rfl (roB_f hz) dX0_isStopped_249
          · refine j_iload F dX0_isStopped_234 rfl rfl ?_
            refine j_iload F dX0_isStopped_236 rfl rfl ?_
            refine j_iload F dX0_isStopped_238 rfl rfl ?_
            refine j_imul F dX0_isStopped_240 rfl ?_
            refine j_icmp_gt F (tgt := 248) dX0_isStopped_241 (by decide) rfl (fun c_241 => ?_) (fun c_241 => ?_)
            · have hz : P.stop w fx fy tx ty = false := by
                unfold Pl.stop stopW
                first | rw [if_pos c_7] | rw [if_neg c_7]
                unfold stopC
                rw [if_neg (by omega)]
                rw [if_pos c_193]
                exact decide_eq_false (fun q => q.2 c_241)
              refine j_iconst (v := nI (0)) F dX0_isStopped_248 rfl (by decide) ?_
              exact j_iret F hRt rfl (roB_f hz) dX0_isStopped_249
            · have hz : P.stop w fx fy tx ty = true := by
                unfold Pl.stop stopW
                first | rw [if_pos c_7] | rw [if_neg c_7]
                unfold stopC
                rw [if_neg (by omega)]
                rw [if_pos c_193]
                exact decide_eq_true ⟨c_231, c_241⟩
              refine j_iconst (v := nI (1)) F dX0_isStopped_244 rfl (by decide) ?_
              refine j_goto (pc' := 249) F dX0_isStopped_245 (by decide) ?_
              exact j_iret F hRt rfl (roB_t hz) dX0_isStopped_249
        · refine j_iload F dX0_isStopped_196 rfl rfl ?_
          refine j_iload F dX0_isStopped_198 rfl rfl ?_
          refine j_imul F dX0_isStopped_200 rfl ?_
          refine j_iload F dX0_isStopped_201 rfl rfl ?_
          refine j_icmp_gt F (tgt := 220) dX0_isStopped_203 (by decide) rfl (fun c_203 => ?_) (fun c_203 => ?_)
          · have hz : P.stop w fx fy tx ty = false := by
              unfold Pl.stop stopW
              first | rw [if_pos c_7] | rw [if_neg c_7]
              unfold stopC
              rw [if_neg (by omega)]
              rw [if_neg c_193]
              exact decide_eq_false (fun q => q.1 c_203)
            refine j_iconst (v := nI (0)) F dX0_isStopped_220 rfl (by decide) ?_
            refine j_goto (pc' := 249) F dX0_isStopped_221 (by decide) ?_
            exact j_iret F hRt rfl (roB_f hz) dX0_isStopped_249
          · refine j_iload F dX0_isStopped_206 rfl rfl ?_
            refine j_iload F dX0_isStopped_208 rfl rfl ?_
            refine j_iload F dX0_isStopped_210 rfl rfl ?_
            refine j_imul F dX0_isStopped_212 rfl ?_
            refine j_icmp_gt F (tgt := 220) dX0_isStopped_213 (by decide) rfl (fun c_213 => ?_) (fun c_213 => ?_)
            · have hz : P.stop w fx fy tx ty = false := by
                unfold Pl.stop stopW
                first | rw [if_pos c_7] | rw [if_neg c_7]
                unfold stopC
                rw [if_neg (by omega)]
                rw [if_neg c_193]
                exact decide_eq_false (fun q => q.2 c_213)
              refine j_iconst (v := nI (0)) F dX0_isStopped_220 rfl (by decide) ?_
              refine j_goto (pc' := 249) F dX0_isStopped_221 (by decide) ?_
              exact j_iret F hRt rfl (roB_f hz) dX0_isStopped_249
            · have hz : P.stop w fx fy tx ty = true := by
                unfold Pl.stop stopW
                first | rw [if_pos c_7] | rw [if_neg c_7]
                unfold stopC
                rw [if_neg (by omega)]
                rw [if_neg c_193]
                exact decide_eq_true ⟨c_203, c_213⟩
              refine j_iconst (v := nI (1)) F dX0_isStopped_216 rfl (by decide) ?_
              refine j_goto (pc' := 249) F dX0_isStopped_217 (by decide) ?_
              exact j_iret F hRt rfl (roB_t hz) dX0_isStopped_249
      · refine j_iconst (v := nI (1)) F dX0_isStopped_89 rfl (by decide) ?_
        refine j_goto (pc' := 94) F dX0_isStopped_90 (by decide) ?_
        refine j_icmp_neN (a := 1) (b := 1) F (by omega) (by omega) (tgt := 99) dX0_isStopped_94 (by decide) rfl (fun c_94 => False.elim (by revert c_94; decide)) (fun c_94 => ?_)
        have hz : P.stop w fx fy tx ty = false := by
          unfold Pl.stop stopW
          first | rw [if_pos c_7] | rw [if_neg c_7]
          unfold stopC
          rw [if_pos (by omega)]
        refine j_iconst (v := nI (0)) F dX0_isStopped_97 rfl (by decide) ?_
        exact j_iret F hRt rfl (roB_f hz) dX0_isStopped_98

set_option maxRecDepth 10000 in
set_option maxHeartbeats 2000000 in
theorem c_X0_isFree {l : Launch} {n : Nat} {E : Ev} {σ : St} {k : Nat} {P : Pl} (hn : 55 ≤ n) (hk : isPl n k) (hP : PlanOK σ k P) (hBd : PB P) (hWl : ∀ w, w < P.nw → WallOK P w) (fx fy tx ty : Nat) (wo : Int32) (h1 : fx ≤ 9) (h2 : fy ≤ 9) (h3 : tx ≤ 9) (h4 : ty ≤ 9) : Ct l yX0_isFree cX0_isFree 7 (some .boolean) 2 n E [.ref (E.1 + k), .int (nI (fx)), .int (nI (fy)), .int (nI (tx)), .int (nI (ty)), .int (wo)] σ (ro (.int (bI (P.free fx fy tx ty wo))) σ) := by
  refine Ct.of (lv0 := [some (.ref (E.1 + k)), some (.int (nI (fx))), some (.int (nI (fy))), some (.int (nI (tx))), some (.int (nI (ty))), some (.int (wo)), none]) (by decide) (Nat.le_of_ble_eq_true rfl) rfl ?_
  intro X hXn hXE hXl hXL F hRt
  subst hXn hXE hXl
  have hL : ∀ i, i < 7 → i < X.nL := fun i h => by rw [hXL]; exact h
  have hB0 := hBd
  obtain ⟨b1, b2, b3, b4, b5, b6, b7⟩ := hB0
  refine j_iconst (v := nI (4)) F dX0_isFree_0 rfl (by decide) ?_
  refine j_istore (lv' := [some (.ref (X.E.1 + k)), some (.int (nI (fx))), some (.int (nI (fy))), some (.int (nI (tx))), some (.int (nI (ty))), some (.int (wo)), some (.int (nI (4)))]) F dX0_isFree_1 rfl (hL _ (by decide)) rfl rfl ?_
  have loop_3 : ∀ (i : Nat), i ≤ P.nw → (4 ≤ i) → (∀ w, w < i → 4 ≤ w → ¬ nI w = wo → P.stop w fx fy tx ty = false) → J X 3 [some (.ref (X.E.1 + k)), some (.int (nI (fx))), some (.int (nI (fy))), some (.int (nI (tx))), some (.int (nI (ty))), some (.int (wo)), some (.int (nI (i)))] [] σ := by
    refine dnL (fun i hi ih_3 => ?_)
    intro hi4 hno
    refine j_iload F dX0_isFree_3 rfl rfl ?_
    refine j_aload_n F dX0_isFree_5 rfl rfl ?_
    refine gX0_15 hk F dX0_isFree_6 rfl ?_
    refine j_int (y := nI (P.nw)) (hP.nw) ?_
    refine j_icmp_geN (a := i) (b := P.nw) F (by omega) (by omega) (tgt := 41) dX0_isFree_9 (by decide) rfl (fun c_9 => ?_) (fun c_9 => ?_)
    · obtain rfl : i = P.nw := by omega
      have hz : P.free fx fy tx ty wo = true := decide_eq_true hno
      refine j_iconst (v := nI (1)) F dX0_isFree_41 rfl (by decide) ?_
      exact j_iret F hRt rfl (roB_t hz) dX0_isFree_42
    · refine j_iload F dX0_isFree_12 rfl rfl ?_
      refine j_iload F dX0_isFree_14 rfl rfl ?_
      refine j_icmp_eq F (tgt := 35) dX0_isFree_16 (by decide) rfl (fun c_16 => ?_) (fun c_16 => ?_)
      · have hni : ¬ nI i = wo → P.stop i fx fy tx ty = false := fun z => absurd c_16 z
        refine j_iincN (a := i) (c := 1) (lv' := [some (.ref (X.E.1 + k)), some (.int (nI (fx))), some (.int (nI (fy))), some (.int (nI (tx))), some (.int (nI (ty))), some (.int (wo)), some (.int (nI (i + 1)))]) F dX0_isFree_35 rfl rfl (by decide) (hL _ (by decide)) rfl rfl ?_
        refine j_goto (pc' := 3) F dX0_isFree_38 (by decide) ?_
        exact ih_3 (by omega)  (by omega) (fun w q r z => by rcases (show w < i ∨ w = i by omega) with t | rfl; exact hno w t r z; exact hni z)
      · refine j_aload_n F dX0_isFree_19 rfl rfl ?_
        refine j_iload F dX0_isFree_20 rfl rfl ?_
        refine j_iload_n F dX0_isFree_22 rfl rfl ?_
        refine j_iload_n F dX0_isFree_23 rfl rfl ?_
        refine j_iload_n F dX0_isFree_24 rfl rfl ?_
        refine j_iload F dX0_isFree_25 rfl rfl ?_
        refine kX0_21 F (As := [.ref (X.E.1 + k), .int (nI (i)), .int (nI (fx)), .int (nI (fy)), .int (nI (tx)), .int (nI (ty))]) (rest := []) (c_X0_isStopped hn hk hP hBd hWl i fx fy tx ty (by omega) (by omega) (by omega) (by omega) (by omega)) (by decide) rfl rfl (Nat.le_of_ble_eq_true rfl) dX0_isFree_27 rfl (ro_k ?_)
        refine j_if_eqB F (x := P.stop i fx fy tx ty) (tgt := 35) dX0_isFree_30 (by decide) rfl (fun c_30 => ?_) (fun c_30 => ?_)
        · have hni : ¬ nI i = wo → P.stop i fx fy tx ty = false := fun _ => c_30
          refine j_iincN (a := i) (c := 1) (lv' := [some (.ref (X.E.1 + k)), some (.int (nI (fx))), some (.int (nI (fy))), some (.int (nI (tx))), some (.int (nI (ty))), some (.int (wo)), some (.int (nI (i + 1)))]) F dX0_isFree_35 rfl rfl (by decide) (hL _ (by decide)) rfl rfl ?_
          refine j_goto (pc' := 3) F dX0_isFree_38 (by decide) ?_
          exact ih_3 (by omega)  (by omega) (fun w q r z => by rcases (show w < i ∨ w = i by omega) with t | rfl; exact hno w t r z; exact hni z)
        · have hz : P.free fx fy tx ty wo = false := decide_eq_false (fun q => by rw [q i c_9 hi4 c_16] at c_30; exact absurd c_30 (by decide))
          refine j_iconst (v := nI (0)) F dX0_isFree_33 rfl (by decide) ?_
          exact j_iret F hRt rfl (roB_f hz) dX0_isFree_34
  exact loop_3 4 (by omega)  (Nat.le_refl 4) (fun w q r => absurd q (by omega))

set_option maxRecDepth 10000 in
set_option maxHeartbeats 2000000 in
theorem c_X0_lampsAt {l : Launch} {n : Nat} {E : Ev} {σ : St} {k : Nat} {P : Pl} (hn : 55 ≤ n) (hk : isPl n k) (hP : PlanOK σ k P) (hBd : PB P) (hWl : ∀ w, w < P.nw → WallOK P w) (hLm : ∀ l, l < P.nl → LampOK P l) (x y q : Nat) (wo : Int32) (hq : q < 2147483648) (h3 : x ≤ 9) (h4 : y ≤ 9) : Ct l yX0_lampsAt cX0_lampsAt 7 (some .int) 4 n E [.ref (E.1 + k), .int (nI (x)), .int (nI (y)), .int (nI (q)), .int (wo)] σ (ro (.int (nI (P.LA x y q wo))) σ) := by
  refine Ct.of (lv0 := [some (.ref (E.1 + k)), some (.int (nI (x))), some (.int (nI (y))), some (.int (nI (q))), some (.int (wo)), none, none]) (by decide) (Nat.le_of_ble_eq_true rfl) rfl ?_
  intro X hXn hXE hXl hXL F hRt
  subst hXn hXE hXl
  have hL : ∀ i, i < 7 → i < X.nL := fun i h => by rw [hXL]; exact h
  have hB0 := hBd
  obtain ⟨b1, b2, b3, b4, b5, b6, b7⟩ := hB0
  refine j_iconst (v := nI (0)) F dX0_lampsAt_0 rfl (by decide) ?_
  refine j_istore (lv' := [some (.ref (X.E.1 + k)), some (.int (nI (x))), some (.int (nI (y))), some (.int (nI (q))), some (.int (wo)), some (.int (nI (0))), none]) F dX0_lampsAt_1 rfl (hL _ (by decide)) rfl rfl ?_
  refine j_iconst (v := nI (0)) F dX0_lampsAt_3 rfl (by decide) ?_
  refine j_istore (lv' := [some (.ref (X.E.1 + k)), some (.int (nI (x))), some (.int (nI (y))), some (.int (nI (q))), some (.int (wo)), some (.int (nI (0))), some (.int (nI (0)))]) F dX0_lampsAt_4 rfl (hL _ (by decide)) rfl rfl ?_
  have loop_6 : ∀ (i : Nat), i ≤ P.nl → J X 6 [some (.ref (X.E.1 + k)), some (.int (nI (x))), some (.int (nI (y))), some (.int (nI (q))), some (.int (wo)), some (.int (nI (Bt (fun l => q.testBit l && P.free (P.lp l 0) (P.lp l 1) x y wo) i))), some (.int (nI (i)))] [] σ := by
    refine dnL (fun i hi ih_6 => ?_)
    refine j_iload F dX0_lampsAt_6 rfl rfl ?_
    refine j_aload_n F dX0_lampsAt_8 rfl rfl ?_
    refine gX0_37 hk F dX0_lampsAt_9 rfl ?_
    refine j_int (y := nI (P.nl)) (hP.nl) ?_
    refine j_icmp_geN (a := i) (b := P.nl) F (by omega) (by omega) (tgt := 65) dX0_lampsAt_12 (by decide) rfl (fun c_12 => ?_) (fun c_12 => ?_)
    · obtain rfl : i = P.nl := by omega
      refine j_iload F dX0_lampsAt_65 rfl rfl ?_
      exact j_iret F hRt rfl (⟨rfl, rfl⟩) dX0_lampsAt_67
    · have hlo := hLm i c_12
      unfold LampOK at hlo
      refine j_iload_n F dX0_lampsAt_15 rfl rfl ?_
      refine j_iload F dX0_lampsAt_16 rfl rfl ?_
      refine j_ishr F dX0_lampsAt_18 rfl ?_
      refine j_iconst (v := nI (1)) F dX0_lampsAt_19 rfl (by decide) ?_
      refine j_iand F dX0_lampsAt_20 rfl ?_
      refine j_int (y := nI ((q.testBit i).toNat)) (bit_n hq (by omega)) ?_
      refine j_iconst (v := nI (1)) F dX0_lampsAt_21 rfl (by decide) ?_
      refine j_icmp_neN (a := (q.testBit i).toNat) (b := 1) F (by have := tb_le (q.testBit i); omega) (by omega) (tgt := 59) dX0_lampsAt_22 (by decide) rfl (fun c_22 => ?_) (fun c_22 => ?_)
      · have hni : (q.testBit i && P.free (P.lp i 0) (P.lp i 1) x y wo) = false := by rw [tb_0 c_22]; rfl
        refine j_iincN (a := i) (c := 1) (lv' := [some (.ref (X.E.1 + k)), some (.int (nI (x))), some (.int (nI (y))), some (.int (nI (q))), some (.int (wo)), some (.int (nI (Bt (fun l => q.testBit l && P.free (P.lp l 0) (P.lp l 1) x y wo) i))), some (.int (nI (i + 1)))]) F dX0_lampsAt_59 rfl rfl (by decide) (hL _ (by decide)) rfl rfl ?_
        refine j_goto (pc' := 6) F dX0_lampsAt_62 (by decide) ?_
        have hBt : Bt (fun l => q.testBit l && P.free (P.lp l 0) (P.lp l 1) x y wo) (i + 1) = Bt (fun l => q.testBit l && P.free (P.lp l 0) (P.lp l 1) x y wo) i := by
          show Bt (fun l => q.testBit l && P.free (P.lp l 0) (P.lp l 1) x y wo) i ||| (if (q.testBit i && P.free (P.lp i 0) (P.lp i 1) x y wo) = true then 2 ^ i else 0) = _
          rw [if_neg (by rw [hni]; decide), Nat.or_zero]
        rw [← hBt]
        exact ih_6 (by omega)
      · refine j_aload_n F dX0_lampsAt_25 rfl rfl ?_
        refine j_aload_n F dX0_lampsAt_26 rfl rfl ?_
        refine j_iload F dX0_lampsAt_27 rfl rfl ?_
        refine j_iconst (v := nI (0)) F dX0_lampsAt_29 rfl (by decide) ?_
        refine kX0_40 hk F (As := [.int (nI (i)), .int (nI (0))]) (rest := [.ref (X.E.1 + k)]) (c_X2_lampPart hn hk hP hBd i 0 (by omega) (by decide)) (by decide) rfl rfl (Nat.le_of_ble_eq_true rfl) dX0_lampsAt_30 rfl (ro_k ?_)
        refine j_aload_n F dX0_lampsAt_33 rfl rfl ?_
        refine j_iload F dX0_lampsAt_34 rfl rfl ?_
        refine j_iconst (v := nI (1)) F dX0_lampsAt_36 rfl (by decide) ?_
        refine kX0_40 hk F (As := [.int (nI (i)), .int (nI (1))]) (rest := [.int (nI (P.lp i 0)), .ref (X.E.1 + k)]) (c_X2_lampPart hn hk hP hBd i 1 (by omega) (by decide)) (by decide) rfl rfl (Nat.le_of_ble_eq_true rfl) dX0_lampsAt_37 rfl (ro_k ?_)
        refine j_iload_n F dX0_lampsAt_40 rfl rfl ?_
        refine j_iload_n F dX0_lampsAt_41 rfl rfl ?_
        refine j_iload F dX0_lampsAt_42 rfl rfl ?_
        refine kX0_43 F (As := [.ref (X.E.1 + k), .int (nI (P.lp i 0)), .int (nI (P.lp i 1)), .int (nI (x)), .int (nI (y)), .int (wo)]) (rest := []) (c_X0_isFree hn hk hP hBd hWl (P.lp i 0) (P.lp i 1) x y wo (by omega) (by omega) (by omega) (by omega)) (by decide) rfl rfl (Nat.le_of_ble_eq_true rfl) dX0_lampsAt_44 rfl (ro_k ?_)
        refine j_if_eqB F (x := P.free (P.lp i 0) (P.lp i 1) x y wo) (tgt := 59) dX0_lampsAt_47 (by decide) rfl (fun c_47 => ?_) (fun c_47 => ?_)
        · have hni : (q.testBit i && P.free (P.lp i 0) (P.lp i 1) x y wo) = false := by rw [c_47, Bool.and_false]
          refine j_iincN (a := i) (c := 1) (lv' := [some (.ref (X.E.1 + k)), some (.int (nI (x))), some (.int (nI (y))), some (.int (nI (q))), some (.int (wo)), some (.int (nI (Bt (fun l => q.testBit l && P.free (P.lp l 0) (P.lp l 1) x y wo) i))), some (.int (nI (i + 1)))]) F dX0_lampsAt_59 rfl rfl (by decide) (hL _ (by decide)) rfl rfl ?_
          refine j_goto (pc' := 6) F dX0_lampsAt_62 (by decide) ?_
          have hBt : Bt (fun l => q.testBit l && P.free (P.lp l 0) (P.lp l 1) x y wo) (i + 1) = Bt (fun l => q.testBit l && P.free (P.lp l 0) (P.lp l 1) x y wo) i := by
            show Bt (fun l => q.testBit l && P.free (P.lp l 0) (P.lp l 1) x y wo) i ||| (if (q.testBit i && P.free (P.lp i 0) (P.lp i 1) x y wo) = true then 2 ^ i else 0) = _
            rw [if_neg (by rw [hni]; decide), Nat.or_zero]
          rw [← hBt]
          exact ih_6 (by omega)
        · have hni : (q.testBit i && P.free (P.lp i 0) (P.lp i 1) x y wo) = true := by rw [tb_1 c_22, c_47]; rfl
          refine j_iload F dX0_lampsAt_50 rfl rfl ?_
          refine j_iconst (v := nI (1)) F dX0_lampsAt_52 rfl (by decide) ?_
          refine j_iload F dX0_lampsAt_53 rfl rfl ?_
          refine j_ishl F dX0_lampsAt_55 rfl ?_
          refine j_ior F dX0_lampsAt_56 rfl ?_
          refine j_int (y := nI (Bt (fun l => q.testBit l && P.free (P.lp l 0) (P.lp l 1) x y wo) i ||| 2 ^ i)) (or_1 (by omega)) ?_
          refine j_istore (lv' := [some (.ref (X.E.1 + k)), some (.int (nI (x))), some (.int (nI (y))), some (.int (nI (q))), some (.int (wo)), some (.int (nI (Bt (fun l => q.testBit l && P.free (P.lp l 0) (P.lp l 1) x y wo) i ||| 2 ^ i))), some (.int (nI (i)))]) F dX0_lampsAt_57 rfl (hL _ (by decide)) rfl rfl ?_
          refine j_iincN (a := i) (c := 1) (lv' := [some (.ref (X.E.1 + k)), some (.int (nI (x))), some (.int (nI (y))), some (.int (nI (q))), some (.int (wo)), some (.int (nI (Bt (fun l => q.testBit l && P.free (P.lp l 0) (P.lp l 1) x y wo) i ||| 2 ^ i))), some (.int (nI (i + 1)))]) F dX0_lampsAt_59 rfl rfl (by decide) (hL _ (by decide)) rfl rfl ?_
          refine j_goto (pc' := 6) F dX0_lampsAt_62 (by decide) ?_
          have hBt : Bt (fun l => q.testBit l && P.free (P.lp l 0) (P.lp l 1) x y wo) (i + 1) = Bt (fun l => q.testBit l && P.free (P.lp l 0) (P.lp l 1) x y wo) i ||| 2 ^ i := by
            show Bt (fun l => q.testBit l && P.free (P.lp l 0) (P.lp l 1) x y wo) i ||| (if (q.testBit i && P.free (P.lp i 0) (P.lp i 1) x y wo) = true then 2 ^ i else 0) = _
            rw [if_pos hni]
          rw [← hBt]
          exact ih_6 (by omega)
  exact loop_6 0 (by omega)  

set_option maxRecDepth 10000 in
set_option maxHeartbeats 2000000 in
theorem c_X0_lampsOnAt {l : Launch} {n : Nat} {E : Ev} {σ : St} {k : Nat} {P : Pl} (hn : 55 ≤ n) (hk : isPl n k) (hP : PlanOK σ k P) (hBd : PB P) (hWl : ∀ w, w < P.nw → WallOK P w) (hLm : ∀ l, l < P.nl → LampOK P l) (x y : Nat) (h3 : x ≤ 9) (h4 : y ≤ 9) : Ct l yX0_lampsOnAt cX0_lampsOnAt 3 (some .int) 5 n E [.ref (E.1 + k), .int (nI (x)), .int (nI (y))] σ (ro (.int (nI (P.LA x y P.on (-9)))) σ) := by
  refine Ct.of (lv0 := [some (.ref (E.1 + k)), some (.int (nI (x))), some (.int (nI (y)))]) (by decide) (Nat.le_of_ble_eq_true rfl) rfl ?_
  intro X hXn hXE hXl hXL F hRt
  subst hXn hXE hXl
  have hL : ∀ i, i < 3 → i < X.nL := fun i h => by rw [hXL]; exact h
  have hB0 := hBd
  obtain ⟨b1, b2, b3, b4, b5, b6, b7⟩ := hB0
  have hon : P.on < 256 := Bt_le b7
  refine j_aload_n F dX0_lampsOnAt_0 rfl rfl ?_
  refine j_iload_n F dX0_lampsOnAt_1 rfl rfl ?_
  refine j_iload_n F dX0_lampsOnAt_2 rfl rfl ?_
  refine j_aload_n F dX0_lampsOnAt_3 rfl rfl ?_
  refine kX0_29 hk F (As := []) (rest := [.int (nI (y)), .int (nI (x)), .ref (X.E.1 + k)]) (c_X2_lampsOn hn hk hP hBd hLm) (by decide) rfl rfl (Nat.le_of_ble_eq_true rfl) dX0_lampsOnAt_4 rfl (ro_k ?_)
  refine j_bipush (v := (-9 : Int32)) F dX0_lampsOnAt_7 rfl (by decide) ?_
  refine kX0_33 F (As := [.ref (X.E.1 + k), .int (nI (x)), .int (nI (y)), .int (nI (P.on)), .int ((-9 : Int32))]) (rest := []) (c_X0_lampsAt hn hk hP hBd hWl hLm x y P.on ((-9 : Int32)) (by omega) (by omega) (by omega)) (by decide) rfl rfl (Nat.le_of_ble_eq_true rfl) dX0_lampsOnAt_9 rfl (ro_k ?_)
  exact j_iret F hRt rfl (⟨rfl, rfl⟩) dX0_lampsOnAt_12

set_option maxRecDepth 10000 in
set_option maxHeartbeats 2000000 in
theorem c_X0_shine {l : Launch} {n : Nat} {E : Ev} {σ : St} {P : Pl} (hn : 55 ≤ n) (hP : PlanOK σ 1 P) (hBd : PB P) (hWl : ∀ w, w < P.nw → WallOK P w) (hLm : ∀ l, l < P.nl → LampOK P l) (q : Nat) (wo : Int32) (hq : q < 2147483648) : Ct l yX0_shine cX0_shine 7 none 5 n E [.ref (E.1 + 41), .ref (E.1 + 1), .int (nI (q)), .int (wo)] σ (fun v' σ' => v' = none ∧ ∃ g : Nat → Int32, σ' = upR σ 42 g ∧ ∀ s, s < P.W * P.H → g s = nI (P.LS q wo s)) := by
  refine Ct.of (lv0 := [some (.ref (E.1 + 41)), some (.ref (E.1 + 1)), some (.int (nI (q))), some (.int (wo)), none, none, none]) (by decide) (Nat.le_of_ble_eq_true rfl) rfl ?_
  intro X hXn hXE hXl hXL F hRt
  subst hXn hXE hXl
  have hL : ∀ i, i < 7 → i < X.nL := fun i h => by rw [hXL]; exact h
  have hB0 := hBd
  obtain ⟨b1, b2, b3, b4, b5, b6, b7⟩ := hB0
  have har := ar_le b2 b4
  refine j_iconst (v := nI (0)) F dX0_shine_0 rfl (by decide) ?_
  refine j_istore (lv' := [some (.ref (X.E.1 + 41)), some (.ref (X.E.1 + 1)), some (.int (nI (q))), some (.int (wo)), some (.int (nI (0))), none, none]) F dX0_shine_1 rfl (hL _ (by decide)) rfl rfl ?_
  refine j_iconst (v := nI (0)) F dX0_shine_3 rfl (by decide) ?_
  refine j_istore (lv' := [some (.ref (X.E.1 + 41)), some (.ref (X.E.1 + 1)), some (.int (nI (q))), some (.int (wo)), some (.int (nI (0))), some (.int (nI (0))), none]) F dX0_shine_4 rfl (hL _ (by decide)) rfl rfl ?_
  refine j_store (σ' := upR σ 42 (σ 42)) (upR_id _ _).symm ?_
  refine j_lv (lv' := [some (.ref (X.E.1 + 41)), some (.ref (X.E.1 + 1)), some (.int (nI (q))), some (.int (wo)), some (.int (nI (0 * P.W))), some (.int (nI (0))), none]) (by rw [Nat.zero_mul]; exact sbl (ks := [0, 1, 2, 3, 4, 5]) rfl) ?_
  have loop_6 : ∀ (i : Nat), i ≤ P.H → ∀ (g : Nat → Int32), (∀ s, s < i * P.W → g s = nI (P.LS q wo s)) → J X 6 [some (.ref (X.E.1 + 41)), some (.ref (X.E.1 + 1)), some (.int (nI (q))), some (.int (wo)), some (.int (nI (i * P.W))), some (.int (nI (i))), none] [] (upR σ 42 g) := by
    refine dnL (fun i hi ih_6 => ?_)
    intro g hg
    have hPg : PlanOK (upR σ 42 g) 1 P := hP.frame (upR_n _ _ (by decide)) (upR_n _ _ (by decide)) (upR_n _ _ (by decide))
    refine j_iload F dX0_shine_6 rfl rfl ?_
    refine j_aload_n F dX0_shine_8 rfl rfl ?_
    refine gX0_46 (isPl_1 hn) F dX0_shine_9 rfl ?_
    refine j_int (y := nI (P.H)) (hPg.h) ?_
    refine j_icmp_geN (a := i) (b := P.H) F (by omega) (by omega) (tgt := 59) dX0_shine_12 (by decide) rfl (fun c_12 => ?_) (fun c_12 => ?_)
    · obtain rfl : i = P.H := by omega
      exact j_vret F hRt (⟨rfl, g, rfl, by rw [Nat.mul_comm]; exact hg⟩) dX0_shine_59
    · refine j_iconst (v := nI (0)) F dX0_shine_15 rfl (by decide) ?_
      refine j_istore (lv' := [some (.ref (X.E.1 + 41)), some (.ref (X.E.1 + 1)), some (.int (nI (q))), some (.int (wo)), some (.int (nI (i * P.W))), some (.int (nI (i))), some (.int (nI (0)))]) F dX0_shine_16 rfl (hL _ (by decide)) rfl rfl ?_
      have loop_18 : ∀ (j : Nat), j ≤ P.W → ∀ (g : Nat → Int32), (∀ s, s < i * P.W + j → g s = nI (P.LS q wo s)) → J X 18 [some (.ref (X.E.1 + 41)), some (.ref (X.E.1 + 1)), some (.int (nI (q))), some (.int (wo)), some (.int (nI (i * P.W + j))), some (.int (nI (i))), some (.int (nI (j)))] [] (upR σ 42 g) := by
        refine dnL (fun j hj ih_18 => ?_)
        intro g hg2
        have hPg : PlanOK (upR σ 42 g) 1 P := hP.frame (upR_n _ _ (by decide)) (upR_n _ _ (by decide)) (upR_n _ _ (by decide))
        refine j_iload F dX0_shine_18 rfl rfl ?_
        refine j_aload_n F dX0_shine_20 rfl rfl ?_
        refine gX0_49 (isPl_1 hn) F dX0_shine_21 rfl ?_
        refine j_int (y := nI (P.W)) (hPg.w) ?_
        refine j_icmp_geN (a := j) (b := P.W) F (by omega) (by omega) (tgt := 53) dX0_shine_24 (by decide) rfl (fun c_24 => ?_) (fun c_24 => ?_)
        · have hjw : j = P.W := by omega
          refine j_iincN (a := i) (c := 1) (lv' := [some (.ref (X.E.1 + 41)), some (.ref (X.E.1 + 1)), some (.int (nI (q))), some (.int (wo)), some (.int (nI (i * P.W + j))), some (.int (nI (i + 1))), some (.int (nI (j)))]) F dX0_shine_53 rfl rfl (by decide) (hL _ (by decide)) rfl rfl ?_
          refine j_goto (pc' := 6) F dX0_shine_56 (by decide) ?_
          refine j_lv (lv' := [some (.ref (X.E.1 + 41)), some (.ref (X.E.1 + 1)), some (.int (nI (q))), some (.int (wo)), some (.int (nI ((i + 1) * P.W))), some (.int (nI (i + 1))), none]) (by rw [hjw, Nat.add_mul, Nat.one_mul]; exact sbl (ks := [0, 1, 2, 3, 4, 5]) rfl) ?_
          exact ih_6 (by omega) g (fun s h => hg2 s (by rw [Nat.add_mul, Nat.one_mul] at h; omega))
        · have hsp := sp_lt c_12 c_24
          refine j_aload_n F dX0_shine_27 rfl rfl ?_
          refine gX0_9 hn F dX0_shine_28 rfl ?_
          refine j_iload F dX0_shine_31 rfl rfl ?_
          refine j_aload_n F dX0_shine_33 rfl rfl ?_
          refine j_iload F dX0_shine_34 rfl rfl ?_
          refine j_iload F dX0_shine_36 rfl rfl ?_
          refine j_iload_n F dX0_shine_38 rfl rfl ?_
          refine j_iload_n F dX0_shine_39 rfl rfl ?_
          refine kX0_33 F (As := [.ref (X.E.1 + 1), .int (nI (j)), .int (nI (i)), .int (nI (q)), .int (wo)]) (rest := [.int (nI (i * P.W + j)), .ref (X.E.1 + 42)]) (c_X0_lampsAt hn (isPl_1 hn) hPg hBd hWl hLm j i q wo (by omega) (by omega) (by omega)) (by decide) rfl rfl (Nat.le_of_ble_eq_true rfl) dX0_shine_40 rfl (ro_k ?_)
          refine j_iastore (a := i * P.W + j) F (by omega) rfl rfl (by omega) (by decide) dX0_shine_43 rfl ?_
          refine j_store (σ' := upR σ 42 (upd g (i * P.W + j) (nI (P.LA j i q wo)))) (upR_up _ _ _ _ _) ?_
          refine j_iincN (a := i * P.W + j) (c := 1) (lv' := [some (.ref (X.E.1 + 41)), some (.ref (X.E.1 + 1)), some (.int (nI (q))), some (.int (wo)), some (.int (nI (i * P.W + j + 1))), some (.int (nI (i))), some (.int (nI (j)))]) F dX0_shine_44 rfl rfl (by decide) (hL _ (by decide)) rfl rfl ?_
          refine j_iincN (a := j) (c := 1) (lv' := [some (.ref (X.E.1 + 41)), some (.ref (X.E.1 + 1)), some (.int (nI (q))), some (.int (wo)), some (.int (nI (i * P.W + j + 1))), some (.int (nI (i))), some (.int (nI (j + 1)))]) F dX0_shine_47 rfl rfl (by decide) (hL _ (by decide)) rfl rfl ?_
          refine j_goto (pc' := 18) F dX0_shine_50 (by decide) ?_
          exact ih_18 (by omega) (upd g (i * P.W + j) (nI (P.LA j i q wo))) (fun s h => by rcases (show s < i * P.W + j ∨ s = i * P.W + j by omega) with t | rfl; (rw [upd_n _ _ (by omega)]; exact hg2 s t); (rw [upd_s]; show _ = nI (P.LA _ _ _ _); rw [dm_1 c_24, dm_2 c_24]))
      exact loop_18 0 (by omega) g (fun s h => hg s (by omega))
  exact loop_6 0 (by omega) (σ 42) (fun s h => absurd h (by omega))

set_option maxRecDepth 10000 in
set_option maxHeartbeats 2000000 in
theorem c_X0_spotsLitBy {l : Launch} {n : Nat} {E : Ev} {σ : St} {P : Pl} (hn : 55 ≤ n) (hP : PlanOK σ 1 P) (hBd : PB P) (hWl : ∀ w, w < P.nw → WallOK P w) (hLm : ∀ l, l < P.nl → LampOK P l) (q : Nat) (wo : Int32) (hq : q < 2147483648) : Ct l yX0_spotsLitBy cX0_spotsLitBy 6 (some .int) 6 n E [.ref (E.1 + 41), .ref (E.1 + 1), .int (nI (q)), .int (wo)] σ (fun v' σ' => v' = some (.int (nI (P.cL q wo))) ∧ Fr [42] σ σ') := by
  refine Ct.of (lv0 := [some (.ref (E.1 + 41)), some (.ref (E.1 + 1)), some (.int (nI (q))), some (.int (wo)), none, none]) (by decide) (Nat.le_of_ble_eq_true rfl) rfl ?_
  intro X hXn hXE hXl hXL F hRt
  subst hXn hXE hXl
  have hL : ∀ i, i < 6 → i < X.nL := fun i h => by rw [hXL]; exact h
  have hB0 := hBd
  obtain ⟨b1, b2, b3, b4, b5, b6, b7⟩ := hB0
  have har := ar_le b2 b4
  refine j_aload_n F dX0_spotsLitBy_0 rfl rfl ?_
  refine j_aload_n F dX0_spotsLitBy_1 rfl rfl ?_
  refine j_iload_n F dX0_spotsLitBy_2 rfl rfl ?_
  refine j_iload_n F dX0_spotsLitBy_3 rfl rfl ?_
  refine kX0_52 hn F (As := [.ref (X.E.1 + 1), .int (nI (q)), .int (wo)]) (rest := []) (c_X0_shine hn hP hBd hWl hLm q wo (by omega)) (by decide) rfl rfl (Nat.le_of_ble_eq_true rfl) dX0_spotsLitBy_4 rfl (fun v_4 σ_4 q_4 => ?_)
  obtain ⟨rfl, g_4, rfl, hg_4⟩ := q_4
  have hP_4 : PlanOK (upR σ 42 g_4) 1 P := hP.frame (upR_n _ _ (by decide)) (upR_n _ _ (by decide)) (upR_n _ _ (by decide))
  refine j_iconst (v := nI (0)) F dX0_spotsLitBy_7 rfl (by decide) ?_
  refine j_istore (lv' := [some (.ref (X.E.1 + 41)), some (.ref (X.E.1 + 1)), some (.int (nI (q))), some (.int (wo)), some (.int (nI (0))), none]) F dX0_spotsLitBy_8 rfl (hL _ (by decide)) rfl rfl ?_
  refine j_iconst (v := nI (0)) F dX0_spotsLitBy_10 rfl (by decide) ?_
  refine j_istore (lv' := [some (.ref (X.E.1 + 41)), some (.ref (X.E.1 + 1)), some (.int (nI (q))), some (.int (wo)), some (.int (nI (0))), some (.int (nI (0)))]) F dX0_spotsLitBy_11 rfl (hL _ (by decide)) rfl rfl ?_
  have loop_13 : ∀ (i : Nat), i ≤ (P.W * P.H) → J X 13 [some (.ref (X.E.1 + 41)), some (.ref (X.E.1 + 1)), some (.int (nI (q))), some (.int (wo)), some (.int (nI (fa_cnt (fun s => decide (¬ P.LS q wo s = 0)) i))), some (.int (nI (i)))] [] (upR σ 42 g_4) := by
    refine dnL (fun i hi ih_13 => ?_)
    have hci := fa_cnt_le (fun s => decide (¬ P.LS q wo s = 0)) i
    refine j_iload F dX0_spotsLitBy_13 rfl rfl ?_
    refine j_aload_n F dX0_spotsLitBy_15 rfl rfl ?_
    refine gX0_49 (isPl_1 hn) F dX0_spotsLitBy_16 rfl ?_
    refine j_int (y := nI (P.W)) (hP_4.w) ?_
    refine j_aload_n F dX0_spotsLitBy_19 rfl rfl ?_
    refine gX0_46 (isPl_1 hn) F dX0_spotsLitBy_20 rfl ?_
    refine j_int (y := nI (P.H)) (hP_4.h) ?_
    refine j_imulN (a := P.W) (b := P.H) F dX0_spotsLitBy_23 rfl ?_
    refine j_icmp_geN (a := i) (b := P.W * P.H) F (by omega) (by omega) (tgt := 46) dX0_spotsLitBy_24 (by decide) rfl (fun c_24 => ?_) (fun c_24 => ?_)
    · obtain rfl : i = P.W * P.H := by omega
      refine j_iload F dX0_spotsLitBy_46 rfl rfl ?_
      exact j_iret F hRt rfl (⟨rfl, Fr.row Fr.rf (by simp)⟩) dX0_spotsLitBy_48
    · have hLs : P.LS q wo i < 256 := Bt_le b7
      refine j_aload_n F dX0_spotsLitBy_27 rfl rfl ?_
      refine gX0_9 hn F dX0_spotsLitBy_28 rfl ?_
      refine j_iload F dX0_spotsLitBy_31 rfl rfl ?_
      refine j_iaload (a := i) F (by omega) rfl rfl (by omega) (by decide) dX0_spotsLitBy_33 rfl ?_
      refine j_int (y := nI (P.LS q wo i)) (by rw [upR_s]; exact hg_4 i c_24) ?_
      refine j_if_eqN (a := P.LS q wo i) F (by omega) (tgt := 40) dX0_spotsLitBy_34 (by decide) rfl (fun c_34 => ?_) (fun c_34 => ?_)
      · refine j_iincN (a := i) (c := 1) (lv' := [some (.ref (X.E.1 + 41)), some (.ref (X.E.1 + 1)), some (.int (nI (q))), some (.int (wo)), some (.int (nI (fa_cnt (fun s => decide (¬ P.LS q wo s = 0)) i))), some (.int (nI (i + 1)))]) F dX0_spotsLitBy_40 rfl rfl (by decide) (hL _ (by decide)) rfl rfl ?_
        refine j_goto (pc' := 13) F dX0_spotsLitBy_43 (by decide) ?_
        rw [← fa_cnt_no (p := fun s => decide (¬ P.LS q wo s = 0)) (n := i) (decide_eq_false (fun q => q c_34))]
        exact ih_13 (by omega)
      · refine j_iincN (a := fa_cnt (fun s => decide (¬ P.LS q wo s = 0)) i) (c := 1) (lv' := [some (.ref (X.E.1 + 41)), some (.ref (X.E.1 + 1)), some (.int (nI (q))), some (.int (wo)), some (.int (nI (fa_cnt (fun s => decide (¬ P.LS q wo s = 0)) i + 1))), some (.int (nI (i)))]) F dX0_spotsLitBy_37 rfl rfl (by decide) (hL _ (by decide)) rfl rfl ?_
        refine j_iincN (a := i) (c := 1) (lv' := [some (.ref (X.E.1 + 41)), some (.ref (X.E.1 + 1)), some (.int (nI (q))), some (.int (wo)), some (.int (nI (fa_cnt (fun s => decide (¬ P.LS q wo s = 0)) i + 1))), some (.int (nI (i + 1)))]) F dX0_spotsLitBy_40 rfl rfl (by decide) (hL _ (by decide)) rfl rfl ?_
        refine j_goto (pc' := 13) F dX0_spotsLitBy_43 (by decide) ?_
        rw [← fa_cnt_yes (p := fun s => decide (¬ P.LS q wo s = 0)) (n := i) (decide_eq_true c_34)]
        exact ih_13 (by omega)
  exact loop_13 0 (by omega)  

set_option maxRecDepth 10000 in
set_option maxHeartbeats 2000000 in
theorem c_X0_isEnough {l : Launch} {n : Nat} {E : Ev} {σ : St} {P : Pl} (hn : 55 ≤ n) (hP : PlanOK σ 1 P) (hBd : PB P) (hWl : ∀ w, w < P.nw → WallOK P w) (hLm : ∀ l, l < P.nl → LampOK P l) (L : Nat → Nat) (hLt : ∀ s, s < P.W * P.H → σ 42 s = nI (L s)) (hL2 : ∀ s, L s < 256) (q : Nat) (hq : q < 2147483648) : Ct l yX0_isEnough cX0_isEnough 4 (some .boolean) 0 n E [.ref (E.1 + 41), .ref (E.1 + 1), .int (nI (q))] σ (ro (.int (bI (enoughL L (P.W * P.H) q))) σ) := by
  refine Ct.of (lv0 := [some (.ref (E.1 + 41)), some (.ref (E.1 + 1)), some (.int (nI (q))), none]) (by decide) (Nat.le_of_ble_eq_true rfl) rfl ?_
  intro X hXn hXE hXl hXL F hRt
  subst hXn hXE hXl
  have hL : ∀ i, i < 4 → i < X.nL := fun i h => by rw [hXL]; exact h
  have hB0 := hBd
  obtain ⟨b1, b2, b3, b4, b5, b6, b7⟩ := hB0
  have har := ar_le b2 b4
  refine j_iconst (v := nI (0)) F dX0_isEnough_0 rfl (by decide) ?_
  refine j_istore_n (lv' := [some (.ref (X.E.1 + 41)), some (.ref (X.E.1 + 1)), some (.int (nI (q))), some (.int (nI (0)))]) F dX0_isEnough_1 rfl (hL _ (by decide)) rfl rfl ?_
  have loop_2 : ∀ (i : Nat), i ≤ (P.W * P.H) → (∀ s, s < i → ¬ L s = 0 → ¬ (L s &&& q) = 0) → J X 2 [some (.ref (X.E.1 + 41)), some (.ref (X.E.1 + 1)), some (.int (nI (q))), some (.int (nI (i)))] [] σ := by
    refine dnL (fun i hi ih_2 => ?_)
    intro hno
    refine j_iload_n F dX0_isEnough_2 rfl rfl ?_
    refine j_aload_n F dX0_isEnough_3 rfl rfl ?_
    refine gX0_49 (isPl_1 hn) F dX0_isEnough_4 rfl ?_
    refine j_int (y := nI (P.W)) (hP.w) ?_
    refine j_aload_n F dX0_isEnough_7 rfl rfl ?_
    refine gX0_46 (isPl_1 hn) F dX0_isEnough_8 rfl ?_
    refine j_int (y := nI (P.H)) (hP.h) ?_
    refine j_imulN (a := P.W) (b := P.H) F dX0_isEnough_11 rfl ?_
    refine j_icmp_geN (a := i) (b := P.W * P.H) F (by omega) (by omega) (tgt := 43) dX0_isEnough_12 (by decide) rfl (fun c_12 => ?_) (fun c_12 => ?_)
    · obtain rfl : i = P.W * P.H := by omega
      have hz : enoughL L (P.W * P.H) q = true := decide_eq_true hno
      refine j_iconst (v := nI (1)) F dX0_isEnough_43 rfl (by decide) ?_
      exact j_iret F hRt rfl (roB_t hz) dX0_isEnough_44
    · have hLs := hL2 i
      refine j_aload_n F dX0_isEnough_15 rfl rfl ?_
      refine gX0_9 hn F dX0_isEnough_16 rfl ?_
      refine j_iload_n F dX0_isEnough_19 rfl rfl ?_
      refine j_iaload (a := i) F (by omega) rfl rfl (by omega) (by decide) dX0_isEnough_20 rfl ?_
      refine j_int (y := nI (L i)) (hLt i c_12) ?_
      refine j_if_eqN (a := L i) F (by omega) (tgt := 37) dX0_isEnough_21 (by decide) rfl (fun c_21 => ?_) (fun c_21 => ?_)
      · have hni : ¬ L i = 0 → ¬ (L i &&& q) = 0 := fun z => absurd c_21 z
        refine j_iincN (a := i) (c := 1) (lv' := [some (.ref (X.E.1 + 41)), some (.ref (X.E.1 + 1)), some (.int (nI (q))), some (.int (nI (i + 1)))]) F dX0_isEnough_37 rfl rfl (by decide) (hL _ (by decide)) rfl rfl ?_
        refine j_goto (pc' := 2) F dX0_isEnough_40 (by decide) ?_
        exact ih_2 (by omega)  (fun s h z => by rcases (show s < i ∨ s = i by omega) with t | rfl; exact hno s t z; exact hni z)
      · refine j_aload_n F dX0_isEnough_24 rfl rfl ?_
        refine gX0_9 hn F dX0_isEnough_25 rfl ?_
        refine j_iload_n F dX0_isEnough_28 rfl rfl ?_
        refine j_iaload (a := i) F (by omega) rfl rfl (by omega) (by decide) dX0_isEnough_29 rfl ?_
        refine j_int (y := nI (L i)) (hLt i c_12) ?_
        refine j_iload_n F dX0_isEnough_30 rfl rfl ?_
        refine j_iand F dX0_isEnough_31 rfl ?_
        refine j_int (y := nI (L i &&& q)) (fa_and _ _) ?_
        refine j_if_neN (a := L i &&& q) F (Nat.lt_of_le_of_lt Nat.and_le_left (by omega)) (tgt := 37) dX0_isEnough_32 (by decide) rfl (fun c_32 => ?_) (fun c_32 => ?_)
        · have hni : ¬ L i = 0 → ¬ (L i &&& q) = 0 := fun _ => c_32
          refine j_iincN (a := i) (c := 1) (lv' := [some (.ref (X.E.1 + 41)), some (.ref (X.E.1 + 1)), some (.int (nI (q))), some (.int (nI (i + 1)))]) F dX0_isEnough_37 rfl rfl (by decide) (hL _ (by decide)) rfl rfl ?_
          refine j_goto (pc' := 2) F dX0_isEnough_40 (by decide) ?_
          exact ih_2 (by omega)  (fun s h z => by rcases (show s < i ∨ s = i by omega) with t | rfl; exact hno s t z; exact hni z)
        · have hz : enoughL L (P.W * P.H) q = false := decide_eq_false (fun z => z i c_12 c_21 c_32)
          refine j_iconst (v := nI (0)) F dX0_isEnough_35 rfl (by decide) ?_
          exact j_iret F hRt rfl (roB_f hz) dX0_isEnough_36
  exact loop_2 0 (by omega)  (fun s h => absurd h (by omega))

set_option maxRecDepth 10000 in
set_option maxHeartbeats 2000000 in
theorem c_X0_darkSpotsSeenFrom {l : Launch} {n : Nat} {E : Ev} {σ : St} {P : Pl} (hn : 55 ≤ n) (hP : PlanOK σ 1 P) (hBd : PB P) (hWl : ∀ w, w < P.nw → WallOK P w) (hLm : ∀ l, l < P.nl → LampOK P l) (L : Nat → Nat) (hLt : ∀ s, s < P.W * P.H → σ 42 s = nI (L s)) (hL2 : ∀ s, L s < 256) (fx fy : Nat) (h1 : fx ≤ 9) (h2 : fy ≤ 9) : Ct l yX0_darkSpotsSeenFrom cX0_darkSpotsSeenFrom 8 (some .int) 3 n E [.ref (E.1 + 41), .ref (E.1 + 1), .int (nI (fx)), .int (nI (fy))] σ (ro (.int (nI (P.dark L fx fy))) σ) := by
  refine Ct.of (lv0 := [some (.ref (E.1 + 41)), some (.ref (E.1 + 1)), some (.int (nI (fx))), some (.int (nI (fy))), none, none, none, none]) (by decide) (Nat.le_of_ble_eq_true rfl) rfl ?_
  intro X hXn hXE hXl hXL F hRt
  subst hXn hXE hXl
  have hL : ∀ i, i < 8 → i < X.nL := fun i h => by rw [hXL]; exact h
  have hB0 := hBd
  obtain ⟨b1, b2, b3, b4, b5, b6, b7⟩ := hB0
  have har := ar_le b2 b4
  refine j_iconst (v := nI (0)) F dX0_darkSpotsSeenFrom_0 rfl (by decide) ?_
  refine j_istore (lv' := [some (.ref (X.E.1 + 41)), some (.ref (X.E.1 + 1)), some (.int (nI (fx))), some (.int (nI (fy))), some (.int (nI (0))), none, none, none]) F dX0_darkSpotsSeenFrom_1 rfl (hL _ (by decide)) rfl rfl ?_
  refine j_iconst (v := nI (0)) F dX0_darkSpotsSeenFrom_3 rfl (by decide) ?_
  refine j_istore (lv' := [some (.ref (X.E.1 + 41)), some (.ref (X.E.1 + 1)), some (.int (nI (fx))), some (.int (nI (fy))), some (.int (nI (0))), some (.int (nI (0))), none, none]) F dX0_darkSpotsSeenFrom_4 rfl (hL _ (by decide)) rfl rfl ?_
  refine j_iconst (v := nI (0)) F dX0_darkSpotsSeenFrom_6 rfl (by decide) ?_
  refine j_istore (lv' := [some (.ref (X.E.1 + 41)), some (.ref (X.E.1 + 1)), some (.int (nI (fx))), some (.int (nI (fy))), some (.int (nI (0))), some (.int (nI (0))), some (.int (nI (0))), none]) F dX0_darkSpotsSeenFrom_7 rfl (hL _ (by decide)) rfl rfl ?_
  refine j_lv (lv' := [some (.ref (X.E.1 + 41)), some (.ref (X.E.1 + 1)), some (.int (nI (fx))), some (.int (nI (fy))), some (.int (nI (fa_cnt (fun s => decide (L s = 0) && P.free fx fy (s % P.W) (s / P.W) (-9)) (0 * P.W)))), some (.int (nI (0 * P.W))), some (.int (nI (0))), none]) (by rw [Nat.zero_mul]; exact sbl (ks := [0, 1, 2, 3, 4, 5, 6]) rfl) ?_
  have loop_9 : ∀ (i : Nat), i ≤ P.H → J X 9 [some (.ref (X.E.1 + 41)), some (.ref (X.E.1 + 1)), some (.int (nI (fx))), some (.int (nI (fy))), some (.int (nI (fa_cnt (fun s => decide (L s = 0) && P.free fx fy (s % P.W) (s / P.W) (-9)) (i * P.W)))), some (.int (nI (i * P.W))), some (.int (nI (i))), none] [] σ := by
    refine dnL (fun i hi ih_9 => ?_)
    have hci := fa_cnt_le (fun s => decide (L s = 0) && P.free fx fy (s % P.W) (s / P.W) (-9)) (i * P.W)
    refine j_iload F dX0_darkSpotsSeenFrom_9 rfl rfl ?_
    refine j_aload_n F dX0_darkSpotsSeenFrom_11 rfl rfl ?_
    refine gX0_46 (isPl_1 hn) F dX0_darkSpotsSeenFrom_12 rfl ?_
    refine j_int (y := nI (P.H)) (hP.h) ?_
    refine j_icmp_geN (a := i) (b := P.H) F (by omega) (by omega) (tgt := 73) dX0_darkSpotsSeenFrom_15 (by decide) rfl (fun c_15 => ?_) (fun c_15 => ?_)
    · obtain rfl : i = P.H := by omega
      rw [Nat.mul_comm P.H P.W]
      refine j_iload F dX0_darkSpotsSeenFrom_73 rfl rfl ?_
      exact j_iret F hRt rfl (⟨rfl, rfl⟩) dX0_darkSpotsSeenFrom_75
    · refine j_iconst (v := nI (0)) F dX0_darkSpotsSeenFrom_18 rfl (by decide) ?_
      refine j_istore (lv' := [some (.ref (X.E.1 + 41)), some (.ref (X.E.1 + 1)), some (.int (nI (fx))), some (.int (nI (fy))), some (.int (nI (fa_cnt (fun s => decide (L s = 0) && P.free fx fy (s % P.W) (s / P.W) (-9)) (i * P.W)))), some (.int (nI (i * P.W))), some (.int (nI (i))), some (.int (nI (0)))]) F dX0_darkSpotsSeenFrom_19 rfl (hL _ (by decide)) rfl rfl ?_
      have loop_21 : ∀ (j : Nat), j ≤ P.W → J X 21 [some (.ref (X.E.1 + 41)), some (.ref (X.E.1 + 1)), some (.int (nI (fx))), some (.int (nI (fy))), some (.int (nI (fa_cnt (fun s => decide (L s = 0) && P.free fx fy (s % P.W) (s / P.W) (-9)) (i * P.W + j)))), some (.int (nI (i * P.W + j))), some (.int (nI (i))), some (.int (nI (j)))] [] σ := by
        refine dnL (fun j hj ih_21 => ?_)
        have hcj := fa_cnt_le (fun s => decide (L s = 0) && P.free fx fy (s % P.W) (s / P.W) (-9)) (i * P.W + j)
        refine j_iload F dX0_darkSpotsSeenFrom_21 rfl rfl ?_
        refine j_aload_n F dX0_darkSpotsSeenFrom_23 rfl rfl ?_
        refine gX0_49 (isPl_1 hn) F dX0_darkSpotsSeenFrom_24 rfl ?_
        refine j_int (y := nI (P.W)) (hP.w) ?_
        refine j_icmp_geN (a := j) (b := P.W) F (by omega) (by omega) (tgt := 67) dX0_darkSpotsSeenFrom_27 (by decide) rfl (fun c_27 => ?_) (fun c_27 => ?_)
        · have hjw : j = P.W := by omega
          refine j_iincN (a := i) (c := 1) (lv' := [some (.ref (X.E.1 + 41)), some (.ref (X.E.1 + 1)), some (.int (nI (fx))), some (.int (nI (fy))), some (.int (nI (fa_cnt (fun s => decide (L s = 0) && P.free fx fy (s % P.W) (s / P.W) (-9)) (i * P.W + j)))), some (.int (nI (i * P.W + j))), some (.int (nI (i + 1))), some (.int (nI (j)))]) F dX0_darkSpotsSeenFrom_67 rfl rfl (by decide) (hL _ (by decide)) rfl rfl ?_
          refine j_goto (pc' := 9) F dX0_darkSpotsSeenFrom_70 (by decide) ?_
          refine j_lv (lv' := [some (.ref (X.E.1 + 41)), some (.ref (X.E.1 + 1)), some (.int (nI (fx))), some (.int (nI (fy))), some (.int (nI (fa_cnt (fun s => decide (L s = 0) && P.free fx fy (s % P.W) (s / P.W) (-9)) ((i + 1) * P.W)))), some (.int (nI ((i + 1) * P.W))), some (.int (nI (i + 1))), none]) (by rw [hjw, Nat.add_mul, Nat.one_mul]; exact sbl (ks := [0, 1, 2, 3, 4, 5, 6]) rfl) ?_
          exact ih_9 (by omega)  
        · have hsp := sp_lt c_15 c_27
          have hLs := hL2 (i * P.W + j)
          refine j_aload_n F dX0_darkSpotsSeenFrom_30 rfl rfl ?_
          refine gX0_9 hn F dX0_darkSpotsSeenFrom_31 rfl ?_
          refine j_iload F dX0_darkSpotsSeenFrom_34 rfl rfl ?_
          refine j_iaload (a := i * P.W + j) F (by omega) rfl rfl (by omega) (by decide) dX0_darkSpotsSeenFrom_36 rfl ?_
          refine j_int (y := nI (L (i * P.W + j))) (hLt _ hsp) ?_
          refine j_if_neN (a := L (i * P.W + j)) F (by omega) (tgt := 58) dX0_darkSpotsSeenFrom_37 (by decide) rfl (fun c_37 => ?_) (fun c_37 => ?_)
          · have hni : (fun s => decide (L s = 0) && P.free fx fy (s % P.W) (s / P.W) (-9)) (i * P.W + j) = false := by show (decide _ && _) = false; rw [decide_eq_false c_37]; rfl
            refine j_iincN (a := i * P.W + j) (c := 1) (lv' := [some (.ref (X.E.1 + 41)), some (.ref (X.E.1 + 1)), some (.int (nI (fx))), some (.int (nI (fy))), some (.int (nI (fa_cnt (fun s => decide (L s = 0) && P.free fx fy (s % P.W) (s / P.W) (-9)) (i * P.W + j)))), some (.int (nI (i * P.W + j + 1))), some (.int (nI (i))), some (.int (nI (j)))]) F dX0_darkSpotsSeenFrom_58 rfl rfl (by decide) (hL _ (by decide)) rfl rfl ?_
            refine j_iincN (a := j) (c := 1) (lv' := [some (.ref (X.E.1 + 41)), some (.ref (X.E.1 + 1)), some (.int (nI (fx))), some (.int (nI (fy))), some (.int (nI (fa_cnt (fun s => decide (L s = 0) && P.free fx fy (s % P.W) (s / P.W) (-9)) (i * P.W + j)))), some (.int (nI (i * P.W + j + 1))), some (.int (nI (i))), some (.int (nI (j + 1)))]) F dX0_darkSpotsSeenFrom_61 rfl rfl (by decide) (hL _ (by decide)) rfl rfl ?_
            refine j_goto (pc' := 21) F dX0_darkSpotsSeenFrom_64 (by decide) ?_
            rw [← fa_cnt_no (p := (fun s => decide (L s = 0) && P.free fx fy (s % P.W) (s / P.W) (-9))) (n := i * P.W + j) hni]
            exact ih_21 (by omega)
          · refine j_aload_n F dX0_darkSpotsSeenFrom_40 rfl rfl ?_
            refine j_iload_n F dX0_darkSpotsSeenFrom_41 rfl rfl ?_
            refine j_iload_n F dX0_darkSpotsSeenFrom_42 rfl rfl ?_
            refine j_iload F dX0_darkSpotsSeenFrom_43 rfl rfl ?_
            refine j_iload F dX0_darkSpotsSeenFrom_45 rfl rfl ?_
            refine j_bipush (v := (-9 : Int32)) F dX0_darkSpotsSeenFrom_47 rfl (by decide) ?_
            refine kX0_43 F (As := [.ref (X.E.1 + 1), .int (nI (fx)), .int (nI (fy)), .int (nI (j)), .int (nI (i)), .int ((-9 : Int32))]) (rest := []) (c_X0_isFree hn (isPl_1 hn) hP hBd hWl fx fy j i ((-9 : Int32)) (by omega) (by omega) (by omega) (by omega)) (by decide) rfl rfl (Nat.le_of_ble_eq_true rfl) dX0_darkSpotsSeenFrom_49 rfl (ro_k ?_)
            refine j_if_eqB F (x := P.free fx fy j i ((-9 : Int32))) (tgt := 58) dX0_darkSpotsSeenFrom_52 (by decide) rfl (fun c_52 => ?_) (fun c_52 => ?_)
            · have hni : (fun s => decide (L s = 0) && P.free fx fy (s % P.W) (s / P.W) (-9)) (i * P.W + j) = false := by show (decide _ && P.free _ _ _ _ _) = false; rw [dm_1 c_27, dm_2 c_27, c_52, Bool.and_false]
              refine j_iincN (a := i * P.W + j) (c := 1) (lv' := [some (.ref (X.E.1 + 41)), some (.ref (X.E.1 + 1)), some (.int (nI (fx))), some (.int (nI (fy))), some (.int (nI (fa_cnt (fun s => decide (L s = 0) && P.free fx fy (s % P.W) (s / P.W) (-9)) (i * P.W + j)))), some (.int (nI (i * P.W + j + 1))), some (.int (nI (i))), some (.int (nI (j)))]) F dX0_darkSpotsSeenFrom_58 rfl rfl (by decide) (hL _ (by decide)) rfl rfl ?_
              refine j_iincN (a := j) (c := 1) (lv' := [some (.ref (X.E.1 + 41)), some (.ref (X.E.1 + 1)), some (.int (nI (fx))), some (.int (nI (fy))), some (.int (nI (fa_cnt (fun s => decide (L s = 0) && P.free fx fy (s % P.W) (s / P.W) (-9)) (i * P.W + j)))), some (.int (nI (i * P.W + j + 1))), some (.int (nI (i))), some (.int (nI (j + 1)))]) F dX0_darkSpotsSeenFrom_61 rfl rfl (by decide) (hL _ (by decide)) rfl rfl ?_
              refine j_goto (pc' := 21) F dX0_darkSpotsSeenFrom_64 (by decide) ?_
              rw [← fa_cnt_no (p := (fun s => decide (L s = 0) && P.free fx fy (s % P.W) (s / P.W) (-9))) (n := i * P.W + j) hni]
              exact ih_21 (by omega)
            · have hni : (fun s => decide (L s = 0) && P.free fx fy (s % P.W) (s / P.W) (-9)) (i * P.W + j) = true := by show (decide _ && P.free _ _ _ _ _) = true; rw [dm_1 c_27, dm_2 c_27, c_52, decide_eq_true c_37]; rfl
              refine j_iincN (a := fa_cnt (fun s => decide (L s = 0) && P.free fx fy (s % P.W) (s / P.W) (-9)) (i * P.W + j)) (c := 1) (lv' := [some (.ref (X.E.1 + 41)), some (.ref (X.E.1 + 1)), some (.int (nI (fx))), some (.int (nI (fy))), some (.int (nI (fa_cnt (fun s => decide (L s = 0) && P.free fx fy (s % P.W) (s / P.W) (-9)) (i * P.W + j) + 1))), some (.int (nI (i * P.W + j))), some (.int (nI (i))), some (.int (nI (j)))]) F dX0_darkSpotsSeenFrom_55 rfl rfl (by decide) (hL _ (by decide)) rfl rfl ?_
              refine j_iincN (a := i * P.W + j) (c := 1) (lv' := [some (.ref (X.E.1 + 41)), some (.ref (X.E.1 + 1)), some (.int (nI (fx))), some (.int (nI (fy))), some (.int (nI (fa_cnt (fun s => decide (L s = 0) && P.free fx fy (s % P.W) (s / P.W) (-9)) (i * P.W + j) + 1))), some (.int (nI (i * P.W + j + 1))), some (.int (nI (i))), some (.int (nI (j)))]) F dX0_darkSpotsSeenFrom_58 rfl rfl (by decide) (hL _ (by decide)) rfl rfl ?_
              refine j_iincN (a := j) (c := 1) (lv' := [some (.ref (X.E.1 + 41)), some (.ref (X.E.1 + 1)), some (.int (nI (fx))), some (.int (nI (fy))), some (.int (nI (fa_cnt (fun s => decide (L s = 0) && P.free fx fy (s % P.W) (s / P.W) (-9)) (i * P.W + j) + 1))), some (.int (nI (i * P.W + j + 1))), some (.int (nI (i))), some (.int (nI (j + 1)))]) F dX0_darkSpotsSeenFrom_61 rfl rfl (by decide) (hL _ (by decide)) rfl rfl ?_
              refine j_goto (pc' := 21) F dX0_darkSpotsSeenFrom_64 (by decide) ?_
              rw [← fa_cnt_yes (p := (fun s => decide (L s = 0) && P.free fx fy (s % P.W) (s / P.W) (-9))) (n := i * P.W + j) hni]
              exact ih_21 (by omega)
      exact loop_21 0 (by omega)  
  exact loop_9 0 (by omega)  
