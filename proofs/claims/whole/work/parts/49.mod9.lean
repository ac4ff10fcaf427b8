set_option maxRecDepth 10000 in
set_option maxHeartbeats 2000000 in
theorem c_X6_item {l : Launch} {n : Nat} {E : Ev} {σ : St} {t : Nat → Nat} {m : Nat} (hn : 69 ≤ n) (hT : MTx σ t m) (p : Nat) (hp : σ 55 14 = nI p) (hpm : p ≤ m) {P : Pl} (hD : RdM σ P) (hG : PGt P) (s : Nat) (hs : σ 55 15 = nI s) (items c : Nat) (hit : items ≤ 121) (h40 : items = 0 → P.nw = 4 ∧ P.nl = 0) (h16 : σ 55 16 = tmI c) (hc : c ≤ 3000) : Ct l yX6_item cX6_item 2 (some .boolean) 5 n E [.ref (E.1 + 55), .int (nI (items))] σ (ItP σ (itemM t m P items c s p)) := by
  refine Ct.of (lv0 := [some (.ref (E.1 + 55)), some (.int (nI (items)))]) (by decide) (Nat.le_of_ble_eq_true rfl) rfl ?_
  intro X hXn hXE hXl hXL F hRt
  subst hXn hXE hXl
  have hL : ∀ i, i < 2 → i < X.nL := fun i h => by rw [hXL]; exact h
  have hB0 := hG.1.1
  obtain ⟨b1, b2, b3, b4, b5, b6, b7⟩ := hB0
  have hT2 := hT.2.1
  refine j_aload_n F dX6_item_0 rfl rfl ?_
  refine gX6_83 hn F dX6_item_1 rfl ?_
  refine j_int (y := tmI c) (h16) ?_
  by_cases s98 : c = 98
  · refine j_lookup F (tgt := 48) (off := 44) dX6_item_4 (by decide) (by rw [s98]; decide) (by decide) ?_
    refine j_aload_n F dX6_item_48 rfl rfl ?_
    refine j_iload_n F dX6_item_49 rfl rfl ?_
    refine kX6_112 hn F (As := [.int (nI (items))]) (rest := []) (c_X6_readsPlan hn hT p hp hpm hD hG s hs items hit h40) (by decide) rfl rfl (Nat.le_of_ble_eq_true rfl) dX6_item_50 rfl (fun v_50 σ_50 q_50 => ?_)
    have hq_50 : ItP σ (itemM t m P items c s p) v_50 σ_50 := by unfold itemM; rw [if_pos s98]; exact q_50
    obtain ⟨b_50, rfl, hb_50, hi_50⟩ := ItP_b hq_50
    exact j_iret F hRt (nar_b hb_50) (hi_50) dX6_item_53
  · skip
    by_cases s114 : c = 114
    · refine j_lookup F (tgt := 54) (off := 50) dX6_item_4 (by decide) (by rw [s114]; decide) (by decide) ?_
      refine j_aload_n F dX6_item_54 rfl rfl ?_
      refine j_iconst (v := nI (0)) F dX6_item_55 rfl (by decide) ?_
      refine kX6_115 hn F (As := [.int (nI (0))]) (rest := []) (c_X6_readsWall hn hT p hp hpm hD hG s hs 0 (by decide)) (by decide) rfl rfl (Nat.le_of_ble_eq_true rfl) dX6_item_56 rfl (fun v_56 σ_56 q_56 => ?_)
      have hq_56 : ItP σ (itemM t m P items c s p) v_56 σ_56 := by unfold itemM; rw [if_neg s98, if_pos s114]; exact q_56
      obtain ⟨b_56, rfl, hb_56, hi_56⟩ := ItP_b hq_56
      exact j_iret F hRt (nar_b hb_56) (hi_56) dX6_item_59
    · skip
      by_cases s117 : c = 117
      · refine j_lookup F (tgt := 60) (off := 56) dX6_item_4 (by decide) (by rw [s117]; decide) (by decide) ?_
        refine j_aload_n F dX6_item_60 rfl rfl ?_
        refine j_iconst (v := nI (1)) F dX6_item_61 rfl (by decide) ?_
        refine kX6_115 hn F (As := [.int (nI (1))]) (rest := []) (c_X6_readsWall hn hT p hp hpm hD hG s hs 1 (by decide)) (by decide) rfl rfl (Nat.le_of_ble_eq_true rfl) dX6_item_62 rfl (fun v_62 σ_62 q_62 => ?_)
        have hq_62 : ItP σ (itemM t m P items c s p) v_62 σ_62 := by unfold itemM; rw [if_neg s98, if_neg s114, if_pos s117]; exact q_62
        obtain ⟨b_62, rfl, hb_62, hi_62⟩ := ItP_b hq_62
        exact j_iret F hRt (nar_b hb_62) (hi_62) dX6_item_65
      · skip
        by_cases s108 : c = 108
        · refine j_lookup F (tgt := 66) (off := 62) dX6_item_4 (by decide) (by rw [s108]; decide) (by decide) ?_
          refine j_aload_n F dX6_item_66 rfl rfl ?_
          refine kX6_118 hn F (As := []) (rest := []) (c_X6_readsLamp hn hT p hp hpm hD hG s hs) (by decide) rfl rfl (Nat.le_of_ble_eq_true rfl) dX6_item_67 rfl (fun v_67 σ_67 q_67 => ?_)
          have hq_67 : ItP σ (itemM t m P items c s p) v_67 σ_67 := by unfold itemM; rw [if_neg s98, if_neg s114, if_neg s117, if_pos s108]; exact q_67
          obtain ⟨b_67, rfl, hb_67, hi_67⟩ := ItP_b hq_67
          exact j_iret F hRt (nar_b hb_67) (hi_67) dX6_item_70
        · skip
          refine j_lookup F (tgt := 71) (off := 67) dX6_item_4 (by decide) (lk_out hc s98 s114 s117 s108) (by decide) ?_
          refine j_iconst (v := nI (0)) F dX6_item_71 rfl (by decide) ?_
          exact j_iret F hRt rfl (ItP_l (by unfold itemM; rw [if_neg s98, if_neg s114, if_neg s117, if_neg s108]) FrT.rf hs) dX6_item_72

set_option maxRecDepth 10000 in
set_option maxHeartbeats 2000000 in
theorem c_X6_begins {l : Launch} {n : Nat} {E : Ev} {σ : St} (hn : 69 ≤ n) : Ct l yX6_begins cX6_begins 1 none 0 n E [.ref (E.1 + 55)] σ (fun v' σ' => v' = none ∧ σ' = up (up (up (up σ 55 18 (nI 6)) 55 19 (nI 6)) 55 20 (nI 0)) 55 22 (nI 0)) := by
  refine Ct.of (lv0 := [some (.ref (E.1 + 55))]) (by decide) (Nat.le_of_ble_eq_true rfl) rfl ?_
  intro X hXn hXE hXl hXL F hRt
  subst hXn hXE hXl
  have hL : ∀ i, i < 1 → i < X.nL := fun i h => by rw [hXL]; exact h
  refine j_aload_n F dX6_begins_0 rfl rfl ?_
  refine j_bipush (v := nI (6)) F dX6_begins_1 rfl (by decide) ?_
  refine pX6_100 hn F dX6_begins_3 rfl ?_
  refine j_aload_n F dX6_begins_6 rfl rfl ?_
  refine j_bipush (v := nI (6)) F dX6_begins_7 rfl (by decide) ?_
  refine pX6_103 hn F dX6_begins_9 rfl ?_
  refine j_aload_n F dX6_begins_12 rfl rfl ?_
  refine j_iconst (v := nI (0)) F dX6_begins_13 rfl (by decide) ?_
  refine pX6_106 hn F dX6_begins_14 rfl ?_
  refine j_aload_n F dX6_begins_17 rfl rfl ?_
  refine j_iconst (v := nI (0)) F dX6_begins_18 rfl (by decide) ?_
  refine pX6_109 hn F dX6_begins_19 rfl ?_
  exact j_vret F hRt (⟨rfl, rfl⟩) dX6_begins_22

set_option maxRecDepth 10000 in
set_option maxHeartbeats 2000000 in
theorem c_X6_becomes {l : Launch} {n : Nat} {E : Ev} {σ : St} {t : Nat → Nat} {m : Nat} (hn : 69 ≤ n) (hT : MTx σ t m) (h0 : σ 55 0 = nI 0) {P : Pl} (hD : RdM σ P) (hG : PGt P) : Ct l yX6_becomes cX6_becomes 2 none 1 n E [.ref (E.1 + 55)] σ (fun v' σ' => v' = none ∧ MR σ' (P, t, m, [], fun _ => none, []) ∧ FrM σ σ') := by
  refine Ct.of (lv0 := [some (.ref (E.1 + 55)), none]) (by decide) (Nat.le_of_ble_eq_true rfl) rfl ?_
  intro X hXn hXE hXl hXL F hRt
  subst hXn hXE hXl
  have hL : ∀ i, i < 2 → i < X.nL := fun i h => by rw [hXL]; exact h
  have hB0 := hG.1.1
  obtain ⟨b1, b2, b3, b4, b5, b6, b7⟩ := hB0
  obtain ⟨⟨a00, a01, a02, a03⟩, ⟨a10, a11, a12, a13⟩, ⟨a20, a21, a22, a23⟩, a30, a31, a32, a33⟩ := hG.1.2.2.2
  refine j_aload_n F dX6_becomes_0 rfl rfl ?_
  refine j_aload_n F dX6_becomes_1 rfl rfl ?_
  refine gX6_100 hn F dX6_becomes_2 rfl ?_
  refine j_int (y := nI (P.W)) (hD.1) ?_
  refine pX6_60 hn F dX6_becomes_5 rfl ?_
  refine j_aload_n F dX6_becomes_8 rfl rfl ?_
  refine j_aload_n F dX6_becomes_9 rfl rfl ?_
  refine gX6_103 hn F dX6_becomes_10 rfl ?_
  refine j_int (y := nI (P.H)) ((up_o55 (by decide)).trans (hD.2.1)) ?_
  refine pX6_67 hn F dX6_becomes_13 rfl ?_
  refine j_aload_n F dX6_becomes_16 rfl rfl ?_
  refine j_iconst (v := nI (0)) F dX6_becomes_17 rfl (by decide) ?_
  refine j_iconst (v := nI (0)) F dX6_becomes_18 rfl (by decide) ?_
  refine j_iconst (v := nI (0)) F dX6_becomes_19 rfl (by decide) ?_
  refine j_aload_n F dX6_becomes_20 rfl rfl ?_
  refine gX6_60 hn F dX6_becomes_21 rfl ?_
  refine j_int (y := nI (P.W)) ((up_o55 (by decide)).trans up_i55) ?_
  refine j_iconst (v := nI (0)) F dX6_becomes_24 rfl (by decide) ?_
  refine kX6_122 hn F (As := [.int (nI (0)), .int (nI (0)), .int (nI (0)), .int (nI (P.W)), .int (nI (0))]) (rest := []) (c_X6_setsWall hn 0 0 0 P.W 0 (by omega)) (by decide) rfl rfl (Nat.le_of_ble_eq_true rfl) dX6_becomes_25 rfl (fun v_25 σ_25 q_25 => ?_)
  obtain ⟨rfl, rfl⟩ := q_25
  refine j_store (σ' := upR (up (up σ 55 1 (nI (P.W))) 55 2 (nI (P.H))) 56 (w4 (σ 56) 0 0 0 P.W 0)) rfl ?_
  refine j_aload_n F dX6_becomes_28 rfl rfl ?_
  refine j_iconst (v := nI (1)) F dX6_becomes_29 rfl (by decide) ?_
  refine j_aload_n F dX6_becomes_30 rfl rfl ?_
  refine gX6_60 hn F dX6_becomes_31 rfl ?_
  refine j_int (y := nI (P.W)) ((upR_55 (by decide)).trans ((up_o55 (by decide)).trans up_i55)) ?_
  refine j_iconst (v := nI (0)) F dX6_becomes_34 rfl (by decide) ?_
  refine j_aload_n F dX6_becomes_35 rfl rfl ?_
  refine gX6_67 hn F dX6_becomes_36 rfl ?_
  refine j_int (y := nI (P.H)) ((upR_55 (by decide)).trans (up_i55)) ?_
  refine j_iconst (v := nI (1)) F dX6_becomes_39 rfl (by decide) ?_
  refine kX6_122 hn F (As := [.int (nI (1)), .int (nI (P.W)), .int (nI (0)), .int (nI (P.H)), .int (nI (1))]) (rest := []) (c_X6_setsWall hn 1 P.W 0 P.H 1 (by omega)) (by decide) rfl rfl (Nat.le_of_ble_eq_true rfl) dX6_becomes_40 rfl (fun v_40 σ_40 q_40 => ?_)
  obtain ⟨rfl, rfl⟩ := q_40
  refine j_store (σ' := upR (up (up σ 55 1 (nI (P.W))) 55 2 (nI (P.H))) 56 (w4 (w4 (σ 56) 0 0 0 P.W 0) 1 P.W 0 P.H 1)) (w4_up _ _ _ _ _ _ _) ?_
  refine j_aload_n F dX6_becomes_43 rfl rfl ?_
  refine j_iconst (v := nI (2)) F dX6_becomes_44 rfl (by decide) ?_
  refine j_iconst (v := nI (0)) F dX6_becomes_45 rfl (by decide) ?_
  refine j_aload_n F dX6_becomes_46 rfl rfl ?_
  refine gX6_67 hn F dX6_becomes_47 rfl ?_
  refine j_int (y := nI (P.H)) ((upR_55 (by decide)).trans (up_i55)) ?_
  refine j_aload_n F dX6_becomes_50 rfl rfl ?_
  refine gX6_60 hn F dX6_becomes_51 rfl ?_
  refine j_int (y := nI (P.W)) ((upR_55 (by decide)).trans ((up_o55 (by decide)).trans up_i55)) ?_
  refine j_iconst (v := nI (0)) F dX6_becomes_54 rfl (by decide) ?_
  refine kX6_122 hn F (As := [.int (nI (2)), .int (nI (0)), .int (nI (P.H)), .int (nI (P.W)), .int (nI (0))]) (rest := []) (c_X6_setsWall hn 2 0 P.H P.W 0 (by omega)) (by decide) rfl rfl (Nat.le_of_ble_eq_true rfl) dX6_becomes_55 rfl (fun v_55 σ_55 q_55 => ?_)
  obtain ⟨rfl, rfl⟩ := q_55
  refine j_store (σ' := upR (up (up σ 55 1 (nI (P.W))) 55 2 (nI (P.H))) 56 (w4 (w4 (w4 (σ 56) 0 0 0 P.W 0) 1 P.W 0 P.H 1) 2 0 P.H P.W 0)) (w4_up _ _ _ _ _ _ _) ?_
  refine j_aload_n F dX6_becomes_58 rfl rfl ?_
  refine j_iconst (v := nI (3)) F dX6_becomes_59 rfl (by decide) ?_
  refine j_iconst (v := nI (0)) F dX6_becomes_60 rfl (by decide) ?_
  refine j_iconst (v := nI (0)) F dX6_becomes_61 rfl (by decide) ?_
  refine j_aload_n F dX6_becomes_62 rfl rfl ?_
  refine gX6_67 hn F dX6_becomes_63 rfl ?_
  refine j_int (y := nI (P.H)) ((upR_55 (by decide)).trans (up_i55)) ?_
  refine j_iconst (v := nI (1)) F dX6_becomes_66 rfl (by decide) ?_
  refine kX6_122 hn F (As := [.int (nI (3)), .int (nI (0)), .int (nI (0)), .int (nI (P.H)), .int (nI (1))]) (rest := []) (c_X6_setsWall hn 3 0 0 P.H 1 (by omega)) (by decide) rfl rfl (Nat.le_of_ble_eq_true rfl) dX6_becomes_67 rfl (fun v_67 σ_67 q_67 => ?_)
  obtain ⟨rfl, rfl⟩ := q_67
  refine j_store (σ' := upR (up (up σ 55 1 (nI (P.W))) 55 2 (nI (P.H))) 56 (w4 (w4 (w4 (w4 (σ 56) 0 0 0 P.W 0) 1 P.W 0 P.H 1) 2 0 P.H P.W 0) 3 0 0 P.H 1)) (w4_up _ _ _ _ _ _ _) ?_
  refine j_iconst (v := nI (0)) F dX6_becomes_70 rfl (by decide) ?_
  refine j_istore_n (lv' := [some (.ref (X.E.1 + 55)), some (.int (nI (0)))]) F dX6_becomes_71 rfl (hL _ (by decide)) rfl rfl ?_
  have loop_72 : ∀ (ii : Nat), ii ≤ (P.nw - 4) → ∀ (g : Nat → Int32), (wOK g P (ii + 4)) → J X 72 [some (.ref (X.E.1 + 55)), some (.int (nI (ii)))] [] (upR (up (up σ 55 1 (nI (P.W))) 55 2 (nI (P.H))) 56 g) := by
    refine dnL (fun ii hii ih_72 => ?_)
    intro g hg
    refine j_iload_n F dX6_becomes_72 rfl rfl ?_
    refine j_aload_n F dX6_becomes_73 rfl rfl ?_
    refine gX6_106 hn F dX6_becomes_74 rfl ?_
    refine j_int (y := nI (P.nw - 4)) ((upR_55 (by decide)).trans ((up_o55 (by decide)).trans ((up_o55 (by decide)).trans (hD.2.2.1)))) ?_
    refine j_icmp_geN (a := ii) (b := P.nw - 4) F (by omega) (by omega) (tgt := 131) dX6_becomes_77 (by decide) rfl (fun c_77 => ?_) (fun c_77 => ?_)
    · have hiN : ii = P.nw - 4 := by omega
      have hgw : wOK g P P.nw := by have z := hg; rw [show ii + 4 = P.nw by omega] at z; exact z
      refine j_iconst (v := nI (0)) F dX6_becomes_131 rfl (by decide) ?_
      refine j_istore_n (lv' := [some (.ref (X.E.1 + 55)), some (.int (nI (0)))]) F dX6_becomes_132 rfl (hL _ (by decide)) rfl rfl ?_
      have loop_133 : ∀ (ii : Nat), ii ≤ P.nl → ∀ (g : Nat → Int32), (wOK g P P.nw) → (lOK g P ii) → J X 133 [some (.ref (X.E.1 + 55)), some (.int (nI (ii)))] [] (upR (up (up σ 55 1 (nI (P.W))) 55 2 (nI (P.H))) 56 g) := by
        refine dnL (fun ii hii ih_133 => ?_)
        intro g hgw hgl
        refine j_iload_n F dX6_becomes_133 rfl rfl ?_
        refine j_aload_n F dX6_becomes_134 rfl rfl ?_
        refine gX6_109 hn F dX6_becomes_135 rfl ?_
        refine j_int (y := nI (P.nl)) ((upR_55 (by decide)).trans ((up_o55 (by decide)).trans ((up_o55 (by decide)).trans (hD.2.2.2.1)))) ?_
        refine j_icmp_geN (a := ii) (b := P.nl) F (by omega) (by omega) (tgt := 200) dX6_becomes_138 (by decide) rfl (fun c_138 => ?_) (fun c_138 => ?_)
        · have hiL : ii = P.nl := by omega
          refine j_aload_n F dX6_becomes_200 rfl rfl ?_
          refine gX6_7 hn F dX6_becomes_201 rfl ?_
          refine j_iconst (v := nI (0)) F dX6_becomes_204 rfl (by decide) ?_
          refine j_aload_n F dX6_becomes_205 rfl rfl ?_
          refine gX6_109 hn F dX6_becomes_206 rfl ?_
          refine j_int (y := nI (P.nl)) ((upR_55 (by decide)).trans ((up_o55 (by decide)).trans ((up_o55 (by decide)).trans (hD.2.2.2.1)))) ?_
          refine j_iastore (a := 0) F (by omega) rfl rfl (by omega) (by decide) dX6_becomes_209 rfl ?_
          refine j_aload_n F dX6_becomes_210 rfl rfl ?_
          refine gX6_7 hn F dX6_becomes_211 rfl ?_
          refine j_iconst (v := nI (1)) F dX6_becomes_214 rfl (by decide) ?_
          refine j_aload_n F dX6_becomes_215 rfl rfl ?_
          refine gX6_106 hn F dX6_becomes_216 rfl ?_
          refine j_int (y := nI (P.nw - 4)) ((up_oc (by decide)).trans ((upR_55 (by decide)).trans ((up_o55 (by decide)).trans ((up_o55 (by decide)).trans (hD.2.2.1))))) ?_
          refine j_iconst (v := nI (4)) F dX6_becomes_219 rfl (by decide) ?_
          refine j_iaddN (a := P.nw - 4) (b := 4) F dX6_becomes_220 rfl ?_
          refine j_iastore (a := 1) F (by omega) rfl rfl (by omega) (by decide) dX6_becomes_221 rfl ?_
          refine j_aload_n F dX6_becomes_222 rfl rfl ?_
          refine j_iconst (v := nI (0)) F dX6_becomes_223 rfl (by decide) ?_
          refine pX6_126 hn F dX6_becomes_224 rfl ?_
          refine j_aload_n F dX6_becomes_227 rfl rfl ?_
          refine j_iconst (v := nI (0)) F dX6_becomes_228 rfl (by decide) ?_
          refine pX6_129 hn F dX6_becomes_229 rfl ?_
          refine j_aload_n F dX6_becomes_232 rfl rfl ?_
          refine gX6_19 hn F dX6_becomes_233 rfl ?_
          refine j_iconst (v := nI (0)) F dX6_becomes_236 rfl (by decide) ?_
          refine j_iconst (v := nI (0)) F dX6_becomes_237 rfl (by decide) ?_
          refine j_bastore (a := 0) F (by omega) rfl rfl (by omega) (by decide) rfl dX6_becomes_238 rfl ?_
          refine j_aload_n F dX6_becomes_239 rfl rfl ?_
          refine gX6_19 hn F dX6_becomes_240 rfl ?_
          refine j_iconst (v := nI (1)) F dX6_becomes_243 rfl (by decide) ?_
          refine j_iconst (v := nI (0)) F dX6_becomes_244 rfl (by decide) ?_
          refine j_bastore (a := 1) F (by omega) rfl rfl (by omega) (by decide) rfl dX6_becomes_245 rfl ?_
          exact j_vret F hRt (⟨rfl, bec_MR h0 hT b5 hgw (by rw [← hiL]; exact hgl), fun a ha => bec_n _ _ _ (by omega) (by omega) (by omega)⟩) dX6_becomes_246
        · refine j_aload_n F dX6_becomes_141 rfl rfl ?_
          refine gX6_7 hn F dX6_becomes_142 rfl ?_
          refine j_iconst (v := nI (2)) F dX6_becomes_145 rfl (by decide) ?_
          refine j_iconst (v := nI (3)) F dX6_becomes_146 rfl (by decide) ?_
          refine j_iload_n F dX6_becomes_147 rfl rfl ?_
          refine j_imulN (a := 3) (b := ii) F dX6_becomes_148 rfl ?_
          refine j_iaddN (a := 2) (b := 3 * ii) F dX6_becomes_149 rfl ?_
          refine j_aload_n F dX6_becomes_150 rfl rfl ?_
          refine gX6_38 hn F dX6_becomes_151 rfl ?_
          refine j_iconst (v := nI (2)) F dX6_becomes_154 rfl (by decide) ?_
          refine j_iload_n F dX6_becomes_155 rfl rfl ?_
          refine j_imulN (a := 2) (b := ii) F dX6_becomes_156 rfl ?_
          refine j_iaload (a := 2 * ii) F (by omega) rfl rfl (by omega) (by decide) dX6_becomes_157 rfl ?_
          refine j_int (y := nI (P.lp ii 0)) ((congrFun (show (upR (up (up σ 55 1 (nI (P.W))) 55 2 (nI (P.H))) 56 g) 65 = σ 65 from (upR_n _ _ (by decide)).trans ((upR_n _ _ (by decide)).trans (upR_n _ _ (by decide)))) _).trans (hD.2.2.2.2.2 ii 0 c_138 (by decide))) ?_
          refine j_iastore (a := 2 + (3 * ii)) F (by omega) rfl rfl (by omega) (by decide) dX6_becomes_158 rfl ?_
          refine j_aload_n F dX6_becomes_159 rfl rfl ?_
          refine gX6_7 hn F dX6_becomes_160 rfl ?_
          refine j_iconst (v := nI (2)) F dX6_becomes_163 rfl (by decide) ?_
          refine j_iconst (v := nI (3)) F dX6_becomes_164 rfl (by decide) ?_
          refine j_iload_n F dX6_becomes_165 rfl rfl ?_
          refine j_imulN (a := 3) (b := ii) F dX6_becomes_166 rfl ?_
          refine j_iaddN (a := 2) (b := 3 * ii) F dX6_becomes_167 rfl ?_
          refine j_iconst (v := nI (1)) F dX6_becomes_168 rfl (by decide) ?_
          refine j_iaddN (a := 2 + (3 * ii)) (b := 1) F dX6_becomes_169 rfl ?_
          refine j_aload_n F dX6_becomes_170 rfl rfl ?_
          refine gX6_38 hn F dX6_becomes_171 rfl ?_
          refine j_iconst (v := nI (2)) F dX6_becomes_174 rfl (by decide) ?_
          refine j_iload_n F dX6_becomes_175 rfl rfl ?_
          refine j_imulN (a := 2) (b := ii) F dX6_becomes_176 rfl ?_
          refine j_iconst (v := nI (1)) F dX6_becomes_177 rfl (by decide) ?_
          refine j_iaddN (a := 2 * ii) (b := 1) F dX6_becomes_178 rfl ?_
          refine j_iaload (a := (2 * ii) + 1) F (by omega) rfl rfl (by omega) (by decide) dX6_becomes_179 rfl ?_
          refine j_int (y := nI (P.lp ii 1)) ((congrFun (show (up (upR (up (up σ 55 1 (nI (P.W))) 55 2 (nI (P.H))) 56 g) 56 (2 + (3 * ii)) (nI (P.lp ii 0))) 65 = σ 65 from (upR_n _ _ (by decide)).trans ((upR_n _ _ (by decide)).trans ((upR_n _ _ (by decide)).trans (upR_n _ _ (by decide))))) _).trans (hD.2.2.2.2.2 ii 1 c_138 (by decide))) ?_
          refine j_iastore (a := (2 + (3 * ii)) + 1) F (by omega) rfl rfl (by omega) (by decide) dX6_becomes_180 rfl ?_
          refine j_aload_n F dX6_becomes_181 rfl rfl ?_
          refine gX6_7 hn F dX6_becomes_182 rfl ?_
          refine j_iconst (v := nI (2)) F dX6_becomes_185 rfl (by decide) ?_
          refine j_iconst (v := nI (3)) F dX6_becomes_186 rfl (by decide) ?_
          refine j_iload_n F dX6_becomes_187 rfl rfl ?_
          refine j_imulN (a := 3) (b := ii) F dX6_becomes_188 rfl ?_
          refine j_iaddN (a := 2) (b := 3 * ii) F dX6_becomes_189 rfl ?_
          refine j_iconst (v := nI (2)) F dX6_becomes_190 rfl (by decide) ?_
          refine j_iaddN (a := 2 + (3 * ii)) (b := 2) F dX6_becomes_191 rfl ?_
          refine j_iconst (v := nI (1)) F dX6_becomes_192 rfl (by decide) ?_
          refine j_iastore (a := (2 + (3 * ii)) + 2) F (by omega) rfl rfl (by omega) (by decide) dX6_becomes_193 rfl ?_
          refine j_store (σ' := upR (up (up σ 55 1 (nI (P.W))) 55 2 (nI (P.H))) 56 (l3 g ii (P.lp ii 0) (P.lp ii 1))) (l3_up _ _ _ _ _) ?_
          refine j_iincN (a := ii) (c := 1) (lv' := [some (.ref (X.E.1 + 55)), some (.int (nI (ii + 1)))]) F dX6_becomes_194 rfl rfl (by decide) (hL _ (by decide)) rfl rfl ?_
          refine j_goto (pc' := 133) F dX6_becomes_197 (by decide) ?_
          exact ih_133 (by omega) (l3 g ii (P.lp ii 0) (P.lp ii 1)) (l3_w hgw (by omega)) (l3_ok hgl rfl rfl (hG.2 ii c_138))
      exact loop_133 0 (by omega) g hgw (fun l p q => absurd q (Nat.not_lt_zero l))
    · refine j_aload_n F dX6_becomes_80 rfl rfl ?_
      refine j_iload_n F dX6_becomes_81 rfl rfl ?_
      refine j_iconst (v := nI (4)) F dX6_becomes_82 rfl (by decide) ?_
      refine j_iaddN (a := ii) (b := 4) F dX6_becomes_83 rfl ?_
      refine j_aload_n F dX6_becomes_84 rfl rfl ?_
      refine gX6_35 hn F dX6_becomes_85 rfl ?_
      refine j_iconst (v := nI (4)) F dX6_becomes_88 rfl (by decide) ?_
      refine j_iload_n F dX6_becomes_89 rfl rfl ?_
      refine j_imulN (a := 4) (b := ii) F dX6_becomes_90 rfl ?_
      refine j_iaload (a := 4 * ii) F (by omega) rfl rfl (by omega) (by decide) dX6_becomes_91 rfl ?_
      refine j_int (y := nI (P.wl (ii + 4) 0)) ((congrFun (show (upR (up (up σ 55 1 (nI (P.W))) 55 2 (nI (P.H))) 56 g) 64 = σ 64 from (upR_n _ _ (by decide)).trans ((upR_n _ _ (by decide)).trans (upR_n _ _ (by decide)))) _).trans (hD.2.2.2.2.1 ii 0 (by omega) (by decide))) ?_
      refine j_aload_n F dX6_becomes_92 rfl rfl ?_
      refine gX6_35 hn F dX6_becomes_93 rfl ?_
      refine j_iconst (v := nI (4)) F dX6_becomes_96 rfl (by decide) ?_
      refine j_iload_n F dX6_becomes_97 rfl rfl ?_
      refine j_imulN (a := 4) (b := ii) F dX6_becomes_98 rfl ?_
      refine j_iconst (v := nI (1)) F dX6_becomes_99 rfl (by decide) ?_
      refine j_iaddN (a := 4 * ii) (b := 1) F dX6_becomes_100 rfl ?_
      refine j_iaload (a := (4 * ii) + 1) F (by omega) rfl rfl (by omega) (by decide) dX6_becomes_101 rfl ?_
      refine j_int (y := nI (P.wl (ii + 4) 1)) ((congrFun (show (upR (up (up σ 55 1 (nI (P.W))) 55 2 (nI (P.H))) 56 g) 64 = σ 64 from (upR_n _ _ (by decide)).trans ((upR_n _ _ (by decide)).trans (upR_n _ _ (by decide)))) _).trans (hD.2.2.2.2.1 ii 1 (by omega) (by decide))) ?_
      refine j_aload_n F dX6_becomes_102 rfl rfl ?_
      refine gX6_35 hn F dX6_becomes_103 rfl ?_
      refine j_iconst (v := nI (4)) F dX6_becomes_106 rfl (by decide) ?_
      refine j_iload_n F dX6_becomes_107 rfl rfl ?_
      refine j_imulN (a := 4) (b := ii) F dX6_becomes_108 rfl ?_
      refine j_iconst (v := nI (2)) F dX6_becomes_109 rfl (by decide) ?_
      refine j_iaddN (a := 4 * ii) (b := 2) F dX6_becomes_110 rfl ?_
      refine j_iaload (a := (4 * ii) + 2) F (by omega) rfl rfl (by omega) (by decide) dX6_becomes_111 rfl ?_
      refine j_int (y := nI (P.wl (ii + 4) 2)) ((congrFun (show (upR (up (up σ 55 1 (nI (P.W))) 55 2 (nI (P.H))) 56 g) 64 = σ 64 from (upR_n _ _ (by decide)).trans ((upR_n _ _ (by decide)).trans (upR_n _ _ (by decide)))) _).trans (hD.2.2.2.2.1 ii 2 (by omega) (by decide))) ?_
      refine j_aload_n F dX6_becomes_112 rfl rfl ?_
      refine gX6_35 hn F dX6_becomes_113 rfl ?_
      refine j_iconst (v := nI (4)) F dX6_becomes_116 rfl (by decide) ?_
      refine j_iload_n F dX6_becomes_117 rfl rfl ?_
      refine j_imulN (a := 4) (b := ii) F dX6_becomes_118 rfl ?_
      refine j_iconst (v := nI (3)) F dX6_becomes_119 rfl (by decide) ?_
      refine j_iaddN (a := 4 * ii) (b := 3) F dX6_becomes_120 rfl ?_
      refine j_iaload (a := (4 * ii) + 3) F (by omega) rfl rfl (by omega) (by decide) dX6_becomes_121 rfl ?_
      refine j_int (y := nI (P.wl (ii + 4) 3)) ((congrFun (show (upR (up (up σ 55 1 (nI (P.W))) 55 2 (nI (P.H))) 56 g) 64 = σ 64 from (upR_n _ _ (by decide)).trans ((upR_n _ _ (by decide)).trans (upR_n _ _ (by decide)))) _).trans (hD.2.2.2.2.1 ii 3 (by omega) (by decide))) ?_
      refine kX6_122 hn F (As := [.int (nI (ii + 4)), .int (nI (P.wl (ii + 4) 0)), .int (nI (P.wl (ii + 4) 1)), .int (nI (P.wl (ii + 4) 2)), .int (nI (P.wl (ii + 4) 3))]) (rest := []) (c_X6_setsWall hn (ii + 4) (P.wl (ii + 4) 0) (P.wl (ii + 4) 1) (P.wl (ii + 4) 2) (P.wl (ii + 4) 3) (by omega)) (by decide) rfl rfl (Nat.le_of_ble_eq_true rfl) dX6_becomes_122 rfl (fun v_122 σ_122 q_122 => ?_)
      obtain ⟨rfl, rfl⟩ := q_122
      refine j_store (σ' := upR (up (up σ 55 1 (nI (P.W))) 55 2 (nI (P.H))) 56 (w4 g (ii + 4) (P.wl (ii + 4) 0) (P.wl (ii + 4) 1) (P.wl (ii + 4) 2) (P.wl (ii + 4) 3))) (w4_up _ _ _ _ _ _ _) ?_
      refine j_iincN (a := ii) (c := 1) (lv' := [some (.ref (X.E.1 + 55)), some (.int (nI (ii + 1)))]) F dX6_becomes_125 rfl rfl (by decide) (hL _ (by decide)) rfl rfl ?_
      refine j_goto (pc' := 72) F dX6_becomes_128 (by decide) ?_
      exact ih_72 (by omega) ((w4 g (ii + 4) (P.wl (ii + 4) 0) (P.wl (ii + 4) 1) (P.wl (ii + 4) 2) (P.wl (ii + 4) 3))) (by have z := w4_ok hg rfl rfl rfl rfl; rw [show ii + 4 + 1 = ii + 1 + 4 by omega] at z; exact z)
  exact loop_72 0 (by omega) ((w4 (w4 (w4 (w4 (σ 56) 0 0 0 P.W 0) 1 P.W 0 P.H 1) 2 0 P.H P.W 0) 3 0 0 P.H 1)) (w4_ok (w4_ok (w4_ok (w4_ok (fun w p q => absurd q (Nat.not_lt_zero w)) a00 a01 a02 a03) a10 a11 a12 a13) a20 a21 a22 a23) a30 a31 a32 a33)

set_option maxRecDepth 10000 in
set_option maxHeartbeats 2000000 in
theorem c_X6_plan {l : Launch} {n : Nat} {E : Ev} {σ : St} {A : Ab} (hn : 69 ≤ n) (hA : AI A) (hR : MR σ A) : Ct l yX6_plan cX6_plan 3 (some .int) 6 n E [.ref (E.1 + 55)] σ (oM σ (o_plan A)) := by
  refine Ct.of (lv0 := [some (.ref (E.1 + 55)), none, none]) (by decide) (Nat.le_of_ble_eq_true rfl) rfl ?_
  intro X hXn hXE hXl hXL F hRt
  subst hXn hXE hXl
  have hL : ∀ i, i < 3 → i < X.nL := fun i h => by rw [hXL]; exact h
  have hTh := hR.1
  have hM := hR.2.1
  have hG := hA.1
  have hBd := hG.1
  have hWl := hG.2.1
  have hLm := hG.2.2.1
  have hB0 := hBd
  obtain ⟨b1, b2, b3, b4, b5, b6, b7⟩ := hB0
  have hT := hR.2.2.1
  have hm120 := hT.2.1
  refine j_aload_n F dX6_plan_0 rfl rfl ?_
  refine j_iconst (v := nI (0)) F dX6_plan_1 rfl (by decide) ?_
  refine pX6_56 hn F dX6_plan_2 rfl ?_
  refine j_store (σ' := σ) (up_id hTh) ?_
  refine j_aload_n F dX6_plan_5 rfl rfl ?_
  refine kX6_50 hn F (As := []) (rest := []) (c_X6_begins hn) (by decide) rfl rfl (Nat.le_of_ble_eq_true rfl) dX6_plan_6 rfl (fun v_6 σ_6 q_6 => ?_)
  obtain ⟨rfl, rfl⟩ := q_6
  refine j_aload_n F dX6_plan_9 rfl rfl ?_
  refine j_iconst (v := nI (0)) F dX6_plan_10 rfl (by decide) ?_
  refine pX6_77 hn F dX6_plan_11 rfl ?_
  have T0 : MTx (up (up (up (up (up σ 55 18 (nI 6)) 55 19 (nI 6)) 55 20 (nI 0)) 55 22 (nI 0)) 55 14 (nI 0)) A.t A.m := MTx_up (MTx_up (MTx_up (MTx_up (MTx_up hT (by decide)) (by decide)) (by decide)) (by decide)) (by decide)
  have F0 : FrT σ (up (up (up (up (up σ 55 18 (nI 6)) 55 19 (nI 6)) 55 20 (nI 0)) 55 22 (nI 0)) 55 14 (nI 0)) := FrT.put (FrT.put (FrT.put (FrT.put (FrT.put FrT.rf (by decide)) (by decide)) (by decide)) (by decide)) (by decide)
  have D0 : RdM (up (up (up (up (up σ 55 18 (nI 6)) 55 19 (nI 6)) 55 20 (nI 0)) 55 22 (nI 0)) 55 14 (nI 0)) (P0 6 6) := RdM_P0 (by simp [up, upR, upd]) (by simp [up, upR, upd]) (by simp [up, upR, upd]) (by simp [up, upR, upd])
  refine j_iconst (v := nI (0)) F dX6_plan_14 rfl (by decide) ?_
  refine j_istore_n (lv' := [some (.ref (X.E.1 + 55)), some (.int (nI (0))), none]) F dX6_plan_15 rfl (hL _ (by decide)) rfl rfl ?_
  refine j_aload_n F dX6_plan_16 rfl rfl ?_
  refine kX6_90 hn F (As := []) (rest := []) (c_X6_steps hn T0 0 up_i55 (Nat.zero_le _)) (by decide) rfl rfl (Nat.le_of_ble_eq_true rfl) dX6_plan_17 rfl (fun v_17 σ_17 q_17 => ?_)
  obtain ⟨rfl, f_17, k14_17, k15_17, k16_17⟩ := q_17
  have T_17 : MTx σ_17 A.t A.m := T0.fr ((f_17.2 12 (by decide)).trans T0.1) (f_17.1 63 (by decide))
  have loop_20 : ∀ (ii : Nat), ii ≤ 121 → ∀ (τ : St) (P : Pl) (p : Nat), (MTx τ A.t A.m) → (τ 55 14 = nI (tkE A.t A.m p)) → (τ 55 15 = nI (tkS A.t A.m p)) → (τ 55 16 = tmI (tkC A.t A.m p)) → (p ≤ A.m) → (ii ≤ p) → (RdM τ P) → (PGt P) → (ii = 0 → P.nw = 4 ∧ P.nl = 0) → (FrT σ τ) → (tlR A.t A.m (121 - ii) P p ii = tlR A.t A.m 121 (P0 6 6) 0 0) → J X 20 [some (.ref (X.E.1 + 55)), some (.int (nI (ii))), none] [] τ := by
    refine dnL (fun ii hii ih_20 => ?_)
    intro τ P p T k14 k15 k16 hpm hip hD hGt h40 hF hTl
    have hlt := tkC_lt (t := A.t) (m := A.m) (p := p) (fun i hi => (hT.2.2 i hi).2)
    have e_p := tkE_le (t := A.t) hpm
    refine j_aload_n F dX6_plan_20 rfl rfl ?_
    refine gX6_83 hn F dX6_plan_21 rfl ?_
    refine j_int (y := tmI (tkC A.t A.m p)) (k16) ?_
    refine j_iconst (v := (-1 : Int32)) F dX6_plan_24 rfl (by decide) ?_
    refine j_icmp_eq F (tgt := 73) dX6_plan_25 (by decide) rfl (fun c_25 => ?_) (fun c_25 => ?_)
    · have c_25z : tkC A.t A.m p = 3000 := (tmI_m1 (by omega)).mp c_25
      refine j_aload_n F dX6_plan_73 rfl rfl ?_
      refine kX6_53 hn F (As := []) (rest := []) (c_X6_becomes hn T ((hF.2 0 (by decide)).trans hTh) hD hGt) (by decide) rfl rfl (Nat.le_of_ble_eq_true rfl) dX6_plan_74 rfl (fun v_74 σ_74 q_74 => ?_)
      obtain ⟨rfl, hR_74, fm_74⟩ := q_74
      refine j_aload_n F dX6_plan_77 rfl rfl ?_
      refine j_iconst (v := nI (0)) F dX6_plan_78 rfl (by decide) ?_
      refine pX6_74 hn F dX6_plan_79 rfl ?_
      refine j_iload_n F dX6_plan_82 rfl rfl ?_
      exact j_iret F hRt rfl (oM_e (show o_plan A = (nI ii, (P, A.t, 0, [], fun _ => none, [])) by unfold o_plan; rw [tl_end (by omega) hTl c_25z]) (MR_T (t' := A.t) (m' := 0) hR_74 (fun i hi => up_o55 hi) (fun a ha _ => upR_n _ _ ha) ⟨up_i55, Nat.zero_le _, fun i h => absurd h (Nat.not_lt_zero i)⟩) (FrM.put ((FrT_M hF).tr fm_74) (by decide))) dX6_plan_83
    · have c_25z : ¬ tkC A.t A.m p = 3000 := fun q => c_25 ((tmI_m1 (by omega)).mpr q)
      refine j_aload_n F dX6_plan_28 rfl rfl ?_
      refine j_iload_n F dX6_plan_29 rfl rfl ?_
      refine kX6_132 hn F (As := [.int (nI (ii))]) (rest := []) (c_X6_item hn T (tkE A.t A.m p) k14 e_p.2 hD hGt (tkS A.t A.m p) k15 ii (tkC A.t A.m p) (by omega) h40 k16 (by omega)) (by decide) rfl rfl (Nat.le_of_ble_eq_true rfl) dX6_plan_30 rfl (fun v_30 σ_30 q_30 => ?_)
      rcases hI : itemM A.t A.m P ii (tkC A.t A.m p) (tkS A.t A.m p) (tkE A.t A.m p) with s1 | q1
      · rw [hI] at q_30
        obtain ⟨f_30, rfl, r15⟩ := q_30
        have hIt : itemR A.t A.m P ii (tkC A.t A.m p) (tkS A.t A.m p) (tkE A.t A.m p) = .inl s1 := by rw [itemR_M, hI]; rfl
        refine j_istore_n (lv' := [some (.ref (X.E.1 + 55)), some (.int (nI (ii))), some (.int (nI (0)))]) F dX6_plan_33 rfl (hL _ (by decide)) rfl rfl ?_
        refine j_iload_n F dX6_plan_34 rfl rfl ?_
        refine j_if_eqN (a := 0) F (by omega) (tgt := 42) dX6_plan_35 (by decide) rfl (fun c_35 => ?_) (fun c_35 => False.elim (by revert c_35; decide))
        refine j_iload_n F dX6_plan_42 rfl rfl ?_
        refine j_if_eqN (a := 0) F (by omega) (tgt := 55) dX6_plan_43 (by decide) rfl (fun c_43 => ?_) (fun c_43 => False.elim (by revert c_43; decide))
        refine j_bipush (v := (-10 : Int32)) F dX6_plan_55 rfl (by decide) ?_
        refine j_aload_n F dX6_plan_57 rfl rfl ?_
        refine gX6_80 hn F dX6_plan_58 rfl ?_
        refine j_int (y := nI (s1)) (r15) ?_
        refine j_isub F dX6_plan_61 rfl ?_
        exact j_iret F hRt rfl (oM_e (show o_plan A = _ by unfold o_plan; rw [tl_bad (by omega) hTl c_25z hIt]) (FrT_MR hR (hF.tr f_30)) (FrT_M (hF.tr f_30))) dX6_plan_62
      · rw [hI] at q_30
        obtain ⟨f_30, rfl, r2, r14⟩ := q_30
        have T_30 : MTx σ_30 A.t A.m := T.fr ((f_30.2 12 (by decide)).trans T.1) (f_30.1 63 (by decide) (by decide) (by decide))
        have z2 := itemM_b hGt e_p.2 hI
        have e_39 := tkE_le (t := A.t) z2.2.2
        have hlt2 := tkC_lt (t := A.t) (m := A.m) (p := q1.2) (fun i hi => (hT.2.2 i hi).2)
        refine j_istore_n (lv' := [some (.ref (X.E.1 + 55)), some (.int (nI (ii))), some (.int (nI (1)))]) F dX6_plan_33 rfl (hL _ (by decide)) rfl rfl ?_
        refine j_iload_n F dX6_plan_34 rfl rfl ?_
        refine j_if_eqN (a := 1) F (by omega) (tgt := 42) dX6_plan_35 (by decide) rfl (fun c_35 => False.elim (by revert c_35; decide)) (fun c_35 => ?_)
        refine j_aload_n F dX6_plan_38 rfl rfl ?_
        refine kX6_90 hn F (As := []) (rest := []) (c_X6_steps hn T_30 q1.2 r14 z2.2.2) (by decide) rfl rfl (Nat.le_of_ble_eq_true rfl) dX6_plan_39 rfl (fun v_39 σ_39 q_39 => ?_)
        obtain ⟨rfl, f_39, k14_39, k15_39, k16_39⟩ := q_39
        have T_39 : MTx σ_39 A.t A.m := T_30.fr ((f_39.2 12 (by decide)).trans T_30.1) (f_39.1 63 (by decide))
        refine j_iload_n F dX6_plan_42 rfl rfl ?_
        refine j_if_eqN (a := 1) F (by omega) (tgt := 55) dX6_plan_43 (by decide) rfl (fun c_43 => False.elim (by revert c_43; decide)) (fun c_43 => ?_)
        refine j_aload_n F dX6_plan_46 rfl rfl ?_
        refine gX6_83 hn F dX6_plan_47 rfl ?_
        refine j_int (y := tmI (tkC A.t A.m q1.2)) (k16_39) ?_
        refine j_bipush (v := nI (59)) F dX6_plan_50 rfl (by decide) ?_
        refine j_icmp_eq F (tgt := 63) dX6_plan_52 (by decide) rfl (fun c_52 => ?_) (fun c_52 => ?_)
        · have c_52z : tkC A.t A.m q1.2 = 59 := (tmI_lit (by omega) (by decide)).mp c_52
          have hIt : itemR A.t A.m P ii (tkC A.t A.m p) (tkS A.t A.m p) (tkE A.t A.m p) = .inr (q1.1, tkE A.t A.m q1.2) := by rw [itemR_M, hI]; exact if_pos c_52z
          have z3 := itemR_b hGt e_p.2 hIt
          refine j_iincN (a := ii) (c := 1) (lv' := [some (.ref (X.E.1 + 55)), some (.int (nI (ii + 1))), some (.int (nI (1)))]) F dX6_plan_63 rfl rfl (by decide) (hL _ (by decide)) rfl rfl ?_
          refine j_aload_n F dX6_plan_66 rfl rfl ?_
          refine kX6_90 hn F (As := []) (rest := []) (c_X6_steps hn T_39 (tkE A.t A.m q1.2) k14_39 e_39.2) (by decide) rfl rfl (Nat.le_of_ble_eq_true rfl) dX6_plan_67 rfl (fun v_67 σ_67 q_67 => ?_)
          obtain ⟨rfl, f_67, k14_67, k15_67, k16_67⟩ := q_67
          have T_67 : MTx σ_67 A.t A.m := T_39.fr ((f_67.2 12 (by decide)).trans T_39.1) (f_67.1 63 (by decide))
          refine j_goto (pc' := 20) F dX6_plan_70 (by decide) ?_
          refine j_lv (lv' := [some (.ref (X.E.1 + 55)), some (.int (nI (ii + 1))), none]) (sbl (ks := [0, 1]) rfl) ?_
          exact ih_20 (by omega) σ_67 q1.1 (tkE A.t A.m q1.2) T_67 k14_67 k15_67 k16_67 e_39.2 (by have := tkE_adv (t := A.t) hpm c_25z; omega) (r2.f5 f_39 (by decide) |>.f5 f_67 (by decide)) z3.1 (fun q => absurd q (Nat.succ_ne_zero _)) (((hF.tr f_30).f5 f_39 (by decide) (by decide)).f5 f_67 (by decide) (by decide)) (tl_go (by omega) hTl c_25z hIt)
        · have hIt : itemR A.t A.m P ii (tkC A.t A.m p) (tkS A.t A.m p) (tkE A.t A.m p) = .inl (tkS A.t A.m q1.2) := by rw [itemR_M, hI]; exact if_neg (fun q => c_52 ((tmI_lit (by omega) (by decide)).mpr q))
          refine j_bipush (v := (-10 : Int32)) F dX6_plan_55 rfl (by decide) ?_
          refine j_aload_n F dX6_plan_57 rfl rfl ?_
          refine gX6_80 hn F dX6_plan_58 rfl ?_
          refine j_int (y := nI (tkS A.t A.m q1.2)) (k15_39) ?_
          refine j_isub F dX6_plan_61 rfl ?_
          exact j_iret F hRt rfl (oM_e (show o_plan A = _ by unfold o_plan; rw [tl_bad (by omega) hTl c_25z hIt]) (FrT_MR hR ((hF.tr f_30).f5 f_39 (by decide) (by decide))) (FrT_M ((hF.tr f_30).f5 f_39 (by decide) (by decide)))) dX6_plan_62
  exact loop_20 0 (by omega) σ_17 (P0 6 6) 0 T_17 k14_17 k15_17 k16_17 (Nat.zero_le _) (Nat.le_refl _) (D0.f5 f_17 (by decide)) (PG_P0 (by decide) (by decide) (by decide) (by decide)) (fun _ => ⟨rfl, rfl⟩) (F0.f5 f_17 (by decide) (by decide)) rfl
