/-! ===== sectors ===== -/
def nxt (m k : Nat) : Nat := if k + 1 < m then k + 1 else 0
theorem nxt_lt {m k : Nat} (h : k < m) : nxt m k < m := by unfold nxt; split <;> omega
def sX (E0 : List Dr) (k : Nat) : Int := (E0.getD k (0, 0)).1 + (E0.getD (nxt E0.length k) (0, 0)).1
def sY (E0 : List Dr) (k : Nat) : Int := (E0.getD k (0, 0)).2 + (E0.getD (nxt E0.length k) (0, 0)).2
def trn (E0 : List Dr) (k : Nat) : Int := (E0.getD k (0, 0)).1 * (E0.getD (nxt E0.length k) (0, 0)).2 - (E0.getD k (0, 0)).2 * (E0.getD (nxt E0.length k) (0, 0)).1
def Pl.sts (P : Pl) (E0 : List Dr) (k w : Nat) : Int := if P.wl w 3 = 1 then (E0.getD k (0, 0)).1 * (E0.getD (nxt E0.length k) (0, 0)).1 else (E0.getD k (0, 0)).2 * (E0.getD (nxt E0.length k) (0, 0)).2
def Pl.aU (P : Pl) (lx ly : Nat) (E0 : List Dr) (k w : Nat) : Int := trn E0 k * P.lin lx ly w * P.lin lx ly w
def Pl.aL (P : Pl) (E0 : List Dr) (k w : Nat) : Int := ((8 * (P.sts E0 k w).natAbs : Nat) : Int)
def Pl.agc (P : Pl) (lx ly : Nat) (E0 : List Dr) (k w : Nat) : Nat := gc (P.aU lx ly E0 k w) (P.aL E0 k w)
def Pl.arU (P : Pl) (lx ly : Nat) (E0 : List Dr) (k w : Nat) : Int := if P.agc lx ly E0 k w = 0 then P.aU lx ly E0 k w else (P.aU lx ly E0 k w).tdiv (P.agc lx ly E0 k w : Int)
def Pl.arL (P : Pl) (lx ly : Nat) (E0 : List Dr) (k w : Nat) : Int := if P.agc lx ly E0 k w = 0 then P.aL E0 k w else (P.aL E0 k w).tdiv (P.agc lx ly E0 k w : Int)
def Pl.ws (P : Pl) (lx ly : Nat) (E0 : List Dr) (k : Nat) : Option (Nat × Int × Int) := P.fw lx ly (sX E0 k) (sY E0 k) P.nw
theorem bd_sX {E0 : List Dr} {k : Nat} (h : RB E0) (hk : k < E0.length) : bd (sX E0 k) 40 := bd_add (RB_get h hk).1 (RB_get h (nxt_lt hk)).1
theorem bd_sY {E0 : List Dr} {k : Nat} (h : RB E0) (hk : k < E0.length) : bd (sY E0 k) 40 := bd_add (RB_get h hk).2 (RB_get h (nxt_lt hk)).2
theorem bd_trn {E0 : List Dr} {k : Nat} (h : RB E0) (hk : k < E0.length) : bd (trn E0 k) 800 := bd_sub (bd_mul (RB_get h hk).1 (RB_get h (nxt_lt hk)).2) (bd_mul (RB_get h hk).2 (RB_get h (nxt_lt hk)).1)
theorem bd_sts {P : Pl} {E0 : List Dr} {k w : Nat} (h : RB E0) (hk : k < E0.length) : bd (P.sts E0 k w) 400 := by
  unfold Pl.sts
  split
  · exact bd_mul (RB_get h hk).1 (RB_get h (nxt_lt hk)).1
  · exact bd_mul (RB_get h hk).2 (RB_get h (nxt_lt hk)).2
theorem bd_lin2 {P : Pl} (hBd : PB P) (hWl : ∀ w, w < P.nw → WallOK P w) {lx ly w : Nat} (h1 : lx ≤ 9) (h2 : ly ≤ 9) (hw : w < P.nw) : bd (P.lin lx ly w) 20 := by
  obtain ⟨b1, b2, b3, b4, b5, b6, b7⟩ := hBd
  obtain ⟨w1, w2, w3, w4, w5, w6⟩ := hWl w hw
  unfold Pl.lin
  split
  · exact ⟨by omega, by omega⟩
  · exact ⟨by omega, by omega⟩
theorem bd_aL {P : Pl} {E0 : List Dr} {k w : Nat} (h : RB E0) (hk : k < E0.length) : bd (P.aL E0 k w) 3200 := bd_n (by have := bd_na.mp (bd_sts (P := P) (w := w) h hk); omega)
theorem gc_bd {a b : Int} {A B : Nat} (ha : bd a A) (hb : bd b B) : gc a b ≤ A + B := by
  have h1 := bd_na.mp ha
  have h2 := bd_na.mp hb
  by_cases h : a = 0
  · subst h
    show Nat.gcd 0 b.natAbs ≤ _
    rw [Nat.gcd_zero_left]
    omega
  · have := gc_le (b := b) h
    omega
set_option maxRecDepth 10000 in
set_option maxHeartbeats 2000000 in
theorem c_X3_wallOfSector {l : Launch} {n : Nat} {E : Ev} {σ : St} {P : Pl} (hn : 55 ≤ n) (hP : PlanOK σ 1 P) (hBd : PB P) (hWl : ∀ w, w < P.nw → WallOK P w) (hLm : ∀ l, l < P.nl → LampOK P l) (lx ly : Nat) (hLa : LamOK σ lx ly) (hx9 : lx ≤ 9) (hy9 : ly ≤ 9) {E0 : List Dr} (hR : RayOK σ E0) (hRB : RB E0) (hlen : E0.length ≤ 100) (kk : Nat) (hkk : kk < E0.length) : Ct l yX3_wallOfSector cX3_wallOfSector 13 (some .int) 2 n E [.ref (E.1 + 43), .ref (E.1 + 1), .int (nI (kk))] σ (ro (.int (fwR (P.ws lx ly E0 kk))) σ) := by
  refine Ct.of (lv0 := [some (.ref (E.1 + 43)), some (.ref (E.1 + 1)), some (.int (nI (kk))), none, none, none, none, none, none, none, none, none, none]) (by decide) (Nat.le_of_ble_eq_true rfl) rfl ?_
  intro X hXn hXE hXl hXL F hRt
  subst hXn hXE hXl
  have hL : ∀ i, i < 13 → i < X.nL := fun i h => by rw [hXL]; exact h
  have hB0 := hBd
  obtain ⟨b1, b2, b3, b4, b5, b6, b7⟩ := hB0
  have hnx := nxt_lt hkk
  have hsx := bd_sX hRB hkk
  have hsy := bd_sY hRB hkk
  refine j_aload_n F dX3_wallOfSector_0 rfl rfl ?_
  refine j_iload_n F dX3_wallOfSector_1 rfl rfl ?_
  refine kX3_61 hn F (As := [.int (nI (kk))]) (rest := []) (c_X3_eventBehind hn hR hlen kk hkk) (by decide) rfl rfl (Nat.le_of_ble_eq_true rfl) dX3_wallOfSector_2 rfl (ro_k ?_)
  refine j_istore_n (lv' := [some (.ref (X.E.1 + 43)), some (.ref (X.E.1 + 1)), some (.int (nI (kk))), some (.int (nI (nxt E0.length kk))), none, none, none, none, none, none, none, none, none]) F dX3_wallOfSector_5 rfl (hL _ (by decide)) rfl rfl ?_
  refine j_aload_n F dX3_wallOfSector_6 rfl rfl ?_
  refine gX3_9 hn F dX3_wallOfSector_7 rfl ?_
  refine j_iload_n F dX3_wallOfSector_10 rfl rfl ?_
  refine j_iaload (a := kk) F (by omega) rfl rfl (by omega) (by decide) dX3_wallOfSector_11 rfl ?_
  refine j_int (y := iI ((E0.getD kk (0, 0)).1)) ((hR.2 _ hkk).1) ?_
  refine j_aload_n F dX3_wallOfSector_12 rfl rfl ?_
  refine gX3_9 hn F dX3_wallOfSector_13 rfl ?_
  refine j_iload_n F dX3_wallOfSector_16 rfl rfl ?_
  refine j_iaload (a := nxt E0.length kk) F (by omega) rfl rfl (by omega) (by decide) dX3_wallOfSector_17 rfl ?_
  refine j_int (y := iI ((E0.getD (nxt E0.length kk) (0, 0)).1)) ((hR.2 _ hnx).1) ?_
  refine j_iaddZ F (a := (E0.getD kk (0, 0)).1) (b := (E0.getD (nxt E0.length kk) (0, 0)).1) rfl rfl dX3_wallOfSector_18 rfl ?_
  refine j_int (y := iI (sX E0 kk)) (rfl) ?_
  refine j_istore (lv' := [some (.ref (X.E.1 + 43)), some (.ref (X.E.1 + 1)), some (.int (nI (kk))), some (.int (nI (nxt E0.length kk))), some (.int (iI (sX E0 kk))), none, none, none, none, none, none, none, none]) F dX3_wallOfSector_19 rfl (hL _ (by decide)) rfl rfl ?_
  refine j_aload_n F dX3_wallOfSector_21 rfl rfl ?_
  refine gX3_15 hn F dX3_wallOfSector_22 rfl ?_
  refine j_iload_n F dX3_wallOfSector_25 rfl rfl ?_
  refine j_iaload (a := kk) F (by omega) rfl rfl (by omega) (by decide) dX3_wallOfSector_26 rfl ?_
  refine j_int (y := iI ((E0.getD kk (0, 0)).2)) ((hR.2 _ hkk).2) ?_
  refine j_aload_n F dX3_wallOfSector_27 rfl rfl ?_
  refine gX3_15 hn F dX3_wallOfSector_28 rfl ?_
  refine j_iload_n F dX3_wallOfSector_31 rfl rfl ?_
  refine j_iaload (a := nxt E0.length kk) F (by omega) rfl rfl (by omega) (by decide) dX3_wallOfSector_32 rfl ?_
  refine j_int (y := iI ((E0.getD (nxt E0.length kk) (0, 0)).2)) ((hR.2 _ hnx).2) ?_
  refine j_iaddZ F (a := (E0.getD kk (0, 0)).2) (b := (E0.getD (nxt E0.length kk) (0, 0)).2) rfl rfl dX3_wallOfSector_33 rfl ?_
  refine j_int (y := iI (sY E0 kk)) (rfl) ?_
  refine j_istore (lv' := [some (.ref (X.E.1 + 43)), some (.ref (X.E.1 + 1)), some (.int (nI (kk))), some (.int (nI (nxt E0.length kk))), some (.int (iI (sX E0 kk))), some (.int (iI (sY E0 kk))), none, none, none, none, none, none, none]) F dX3_wallOfSector_34 rfl (hL _ (by decide)) rfl rfl ?_
  refine j_bipush (v := (-9 : Int32)) F dX3_wallOfSector_36 rfl (by decide) ?_
  refine j_istore (lv' := [some (.ref (X.E.1 + 43)), some (.ref (X.E.1 + 1)), some (.int (nI (kk))), some (.int (nI (nxt E0.length kk))), some (.int (iI (sX E0 kk))), some (.int (iI (sY E0 kk))), some (.int ((-9 : Int32))), none, none, none, none, none, none]) F dX3_wallOfSector_38 rfl (hL _ (by decide)) rfl rfl ?_
  refine j_iconst (v := nI (0)) F dX3_wallOfSector_40 rfl (by decide) ?_
  refine j_istore (lv' := [some (.ref (X.E.1 + 43)), some (.ref (X.E.1 + 1)), some (.int (nI (kk))), some (.int (nI (nxt E0.length kk))), some (.int (iI (sX E0 kk))), some (.int (iI (sY E0 kk))), some (.int ((-9 : Int32))), some (.int (nI (0))), none, none, none, none, none]) F dX3_wallOfSector_41 rfl (hL _ (by decide)) rfl rfl ?_
  refine j_iconst (v := nI (0)) F dX3_wallOfSector_43 rfl (by decide) ?_
  refine j_istore (lv' := [some (.ref (X.E.1 + 43)), some (.ref (X.E.1 + 1)), some (.int (nI (kk))), some (.int (nI (nxt E0.length kk))), some (.int (iI (sX E0 kk))), some (.int (iI (sY E0 kk))), some (.int ((-9 : Int32))), some (.int (nI (0))), some (.int (nI (0))), none, none, none, none]) F dX3_wallOfSector_44 rfl (hL _ (by decide)) rfl rfl ?_
  refine j_iconst (v := nI (0)) F dX3_wallOfSector_46 rfl (by decide) ?_
  refine j_istore (lv' := [some (.ref (X.E.1 + 43)), some (.ref (X.E.1 + 1)), some (.int (nI (kk))), some (.int (nI (nxt E0.length kk))), some (.int (iI (sX E0 kk))), some (.int (iI (sY E0 kk))), some (.int ((-9 : Int32))), some (.int (nI (0))), some (.int (nI (0))), some (.int (nI (0))), none, none, none]) F dX3_wallOfSector_47 rfl (hL _ (by decide)) rfl rfl ?_
  have loop_49 : ∀ (ii : Nat), ii ≤ P.nw → ∀ (L6 : Int32) (L7 : Int32) (L8 : Int32), (fwI P lx ly (sX E0 kk) (sY E0 kk) ii L6 L7 L8) → J X 49 [some (.ref (X.E.1 + 43)), some (.ref (X.E.1 + 1)), some (.int (nI (kk))), some (.int (nI (nxt E0.length kk))), some (.int (iI (sX E0 kk))), some (.int (iI (sY E0 kk))), some (.int (L6)), some (.int (L7)), some (.int (L8)), some (.int (nI (ii))), none, none, none] [] σ := by
    refine dnL (fun ii hii ih_49 => ?_)
    intro L6 L7 L8 hI
    refine j_iload F dX3_wallOfSector_49 rfl rfl ?_
    refine j_aload_n F dX3_wallOfSector_51 rfl rfl ?_
    refine gX3_48 (isPl_1 hn) F dX3_wallOfSector_52 rfl ?_
    refine j_int (y := nI (P.nw)) (hP.nw) ?_
    refine j_icmp_geN (a := ii) (b := P.nw) F (by omega) (by omega) (tgt := 206) dX3_wallOfSector_55 (by decide) rfl (fun c_55 => ?_) (fun c_55 => ?_)
    · have hiN : ii = P.nw := by omega
      rw [hiN] at hI
      refine j_iload F dX3_wallOfSector_206 rfl rfl ?_
      exact j_iret F hRt rfl (roI (fwI_end hI).symm) dX3_wallOfSector_208
    · obtain ⟨w1, w2, w3, w4, w5, w6⟩ := hWl ii c_55
      refine j_aload_n F dX3_wallOfSector_58 rfl rfl ?_
      refine j_iload F dX3_wallOfSector_59 rfl rfl ?_
      refine j_iconst (v := nI (3)) F dX3_wallOfSector_61 rfl (by decide) ?_
      refine kX3_51 (isPl_1 hn) F (As := [.int (nI (ii)), .int (nI (3))]) (rest := []) (c_X2_wallPart hn (isPl_1 hn) hP hBd ii 3 (by omega) (by decide)) (by decide) rfl rfl (Nat.le_of_ble_eq_true rfl) dX3_wallOfSector_62 rfl (ro_k ?_)
      refine j_iconst (v := nI (1)) F dX3_wallOfSector_65 rfl (by decide) ?_
      refine j_icmp_neN (a := P.wl ii 3) (b := 1) F (by omega) (by omega) (tgt := 73) dX3_wallOfSector_66 (by decide) rfl (fun c_66 => ?_) (fun c_66 => ?_)
      · refine j_iconst (v := nI (0)) F dX3_wallOfSector_73 rfl (by decide) ?_
        refine j_istore (lv' := [some (.ref (X.E.1 + 43)), some (.ref (X.E.1 + 1)), some (.int (nI (kk))), some (.int (nI (nxt E0.length kk))), some (.int (iI (sX E0 kk))), some (.int (iI (sY E0 kk))), some (.int (L6)), some (.int (L7)), some (.int (L8)), some (.int (nI (ii))), some (.int (nI (0))), none, none]) F dX3_wallOfSector_74 rfl (hL _ (by decide)) rfl rfl ?_
        refine j_iload F dX3_wallOfSector_76 rfl rfl ?_
        refine j_if_eqN (a := 0) F (by omega) (tgt := 86) dX3_wallOfSector_78 (by decide) rfl (fun c_78 => ?_) (fun c_78 => False.elim (by revert c_78; decide))
        refine j_iload F dX3_wallOfSector_86 rfl rfl ?_
        refine j_mabs F (a := sY E0 kk) rfl hsy (by decide) (by decide) (Nat.le_of_ble_eq_true rfl) dX3_wallOfSector_88 rfl ?_
        refine j_istore (lv' := [some (.ref (X.E.1 + 43)), some (.ref (X.E.1 + 1)), some (.int (nI (kk))), some (.int (nI (nxt E0.length kk))), some (.int (iI (sX E0 kk))), some (.int (iI (sY E0 kk))), some (.int (L6)), some (.int (L7)), some (.int (L8)), some (.int (nI (ii))), some (.int (nI (0))), some (.int (nI (Int.natAbs (sY E0 kk)))), none]) F dX3_wallOfSector_91 rfl (hL _ (by decide)) rfl rfl ?_
        refine j_iload F dX3_wallOfSector_93 rfl rfl ?_
        refine j_if_eqN (a := 0) F (by omega) (tgt := 103) dX3_wallOfSector_95 (by decide) rfl (fun c_95 => ?_) (fun c_95 => False.elim (by revert c_95; decide))
        refine j_iload F dX3_wallOfSector_103 rfl rfl ?_
        refine j_if_geZ F (a := sY E0 kk) rfl hsy (by decide) (tgt := 119) dX3_wallOfSector_105 (by decide) rfl (fun c_105 => ?_) (fun c_105 => ?_)
        · refine j_aload_n F dX3_wallOfSector_119 rfl rfl ?_
          refine j_aload_n F dX3_wallOfSector_120 rfl rfl ?_
          refine j_iload F dX3_wallOfSector_121 rfl rfl ?_
          refine kX3_70 hn F (As := [.ref (X.E.1 + 1), .int (nI (ii))]) (rest := []) (c_X3_gapTo hn hP hBd hWl hLm lx ly hLa (by omega) (by omega) ii (by omega)) (by decide) rfl rfl (Nat.le_of_ble_eq_true rfl) dX3_wallOfSector_123 rfl (ro_k ?_)
          refine j_istore (lv' := [some (.ref (X.E.1 + 43)), some (.ref (X.E.1 + 1)), some (.int (nI (kk))), some (.int (nI (nxt E0.length kk))), some (.int (iI (sX E0 kk))), some (.int (iI (sY E0 kk))), some (.int (L6)), some (.int (L7)), some (.int (L8)), some (.int (nI (ii))), some (.int (nI (0))), some (.int (nI (Int.natAbs (sY E0 kk)))), some (.int (iI (P.lin lx ly ii)))]) F dX3_wallOfSector_126 rfl (hL _ (by decide)) rfl rfl ?_
          have hac : P.acr (sX E0 kk) (sY E0 kk) ii = sY E0 kk := by unfold Pl.acr; first | rw [if_pos c_66] | rw [if_neg c_66]
          have hal : P.alo (sX E0 kk) (sY E0 kk) ii = sX E0 kk := by unfold Pl.alo; first | rw [if_pos c_66] | rw [if_neg c_66]
          have hgp : P.gap lx ly (sX E0 kk) (sY E0 kk) ii = P.lin lx ly ii := by unfold Pl.gap; rw [hac]; first | rw [if_pos c_105] | rw [if_neg (by omega)]
          have hst : P.stp (sX E0 kk) (sY E0 kk) ii = ((Int.natAbs (sY E0 kk) : Nat) : Int) := by unfold Pl.stp; rw [hac]
          have hna := bd_na.mp hsy
          have b1g : bd (P.gap lx ly (sX E0 kk) (sY E0 kk) ii) 80 := by rw [hgp]; exact bd_mono (bd_lin2 hBd hWl (show lx ≤ 9 by omega) (show ly ≤ 9 by omega) (show ii < P.nw by omega)) (by decide)
          have b2s : bd (P.stp (sX E0 kk) (sY E0 kk) ii) 80 := by rw [hst]; exact bd_mono (bd_abs hsy) (by decide)
          refine j_iload F dX3_wallOfSector_128 rfl rfl ?_
          refine j_if_eqN (a := Int.natAbs (sY E0 kk)) F (by omega) (tgt := 200) dX3_wallOfSector_130 (by decide) rfl (fun c_130 => ?_) (fun c_130 => ?_)
          · have hnext : fwI P lx ly (sX E0 kk) (sY E0 kk) (ii + 1) L6 L7 L8 := fwI_no hI (by unfold Pl.hit; rw [hac, decide_eq_false (by omega)]; rfl)
            skip
            refine j_iincN (a := ii) (c := 1) (lv' := [some (.ref (X.E.1 + 43)), some (.ref (X.E.1 + 1)), some (.int (nI (kk))), some (.int (nI (nxt E0.length kk))), some (.int (iI (sX E0 kk))), some (.int (iI (sY E0 kk))), some (.int (L6)), some (.int (L7)), some (.int (L8)), some (.int (nI (ii + 1))), some (.int (nI (0))), some (.int (nI (Int.natAbs (sY E0 kk)))), some (.int (iI (P.lin lx ly ii)))]) F dX3_wallOfSector_200 rfl rfl (by decide) (hL _ (by decide)) rfl rfl ?_
            refine j_goto (pc' := 49) F dX3_wallOfSector_203 (by decide) ?_
            refine j_lv (lv' := [some (.ref (X.E.1 + 43)), some (.ref (X.E.1 + 1)), some (.int (nI (kk))), some (.int (nI (nxt E0.length kk))), some (.int (iI (sX E0 kk))), some (.int (iI (sY E0 kk))), some (.int (L6)), some (.int (L7)), some (.int (L8)), some (.int (nI (ii + 1))), none, none, none]) (sbl (ks := [0, 1, 2, 3, 4, 5, 6, 7, 8, 9]) rfl) ?_
            exact ih_49 (by omega) L6 L7 L8 hnext
          · refine j_iload F dX3_wallOfSector_133 rfl rfl ?_
            refine j_if_ltZ F (a := P.lin lx ly ii) rfl (bd_lin2 hBd hWl (show lx ≤ 9 by omega) (show ly ≤ 9 by omega) (show ii < P.nw by omega)) (by decide) (tgt := 200) dX3_wallOfSector_135 (by decide) rfl (fun c_135 => ?_) (fun c_135 => ?_)
            · have hnext : fwI P lx ly (sX E0 kk) (sY E0 kk) (ii + 1) L6 L7 L8 := fwI_no hI (by unfold Pl.hit; rw [hgp, decide_eq_false (p := 0 ≤ _) (by omega), Bool.and_false]; rfl)
              skip
              refine j_iincN (a := ii) (c := 1) (lv' := [some (.ref (X.E.1 + 43)), some (.ref (X.E.1 + 1)), some (.int (nI (kk))), some (.int (nI (nxt E0.length kk))), some (.int (iI (sX E0 kk))), some (.int (iI (sY E0 kk))), some (.int (L6)), some (.int (L7)), some (.int (L8)), some (.int (nI (ii + 1))), some (.int (nI (0))), some (.int (nI (Int.natAbs (sY E0 kk)))), some (.int (iI (P.lin lx ly ii)))]) F dX3_wallOfSector_200 rfl rfl (by decide) (hL _ (by decide)) rfl rfl ?_
              refine j_goto (pc' := 49) F dX3_wallOfSector_203 (by decide) ?_
              refine j_lv (lv' := [some (.ref (X.E.1 + 43)), some (.ref (X.E.1 + 1)), some (.int (nI (kk))), some (.int (nI (nxt E0.length kk))), some (.int (iI (sX E0 kk))), some (.int (iI (sY E0 kk))), some (.int (L6)), some (.int (L7)), some (.int (L8)), some (.int (nI (ii + 1))), none, none, none]) (sbl (ks := [0, 1, 2, 3, 4, 5, 6, 7, 8, 9]) rfl) ?_
              exact ih_49 (by omega) L6 L7 L8 hnext
            · refine j_aload_n F dX3_wallOfSector_138 rfl rfl ?_
              refine j_aload_n F dX3_wallOfSector_139 rfl rfl ?_
              refine j_iload F dX3_wallOfSector_140 rfl rfl ?_
              refine j_iload F dX3_wallOfSector_142 rfl rfl ?_
              refine j_if_eqN (a := 0) F (by omega) (tgt := 152) dX3_wallOfSector_144 (by decide) rfl (fun c_144 => ?_) (fun c_144 => False.elim (by revert c_144; decide))
              refine j_iload F dX3_wallOfSector_152 rfl rfl ?_
              refine j_iload F dX3_wallOfSector_154 rfl rfl ?_
              refine j_imulZ F (a := sX E0 kk) (b := P.lin lx ly ii) rfl rfl dX3_wallOfSector_156 rfl ?_
              refine j_iload F dX3_wallOfSector_157 rfl rfl ?_
              refine kX3_74 hn F (As := [.ref (X.E.1 + 1), .int (nI (ii)), .int (iI ((sX E0 kk) * (P.lin lx ly ii))), .int (nI (Int.natAbs (sY E0 kk)))]) (rest := []) (c_X3_isOnWall hn hP hBd hWl hLm lx ly hLa (by omega) (by omega) ii (by omega) ((sX E0 kk) * (P.lin lx ly ii)) (((Int.natAbs (sY E0 kk) : Nat) : Int)) (bd_mono (bd_mul hsx (bd_lin2 hBd hWl (show lx ≤ 9 by omega) (show ly ≤ 9 by omega) (show ii < P.nw by omega))) (by decide)) (bd_mono (bd_n (show Int.natAbs (sY E0 kk) ≤ 40 by omega)) (by decide))) (by decide) rfl rfl (Nat.le_of_ble_eq_true rfl) dX3_wallOfSector_159 rfl (ro_k ?_)
              refine j_if_neB F (x := P.onB lx ly ii ((sX E0 kk) * (P.lin lx ly ii)) (((Int.natAbs (sY E0 kk) : Nat) : Int))) (tgt := 168) dX3_wallOfSector_162 (by decide) rfl (fun c_162 => ?_) (fun c_162 => ?_)
              · have hhit : P.hit lx ly (sX E0 kk) (sY E0 kk) ii = true := by unfold Pl.hit; rw [hal, hgp, hst, c_162, hac, decide_eq_true (by omega), decide_eq_true (p := 0 ≤ _) (by omega)]; rfl
                refine j_iload F dX3_wallOfSector_168 rfl rfl ?_
                refine j_bipush (v := (-9 : Int32)) F dX3_wallOfSector_170 rfl (by decide) ?_
                refine j_icmp_eq F (tgt := 188) dX3_wallOfSector_172 (by decide) rfl (fun c_172 => ?_) (fun c_172 => ?_)
                · have hup : fwI P lx ly (sX E0 kk) (sY E0 kk) (ii + 1) (nI ii) (iI (P.gap lx ly (sX E0 kk) (sY E0 kk) ii)) (iI (P.stp (sX E0 kk) (sY E0 kk) ii)) := fwI_new hI c_172 (by omega) hhit b1g b2s
                  refine j_iload F dX3_wallOfSector_188 rfl rfl ?_
                  refine j_istore (lv' := [some (.ref (X.E.1 + 43)), some (.ref (X.E.1 + 1)), some (.int (nI (kk))), some (.int (nI (nxt E0.length kk))), some (.int (iI (sX E0 kk))), some (.int (iI (sY E0 kk))), some (.int (nI (ii))), some (.int (L7)), some (.int (L8)), some (.int (nI (ii))), some (.int (nI (0))), some (.int (nI (Int.natAbs (sY E0 kk)))), some (.int (iI (P.lin lx ly ii)))]) F dX3_wallOfSector_190 rfl (hL _ (by decide)) rfl rfl ?_
                  refine j_iload F dX3_wallOfSector_192 rfl rfl ?_
                  refine j_istore (lv' := [some (.ref (X.E.1 + 43)), some (.ref (X.E.1 + 1)), some (.int (nI (kk))), some (.int (nI (nxt E0.length kk))), some (.int (iI (sX E0 kk))), some (.int (iI (sY E0 kk))), some (.int (nI (ii))), some (.int (iI (P.lin lx ly ii))), some (.int (L8)), some (.int (nI (ii))), some (.int (nI (0))), some (.int (nI (Int.natAbs (sY E0 kk)))), some (.int (iI (P.lin lx ly ii)))]) F dX3_wallOfSector_194 rfl (hL _ (by decide)) rfl rfl ?_
                  refine j_iload F dX3_wallOfSector_196 rfl rfl ?_
                  refine j_istore (lv' := [some (.ref (X.E.1 + 43)), some (.ref (X.E.1 + 1)), some (.int (nI (kk))), some (.int (nI (nxt E0.length kk))), some (.int (iI (sX E0 kk))), some (.int (iI (sY E0 kk))), some (.int (nI (ii))), some (.int (iI (P.lin lx ly ii))), some (.int (nI (Int.natAbs (sY E0 kk)))), some (.int (nI (ii))), some (.int (nI (0))), some (.int (nI (Int.natAbs (sY E0 kk)))), some (.int (iI (P.lin lx ly ii)))]) F dX3_wallOfSector_198 rfl (hL _ (by decide)) rfl rfl ?_
                  have hnext : fwI P lx ly (sX E0 kk) (sY E0 kk) (ii + 1) (nI (ii)) (iI (P.lin lx ly ii)) (nI (Int.natAbs (sY E0 kk))) := by rw [hgp, hst, ← nI_iI] at hup; exact hup
                  refine j_iincN (a := ii) (c := 1) (lv' := [some (.ref (X.E.1 + 43)), some (.ref (X.E.1 + 1)), some (.int (nI (kk))), some (.int (nI (nxt E0.length kk))), some (.int (iI (sX E0 kk))), some (.int (iI (sY E0 kk))), some (.int (nI (ii))), some (.int (iI (P.lin lx ly ii))), some (.int (nI (Int.natAbs (sY E0 kk)))), some (.int (nI (ii + 1))), some (.int (nI (0))), some (.int (nI (Int.natAbs (sY E0 kk)))), some (.int (iI (P.lin lx ly ii)))]) F dX3_wallOfSector_200 rfl rfl (by decide) (hL _ (by decide)) rfl rfl ?_
                  refine j_goto (pc' := 49) F dX3_wallOfSector_203 (by decide) ?_
                  refine j_lv (lv' := [some (.ref (X.E.1 + 43)), some (.ref (X.E.1 + 1)), some (.int (nI (kk))), some (.int (nI (nxt E0.length kk))), some (.int (iI (sX E0 kk))), some (.int (iI (sY E0 kk))), some (.int (nI (ii))), some (.int (iI (P.lin lx ly ii))), some (.int (nI (Int.natAbs (sY E0 kk)))), some (.int (nI (ii + 1))), none, none, none]) (sbl (ks := [0, 1, 2, 3, 4, 5, 6, 7, 8, 9]) rfl) ?_
                  exact ih_49 (by omega) (nI (ii)) (iI (P.lin lx ly ii)) (nI (Int.natAbs (sY E0 kk))) hnext
                · obtain ⟨f0, g0, s0, q1, q2, q3, q4, q5, q6, q7⟩ := fwI_some hI c_172
                  refine j_lvq (lv' := [some (.ref (X.E.1 + 43)), some (.ref (X.E.1 + 1)), some (.int (nI (kk))), some (.int (nI (nxt E0.length kk))), some (.int (iI (sX E0 kk))), some (.int (iI (sY E0 kk))), some (.int (L6)), some (.int (iI (g0))), some (.int (iI (s0))), some (.int (nI (ii))), some (.int (nI (0))), some (.int (nI (Int.natAbs (sY E0 kk)))), some (.int (iI (P.lin lx ly ii)))]) (by rw [q3, q4]) ?_
                  refine j_iload F dX3_wallOfSector_175 rfl rfl ?_
                  refine j_iload F dX3_wallOfSector_177 rfl rfl ?_
                  refine j_imulZ F (a := P.lin lx ly ii) (b := s0) rfl rfl dX3_wallOfSector_179 rfl ?_
                  refine j_iload F dX3_wallOfSector_180 rfl rfl ?_
                  refine j_iload F dX3_wallOfSector_182 rfl rfl ?_
                  refine j_imulZ F (a := g0) (b := ((Int.natAbs (sY E0 kk) : Nat) : Int)) rfl (nI_iI _) dX3_wallOfSector_184 rfl ?_
                  refine j_icmp_geZ F (a := (P.lin lx ly ii) * s0) (b := g0 * ((Int.natAbs (sY E0 kk) : Nat) : Int)) rfl rfl (bd_mul (bd_lin2 hBd hWl (show lx ≤ 9 by omega) (show ly ≤ 9 by omega) (show ii < P.nw by omega)) q7) (bd_mul q6 (bd_n (show Int.natAbs (sY E0 kk) ≤ 40 by omega))) (by decide) (by decide) (tgt := 200) dX3_wallOfSector_185 (by decide) rfl (fun c_185 => ?_) (fun c_185 => ?_)
                  · have hnext : fwI P lx ly (sX E0 kk) (sY E0 kk) (ii + 1) L6 (iI (g0)) (iI (s0)) := fwI_keep (by rw [q3, q4] at hI; exact hI) q1 (by rw [hgp, hst]; exact c_185)
                    skip
                    refine j_iincN (a := ii) (c := 1) (lv' := [some (.ref (X.E.1 + 43)), some (.ref (X.E.1 + 1)), some (.int (nI (kk))), some (.int (nI (nxt E0.length kk))), some (.int (iI (sX E0 kk))), some (.int (iI (sY E0 kk))), some (.int (L6)), some (.int (iI (g0))), some (.int (iI (s0))), some (.int (nI (ii + 1))), some (.int (nI (0))), some (.int (nI (Int.natAbs (sY E0 kk)))), some (.int (iI (P.lin lx ly ii)))]) F dX3_wallOfSector_200 rfl rfl (by decide) (hL _ (by decide)) rfl rfl ?_
                    refine j_goto (pc' := 49) F dX3_wallOfSector_203 (by decide) ?_
                    refine j_lv (lv' := [some (.ref (X.E.1 + 43)), some (.ref (X.E.1 + 1)), some (.int (nI (kk))), some (.int (nI (nxt E0.length kk))), some (.int (iI (sX E0 kk))), some (.int (iI (sY E0 kk))), some (.int (L6)), some (.int (iI (g0))), some (.int (iI (s0))), some (.int (nI (ii + 1))), none, none, none]) (sbl (ks := [0, 1, 2, 3, 4, 5, 6, 7, 8, 9]) rfl) ?_
                    exact ih_49 (by omega) L6 (iI (g0)) (iI (s0)) hnext
                  · have hup : fwI P lx ly (sX E0 kk) (sY E0 kk) (ii + 1) (nI ii) (iI (P.gap lx ly (sX E0 kk) (sY E0 kk) ii)) (iI (P.stp (sX E0 kk) (sY E0 kk) ii)) := fwI_less q1 hhit (by rw [hgp, hst]; exact c_185) b1g b2s
                    refine j_iload F dX3_wallOfSector_188 rfl rfl ?_
                    refine j_istore (lv' := [some (.ref (X.E.1 + 43)), some (.ref (X.E.1 + 1)), some (.int (nI (kk))), some (.int (nI (nxt E0.length kk))), some (.int (iI (sX E0 kk))), some (.int (iI (sY E0 kk))), some (.int (nI (ii))), some (.int (iI (g0))), some (.int (iI (s0))), some (.int (nI (ii))), some (.int (nI (0))), some (.int (nI (Int.natAbs (sY E0 kk)))), some (.int (iI (P.lin lx ly ii)))]) F dX3_wallOfSector_190 rfl (hL _ (by decide)) rfl rfl ?_
                    refine j_iload F dX3_wallOfSector_192 rfl rfl ?_
                    refine j_istore (lv' := [some (.ref (X.E.1 + 43)), some (.ref (X.E.1 + 1)), some (.int (nI (kk))), some (.int (nI (nxt E0.length kk))), some (.int (iI (sX E0 kk))), some (.int (iI (sY E0 kk))), some (.int (nI (ii))), some (.int (iI (P.lin lx ly ii))), some (.int (iI (s0))), some (.int (nI (ii))), some (.int (nI (0))), some (.int (nI (Int.natAbs (sY E0 kk)))), some (.int (iI (P.lin lx ly ii)))]) F dX3_wallOfSector_194 rfl (hL _ (by decide)) rfl rfl ?_
                    refine j_iload F dX3_wallOfSector_196 rfl rfl ?_
                    refine j_istore (lv' := [some (.ref (X.E.1 + 43)), some (.ref (X.E.1 + 1)), some (.int (nI (kk))), some (.int (nI (nxt E0.length kk))), some (.int (iI (sX E0 kk))), some (.int (iI (sY E0 kk))), some (.int (nI (ii))), some (.int (iI (P.lin lx ly ii))), some (.int (nI (Int.natAbs (sY E0 kk)))), some (.int (nI (ii))), some (.int (nI (0))), some (.int (nI (Int.natAbs (sY E0 kk)))), some (.int (iI (P.lin lx ly ii)))]) F dX3_wallOfSector_198 rfl (hL _ (by decide)) rfl rfl ?_
                    have hnext : fwI P lx ly (sX E0 kk) (sY E0 kk) (ii + 1) (nI (ii)) (iI (P.lin lx ly ii)) (nI (Int.natAbs (sY E0 kk))) := by rw [hgp, hst, ← nI_iI] at hup; exact hup
                    refine j_iincN (a := ii) (c := 1) (lv' := [some (.ref (X.E.1 + 43)), some (.ref (X.E.1 + 1)), some (.int (nI (kk))), some (.int (nI (nxt E0.length kk))), some (.int (iI (sX E0 kk))), some (.int (iI (sY E0 kk))), some (.int (nI (ii))), some (.int (iI (P.lin lx ly ii))), some (.int (nI (Int.natAbs (sY E0 kk)))), some (.int (nI (ii + 1))), some (.int (nI (0))), some (.int (nI (Int.natAbs (sY E0 kk)))), some (.int (iI (P.lin lx ly ii)))]) F dX3_wallOfSector_200 rfl rfl (by decide) (hL _ (by decide)) rfl rfl ?_
                    refine j_goto (pc' := 49) F dX3_wallOfSector_203 (by decide) ?_
                    refine j_lv (lv' := [some (.ref (X.E.1 + 43)), some (.ref (X.E.1 + 1)), some (.int (nI (kk))), some (.int (nI (nxt E0.length kk))), some (.int (iI (sX E0 kk))), some (.int (iI (sY E0 kk))), some (.int (nI (ii))), some (.int (iI (P.lin lx ly ii))), some (.int (nI (Int.natAbs (sY E0 kk)))), some (.int (nI (ii + 1))), none, none, none]) (sbl (ks := [0, 1, 2, 3, 4, 5, 6, 7, 8, 9]) rfl) ?_
                    exact ih_49 (by omega) (nI (ii)) (iI (P.lin lx ly ii)) (nI (Int.natAbs (sY E0 kk))) hnext
              · have hnext : fwI P lx ly (sX E0 kk) (sY E0 kk) (ii + 1) L6 L7 L8 := fwI_no hI (by unfold Pl.hit; rw [hal, hgp, hst, c_162, Bool.and_false])
                refine j_goto (pc' := 200) F dX3_wallOfSector_165 (by decide) ?_
                skip
                refine j_iincN (a := ii) (c := 1) (lv' := [some (.ref (X.E.1 + 43)), some (.ref (X.E.1 + 1)), some (.int (nI (kk))), some (.int (nI (nxt E0.length kk))), some (.int (iI (sX E0 kk))), some (.int (iI (sY E0 kk))), some (.int (L6)), some (.int (L7)), some (.int (L8)), some (.int (nI (ii + 1))), some (.int (nI (0))), some (.int (nI (Int.natAbs (sY E0 kk)))), some (.int (iI (P.lin lx ly ii)))]) F dX3_wallOfSector_200 rfl rfl (by decide) (hL _ (by decide)) rfl rfl ?_
                refine j_goto (pc' := 49) F dX3_wallOfSector_203 (by decide) ?_
                refine j_lv (lv' := [some (.ref (X.E.1 + 43)), some (.ref (X.E.1 + 1)), some (.int (nI (kk))), some (.int (nI (nxt E0.length kk))), some (.int (iI (sX E0 kk))), some (.int (iI (sY E0 kk))), some (.int (L6)), some (.int (L7)), some (.int (L8)), some (.int (nI (ii + 1))), none, none, none]) (sbl (ks := [0, 1, 2, 3, 4, 5, 6, 7, 8, 9]) rfl) ?_
                exact ih_49 (by omega) L6 L7 L8 hnext
        · refine j_aload_n F dX3_wallOfSector_108 rfl rfl ?_
          refine j_aload_n F dX3_wallOfSector_109 rfl rfl ?_
          refine j_iload F dX3_wallOfSector_110 rfl rfl ?_
          refine kX3_70 hn F (As := [.ref (X.E.1 + 1), .int (nI (ii))]) (rest := []) (c_X3_gapTo hn hP hBd hWl hLm lx ly hLa (by omega) (by omega) ii (by omega)) (by decide) rfl rfl (Nat.le_of_ble_eq_true rfl) dX3_wallOfSector_112 rfl (ro_k ?_)
          refine j_inegZ F (a := P.lin lx ly ii) rfl dX3_wallOfSector_115 rfl ?_
          refine j_goto (pc' := 126) F dX3_wallOfSector_116 (by decide) ?_
          refine j_istore (lv' := [some (.ref (X.E.1 + 43)), some (.ref (X.E.1 + 1)), some (.int (nI (kk))), some (.int (nI (nxt E0.length kk))), some (.int (iI (sX E0 kk))), some (.int (iI (sY E0 kk))), some (.int (L6)), some (.int (L7)), some (.int (L8)), some (.int (nI (ii))), some (.int (nI (0))), some (.int (nI (Int.natAbs (sY E0 kk)))), some (.int (iI (-(P.lin lx ly ii))))]) F dX3_wallOfSector_126 rfl (hL _ (by decide)) rfl rfl ?_
          have hac : P.acr (sX E0 kk) (sY E0 kk) ii = sY E0 kk := by unfold Pl.acr; first | rw [if_pos c_66] | rw [if_neg c_66]
          have hal : P.alo (sX E0 kk) (sY E0 kk) ii = sX E0 kk := by unfold Pl.alo; first | rw [if_pos c_66] | rw [if_neg c_66]
          have hgp : P.gap lx ly (sX E0 kk) (sY E0 kk) ii = -(P.lin lx ly ii) := by unfold Pl.gap; rw [hac]; first | rw [if_pos c_105] | rw [if_neg (by omega)]
          have hst : P.stp (sX E0 kk) (sY E0 kk) ii = ((Int.natAbs (sY E0 kk) : Nat) : Int) := by unfold Pl.stp; rw [hac]
          have hna := bd_na.mp hsy
          have b1g : bd (P.gap lx ly (sX E0 kk) (sY E0 kk) ii) 80 := by rw [hgp]; exact bd_mono (bd_neg (bd_lin2 hBd hWl (show lx ≤ 9 by omega) (show ly ≤ 9 by omega) (show ii < P.nw by omega))) (by decide)
          have b2s : bd (P.stp (sX E0 kk) (sY E0 kk) ii) 80 := by rw [hst]; exact bd_mono (bd_abs hsy) (by decide)
          refine j_iload F dX3_wallOfSector_128 rfl rfl ?_
          refine j_if_eqN (a := Int.natAbs (sY E0 kk)) F (by omega) (tgt := 200) dX3_wallOfSector_130 (by decide) rfl (fun c_130 => ?_) (fun c_130 => ?_)
          · have hnext : fwI P lx ly (sX E0 kk) (sY E0 kk) (ii + 1) L6 L7 L8 := fwI_no hI (by unfold Pl.hit; rw [hac, decide_eq_false (by omega)]; rfl)
            skip
            refine j_iincN (a := ii) (c := 1) (lv' := [some (.ref (X.E.1 + 43)), some (.ref (X.E.1 + 1)), some (.int (nI (kk))), some (.int (nI (nxt E0.length kk))), some (.int (iI (sX E0 kk))), some (.int (iI (sY E0 kk))), some (.int (L6)), some (.int (L7)), some (.int (L8)), some (.int (nI (ii + 1))), some (.int (nI (0))), some (.int (nI (Int.natAbs (sY E0 kk)))), some (.int (iI (-(P.lin lx ly ii))))]) F dX3_wallOfSector_200 rfl rfl (by decide) (hL _ (by decide)) rfl rfl ?_
            refine j_goto (pc' := 49) F dX3_wallOfSector_203 (by decide) ?_
            refine j_lv (lv' := [some (.ref (X.E.1 + 43)), some (.ref (X.E.1 + 1)), some (.int (nI (kk))), some (.int (nI (nxt E0.length kk))), some (.int (iI (sX E0 kk))), some (.int (iI (sY E0 kk))), some (.int (L6)), some (.int (L7)), some (.int (L8)), some (.int (nI (ii + 1))), none, none, none]) (sbl (ks := [0, 1, 2, 3, 4, 5, 6, 7, 8, 9]) rfl) ?_
            exact ih_49 (by omega) L6 L7 L8 hnext
          · refine j_iload F dX3_wallOfSector_133 rfl rfl ?_
            refine j_if_ltZ F (a := -(P.lin lx ly ii)) rfl (bd_neg (bd_lin2 hBd hWl (show lx ≤ 9 by omega) (show ly ≤ 9 by omega) (show ii < P.nw by omega))) (by decide) (tgt := 200) dX3_wallOfSector_135 (by decide) rfl (fun c_135 => ?_) (fun c_135 => ?_)
            · have hnext : fwI P lx ly (sX E0 kk) (sY E0 kk) (ii + 1) L6 L7 L8 := fwI_no hI (by unfold Pl.hit; rw [hgp, decide_eq_false (p := 0 ≤ _) (by omega), Bool.and_false]; rfl)
              skip
              refine j_iincN (a := ii) (c := 1) (lv' := [some (.ref (X.E.1 + 43)), some (.ref (X.E.1 + 1)), some (.int (nI (kk))), some (.int (nI (nxt E0.length kk))), some (.int (iI (sX E0 kk))), some (.int (iI (sY E0 kk))), some (.int (L6)), some (.int (L7)), some (.int (L8)), some (.int (nI (ii + 1))), some (.int (nI (0))), some (.int (nI (Int.natAbs (sY E0 kk)))), some (.int (iI (-(P.lin lx ly ii))))]) F dX3_wallOfSector_200 rfl rfl (by decide) (hL _ (by decide)) rfl rfl ?_
              refine j_goto (pc' := 49) F dX3_wallOfSector_203 (by decide) ?_
              refine j_lv (lv' := [some (.ref (X.E.1 + 43)), some (.ref (X.E.1 + 1)), some (.int (nI (kk))), some (.int (nI (nxt E0.length kk))), some (.int (iI (sX E0 kk))), some (.int (iI (sY E0 kk))), some (.int (L6)), some (.int (L7)), some (.int (L8)), some (.int (nI (ii + 1))), none, none, none]) (sbl (ks := [0, 1, 2, 3, 4, 5, 6, 7, 8, 9]) rfl) ?_
              exact ih_49 (by omega) L6 L7 L8 hnext
            · refine j_aload_n F dX3_wallOfSector_138 rfl rfl ?_
              refine j_aload_n F dX3_wallOfSector_139 rfl rfl ?_
              refine j_iload F dX3_wallOfSector_140 rfl rfl ?_
              refine j_iload F dX3_wallOfSector_142 rfl rfl ?_
              refine j_if_eqN (a := 0) F (by omega) (tgt := 152) dX3_wallOfSector_144 (by decide) rfl (fun c_144 => ?_) (fun c_144 => False.elim (by revert c_144; decide))
              refine j_iload F dX3_wallOfSector_152 rfl rfl ?_
              refine j_iload F dX3_wallOfSector_154 rfl rfl ?_
              refine j_imulZ F (a := sX E0 kk) (b := -(P.lin lx ly ii)) rfl rfl dX3_wallOfSector_156 rfl ?_
              refine j_iload F dX3_wallOfSector_157 rfl rfl ?_
              refine kX3_74 hn F (As := [.ref (X.E.1 + 1), .int (nI (ii)), .int (iI ((sX E0 kk) * (-(P.lin lx ly ii)))), .int (nI (Int.natAbs (sY E0 kk)))]) (rest := []) (c_X3_isOnWall hn hP hBd hWl hLm lx ly hLa (by omega) (by omega) ii (by omega) ((sX E0 kk) * (-(P.lin lx ly ii))) (((Int.natAbs (sY E0 kk) : Nat) : Int)) (bd_mono (bd_mul hsx (bd_neg (bd_lin2 hBd hWl (show lx ≤ 9 by omega) (show ly ≤ 9 by omega) (show ii < P.nw by omega)))) (by decide)) (bd_mono (bd_n (show Int.natAbs (sY E0 kk) ≤ 40 by omega)) (by decide))) (by decide) rfl rfl (Nat.le_of_ble_eq_true rfl) dX3_wallOfSector_159 rfl (ro_k ?_)
              refine j_if_neB F (x := P.onB lx ly ii ((sX E0 kk) * (-(P.lin lx ly ii))) (((Int.natAbs (sY E0 kk) : Nat) : Int))) (tgt := 168) dX3_wallOfSector_162 (by decide) rfl (fun c_162 => ?_) (fun c_162 => ?_)
              · have hhit : P.hit lx ly (sX E0 kk) (sY E0 kk) ii = true := by unfold Pl.hit; rw [hal, hgp, hst, c_162, hac, decide_eq_true (by omega), decide_eq_true (p := 0 ≤ _) (by omega)]; rfl
                refine j_iload F dX3_wallOfSector_168 rfl rfl ?_
                refine j_bipush (v := (-9 : Int32)) F dX3_wallOfSector_170 rfl (by decide) ?_
                refine j_icmp_eq F (tgt := 188) dX3_wallOfSector_172 (by decide) rfl (fun c_172 => ?_) (fun c_172 => ?_)
                · have hup : fwI P lx ly (sX E0 kk) (sY E0 kk) (ii + 1) (nI ii) (iI (P.gap lx ly (sX E0 kk) (sY E0 kk) ii)) (iI (P.stp (sX E0 kk) (sY E0 kk) ii)) := fwI_new hI c_172 (by omega) hhit b1g b2s
                  refine j_iload F dX3_wallOfSector_188 rfl rfl ?_
                  refine j_istore (lv' := [some (.ref (X.E.1 + 43)), some (.ref (X.E.1 + 1)), some (.int (nI (kk))), some (.int (nI (nxt E0.length kk))), some (.int (iI (sX E0 kk))), some (.int (iI (sY E0 kk))), some (.int (nI (ii))), some (.int (L7)), some (.int (L8)), some (.int (nI (ii))), some (.int (nI (0))), some (.int (nI (Int.natAbs (sY E0 kk)))), some (.int (iI (-(P.lin lx ly ii))))]) F dX3_wallOfSector_190 rfl (hL _ (by decide)) rfl rfl ?_
                  refine j_iload F dX3_wallOfSector_192 rfl rfl ?_
                  refine j_istore (lv' := [some (.ref (X.E.1 + 43)), some (.ref (X.E.1 + 1)), some (.int (nI (kk))), some (.int (nI (nxt E0.length kk))), some (.int (iI (sX E0 kk))), some (.int (iI (sY E0 kk))), some (.int (nI (ii))), some (.int (iI (-(P.lin lx ly ii)))), some (.int (L8)), some (.int (nI (ii))), some (.int (nI (0))), some (.int (nI (Int.natAbs (sY E0 kk)))), some (.int (iI (-(P.lin lx ly ii))))]) F dX3_wallOfSector_194 rfl (hL _ (by decide)) rfl rfl ?_
                  refine j_iload F dX3_wallOfSector_196 rfl rfl ?_
                  refine j_istore (lv' := [some (.ref (X.E.1 + 43)), some (.ref (X.E.1 + 1)), some (.int (nI (kk))), some (.int (nI (nxt E0.length kk))), some (.int (iI (sX E0 kk))), some (.int (iI (sY E0 kk))), some (.int (nI (ii))), some (.int (iI (-(P.lin lx ly ii)))), some (.int (nI (Int.natAbs (sY E0 kk)))), some (.int (nI (ii))), some (.int (nI (0))), some (.int (nI (Int.natAbs (sY E0 kk)))), some (.int (iI (-(P.lin lx ly ii))))]) F dX3_wallOfSector_198 rfl (hL _ (by decide)) rfl rfl ?_
                  have hnext : fwI P lx ly (sX E0 kk) (sY E0 kk) (ii + 1) (nI (ii)) (iI (-(P.lin lx ly ii))) (nI (Int.natAbs (sY E0 kk))) := by rw [hgp, hst, ← nI_iI] at hup; exact hup
                  refine j_iincN (a := ii) (c := 1) (lv' := [some (.ref (X.E.1 + 43)), some (.ref (X.E.1 + 1)), some (.int (nI (kk))), some (.int (nI (nxt E0.length kk))), some (.int (iI (sX E0 kk))), some (.int (iI (sY E0 kk))), some (.int (nI (ii))), some (.int (iI (-(P.lin lx ly ii)))), some (.int (nI (Int.natAbs (sY E0 kk)))), some (.int (nI (ii + 1))), some (.int (nI (0))), some (.int (nI (Int.natAbs (sY E0 kk)))), some (.int (iI (-(P.lin lx ly ii))))]) F dX3_wallOfSector_200 rfl rfl (by decide) (hL _ (by decide)) rfl rfl ?_
                  refine j_goto (pc' := 49) F dX3_wallOfSector_203 (by decide) ?_
                  refine j_lv (lv' := [some (.ref (X.E.1 + 43)), some (.ref (X.E.1 + 1)), some (.int (nI (kk))), some (.int (nI (nxt E0.length kk))), some (.int (iI (sX E0 kk))), some (.int (iI (sY E0 kk))), some (.int (nI (ii))), some (.int (iI (-(P.lin lx ly ii)))), some (.int (nI (Int.natAbs (sY E0 kk)))), some (.int (nI (ii + 1))), none, none, none]) (sbl (ks := [0, 1, 2, 3, 4, 5, 6, 7, 8, 9]) rfl) ?_
                  exact ih_49 (by omega) (nI (ii)) (iI (-(P.lin lx ly ii))) (nI (Int.natAbs (sY E0 kk))) hnext
                · obtain ⟨f0, g0, s0, q1, q2, q3, q4, q5, q6, q7⟩ := fwI_some hI c_172
                  refine j_lvq (lv' := [some (.ref (X.E.1 + 43)), some (.ref (X.E.1 + 1)), some (.int (nI (kk))), some (.int (nI (nxt E0.length kk))), some (.int (iI (sX E0 kk))), some (.int (iI (sY E0 kk))), some (.int (L6)), some (.int (iI (g0))), some (.int (iI (s0))), some (.int (nI (ii))), some (.int (nI (0))), some (.int (nI (Int.natAbs (sY E0 kk)))), some (.int (iI (-(P.lin lx ly ii))))]) (by rw [q3, q4]) ?_
                  refine j_iload F dX3_wallOfSector_175 rfl rfl ?_
                  refine j_iload F dX3_wallOfSector_177 rfl rfl ?_
                  refine j_imulZ F (a := -(P.lin lx ly ii)) (b := s0) rfl rfl dX3_wallOfSector_179 rfl ?_
                  refine j_iload F dX3_wallOfSector_180 rfl rfl ?_
                  refine j_iload F dX3_wallOfSector_182 rfl rfl ?_
                  refine j_imulZ F (a := g0) (b := ((Int.natAbs (sY E0 kk) : Nat) : Int)) rfl (nI_iI _) dX3_wallOfSector_184 rfl ?_
                  refine j_icmp_geZ F (a := (-(P.lin lx ly ii)) * s0) (b := g0 * ((Int.natAbs (sY E0 kk) : Nat) : Int)) rfl rfl (bd_mul (bd_neg (bd_lin2 hBd hWl (show lx ≤ 9 by omega) (show ly ≤ 9 by omega) (show ii < P.nw by omega))) q7) (bd_mul q6 (bd_n (show Int.natAbs (sY E0 kk) ≤ 40 by omega))) (by decide) (by decide) (tgt := 200) dX3_wallOfSector_185 (by decide) rfl (fun c_185 => ?_) (fun c_185 => ?_)
                  · have hnext : fwI P lx ly (sX E0 kk) (sY E0 kk) (ii + 1) L6 (iI (g0)) (iI (s0)) := fwI_keep (by rw [q3, q4] at hI; exact hI) q1 (by rw [hgp, hst]; exact c_185)
                    skip
                    refine j_iincN (a := ii) (c := 1) (lv' := [some (.ref (X.E.1 + 43)), some (.ref (X.E.1 + 1)), some (.int (nI (kk))), some (.int (nI (nxt E0.length kk))), some (.int (iI (sX E0 kk))), some (.int (iI (sY E0 kk))), some (.int (L6)), some (.int (iI (g0))), some (.int (iI (s0))), some (.int (nI (ii + 1))), some (.int (nI (0))), some (.int (nI (Int.natAbs (sY E0 kk)))), some (.int (iI (-(P.lin lx ly ii))))]) F dX3_wallOfSector_200 rfl rfl (by decide) (hL _ (by decide)) rfl rfl ?_
                    refine j_goto (pc' := 49) F dX3_wallOfSector_203 (by decide) ?_
                    refine j_lv (lv' := [some (.ref (X.E.1 + 43)), some (.ref (X.E.1 + 1)), some (.int (nI (kk))), some (.int (nI (nxt E0.length kk))), some (.int (iI (sX E0 kk))), some (.int (iI (sY E0 kk))), some (.int (L6)), some (.int (iI (g0))), some (.int (iI (s0))), some (.int (nI (ii + 1))), none, none, none]) (sbl (ks := [0, 1, 2, 3, 4, 5, 6, 7, 8, 9]) rfl) ?_
                    exact ih_49 (by omega) L6 (iI (g0)) (iI (s0)) hnext
                  · have hup : fwI P lx ly (sX E0 kk) (sY E0 kk) (ii + 1) (nI ii) (iI (P.gap lx ly (sX E0 kk) (sY E0 kk) ii)) (iI (P.stp (sX E0 kk) (sY E0 kk) ii)) := fwI_less q1 hhit (by rw [hgp, hst]; exact c_185) b1g b2s
                    refine j_iload F dX3_wallOfSector_188 rfl rfl ?_
                    refine j_istore (lv' := [some (.ref (X.E.1 + 43)), some (.ref (X.E.1 + 1)), some (.int (nI (kk))), some (.int (nI (nxt E0.length kk))), some (.int (iI (sX E0 kk))), some (.int (iI (sY E0 kk))), some (.int (nI (ii))), some (.int (iI (g0))), some (.int (iI (s0))), some (.int (nI (ii))), some (.int (nI (0))), some (.int (nI (Int.natAbs (sY E0 kk)))), some (.int (iI (-(P.lin lx ly ii))))]) F dX3_wallOfSector_190 rfl (hL _ (by decide)) rfl rfl ?_
                    refine j_iload F dX3_wallOfSector_192 rfl rfl ?_
                    refine j_istore (lv' := [some (.ref (X.E.1 + 43)), some (.ref (X.E.1 + 1)), some (.int (nI (kk))), some (.int (nI (nxt E0.length kk))), some (.int (iI (sX E0 kk))), some (.int (iI (sY E0 kk))), some (.int (nI (ii))), some (.int (iI (-(P.lin lx ly ii)))), some (.int (iI (s0))), some (.int (nI (ii))), some (.int (nI (0))), some (.int (nI (Int.natAbs (sY E0 kk)))), some (.int (iI (-(P.lin lx ly ii))))]) F dX3_wallOfSector_194 rfl (hL _ (by decide)) rfl rfl ?_
                    refine j_iload F dX3_wallOfSector_196 rfl rfl ?_
                    refine j_istore (lv' := [some (.ref (X.E.1 + 43)), some (.ref (X.E.1 + 1)), some (.int (nI (kk))), some (.int (nI (nxt E0.length kk))), some (.int (iI (sX E0 kk))), some (.int (iI (sY E0 kk))), some (.int (nI (ii))), some (.int (iI (-(P.lin lx ly ii)))), some (.int (nI (Int.natAbs (sY E0 kk)))), some (.int (nI (ii))), some (.int (nI (0))), some (.int (nI (Int.natAbs (sY E0 kk)))), some (.int (iI (-(P.lin lx ly ii))))]) F dX3_wallOfSector_198 rfl (hL _ (by decide)) rfl rfl ?_
                    have hnext : fwI P lx ly (sX E0 kk) (sY E0 kk) (ii + 1) (nI (ii)) (iI (-(P.lin lx ly ii))) (nI (Int.natAbs (sY E0 kk))) := by rw [hgp, hst, ← nI_iI] at hup; exact hup
                    refine j_iincN (a := ii) (c := 1) (lv' := [some (.ref (X.E.1 + 43)), some (.ref (X.E.1 + 1)), some (.int (nI (kk))), some (.int (nI (nxt E0.length kk))), some (.int (iI (sX E0 kk))), some (.int (iI (sY E0 kk))), some (.int (nI (ii))), some (.int (iI (-(P.lin lx ly ii)))), some (.int (nI (Int.natAbs (sY E0 kk)))), some (.int (nI (ii + 1))), some (.int (nI (0))), some (.int (nI (Int.natAbs (sY E0 kk)))), some (.int (iI (-(P.lin lx ly ii))))]) F dX3_wallOfSector_200 rfl rfl (by decide) (hL _ (by decide)) rfl rfl ?_
                    refine j_goto (pc' := 49) F dX3_wallOfSector_203 (by decide) ?_
                    refine j_lv (lv' := [some (.ref (X.E.1 + 43)), some (.ref (X.E.1 + 1)), some (.int (nI (kk))), some (.int (nI (nxt E0.length kk))), some (.int (iI (sX E0 kk))), some (.int (iI (sY E0 kk))), some (.int (nI (ii))), some (.int (iI (-(P.lin lx ly ii)))), some (.int (nI (Int.natAbs (sY E0 kk)))), some (.int (nI (ii + 1))), none, none, none]) (sbl (ks := [0, 1, 2, 3, 4, 5, 6, 7, 8, 9]) rfl) ?_
                    exact ih_49 (by omega) (nI (ii)) (iI (-(P.lin lx ly ii))) (nI (Int.natAbs (sY E0 kk))) hnext
              · have hnext : fwI P lx ly (sX E0 kk) (sY E0 kk) (ii + 1) L6 L7 L8 := fwI_no hI (by unfold Pl.hit; rw [hal, hgp, hst, c_162, Bool.and_false])
                refine j_goto (pc' := 200) F dX3_wallOfSector_165 (by decide) ?_
                skip
                refine j_iincN (a := ii) (c := 1) (lv' := [some (.ref (X.E.1 + 43)), some (.ref (X.E.1 + 1)), some (.int (nI (kk))), some (.int (nI (nxt E0.length kk))), some (.int (iI (sX E0 kk))), some (.int (iI (sY E0 kk))), some (.int (L6)), some (.int (L7)), some (.int (L8)), some (.int (nI (ii + 1))), some (.int (nI (0))), some (.int (nI (Int.natAbs (sY E0 kk)))), some (.int (iI (-(P.lin lx ly ii))))]) F dX3_wallOfSector_200 rfl rfl (by decide) (hL _ (by decide)) rfl rfl ?_
                refine j_goto (pc' := 49) F dX3_wallOfSector_203 (by decide) ?_
                refine j_lv (lv' := [some (.ref (X.E.1 + 43)), some (.ref (X.E.1 + 1)), some (.int (nI (kk))), some (.int (nI (nxt E0.length kk))), some (.int (iI (sX E0 kk))), some (.int (iI (sY E0 kk))), some (.int (L6)), some (.int (L7)), some (.int (L8)), some (.int (nI (ii + 1))), none, none, none]) (sbl (ks := [0, 1, 2, 3, 4, 5, 6, 7, 8, 9]) rfl) ?_
                exact ih_49 (by omega) L6 L7 L8 hnext
      · refine j_iconst (v := nI (1)) F dX3_wallOfSector_69 rfl (by decide) ?_
        refine j_goto (pc' := 74) F dX3_wallOfSector_70 (by decide) ?_
        refine j_istore (lv' := [some (.ref (X.E.1 + 43)), some (.ref (X.E.1 + 1)), some (.int (nI (kk))), some (.int (nI (nxt E0.length kk))), some (.int (iI (sX E0 kk))), some (.int (iI (sY E0 kk))), some (.int (L6)), some (.int (L7)), some (.int (L8)), some (.int (nI (ii))), some (.int (nI (1))), none, none]) F dX3_wallOfSector_74 rfl (hL _ (by decide)) rfl rfl ?_
        refine j_iload F dX3_wallOfSector_76 rfl rfl ?_
        refine j_if_eqN (a := 1) F (by omega) (tgt := 86) dX3_wallOfSector_78 (by decide) rfl (fun c_78 => False.elim (by revert c_78; decide)) (fun c_78 => ?_)
        refine j_iload F dX3_wallOfSector_81 rfl rfl ?_
        refine j_goto (pc' := 88) F dX3_wallOfSector_83 (by decide) ?_
        refine j_mabs F (a := sX E0 kk) rfl hsx (by decide) (by decide) (Nat.le_of_ble_eq_true rfl) dX3_wallOfSector_88 rfl ?_
        refine j_istore (lv' := [some (.ref (X.E.1 + 43)), some (.ref (X.E.1 + 1)), some (.int (nI (kk))), some (.int (nI (nxt E0.length kk))), some (.int (iI (sX E0 kk))), some (.int (iI (sY E0 kk))), some (.int (L6)), some (.int (L7)), some (.int (L8)), some (.int (nI (ii))), some (.int (nI (1))), some (.int (nI (Int.natAbs (sX E0 kk)))), none]) F dX3_wallOfSector_91 rfl (hL _ (by decide)) rfl rfl ?_
        refine j_iload F dX3_wallOfSector_93 rfl rfl ?_
        refine j_if_eqN (a := 1) F (by omega) (tgt := 103) dX3_wallOfSector_95 (by decide) rfl (fun c_95 => False.elim (by revert c_95; decide)) (fun c_95 => ?_)
        refine j_iload F dX3_wallOfSector_98 rfl rfl ?_
        refine j_goto (pc' := 105) F dX3_wallOfSector_100 (by decide) ?_
        refine j_if_geZ F (a := sX E0 kk) rfl hsx (by decide) (tgt := 119) dX3_wallOfSector_105 (by decide) rfl (fun c_105 => ?_) (fun c_105 => ?_)
        · refine j_aload_n F dX3_wallOfSector_119 rfl rfl ?_
          refine j_aload_n F dX3_wallOfSector_120 rfl rfl ?_
          refine j_iload F dX3_wallOfSector_121 rfl rfl ?_
          refine kX3_70 hn F (As := [.ref (X.E.1 + 1), .int (nI (ii))]) (rest := []) (c_X3_gapTo hn hP hBd hWl hLm lx ly hLa (by omega) (by omega) ii (by omega)) (by decide) rfl rfl (Nat.le_of_ble_eq_true rfl) dX3_wallOfSector_123 rfl (ro_k ?_)
          refine j_istore (lv' := [some (.ref (X.E.1 + 43)), some (.ref (X.E.1 + 1)), some (.int (nI (kk))), some (.int (nI (nxt E0.length kk))), some (.int (iI (sX E0 kk))), some (.int (iI (sY E0 kk))), some (.int (L6)), some (.int (L7)), some (.int (L8)), some (.int (nI (ii))), some (.int (nI (1))), some (.int (nI (Int.natAbs (sX E0 kk)))), some (.int (iI (P.lin lx ly ii)))]) F dX3_wallOfSector_126 rfl (hL _ (by decide)) rfl rfl ?_
          have hac : P.acr (sX E0 kk) (sY E0 kk) ii = sX E0 kk := by unfold Pl.acr; first | rw [if_pos c_66] | rw [if_neg c_66]
          have hal : P.alo (sX E0 kk) (sY E0 kk) ii = sY E0 kk := by unfold Pl.alo; first | rw [if_pos c_66] | rw [if_neg c_66]
          have hgp : P.gap lx ly (sX E0 kk) (sY E0 kk) ii = P.lin lx ly ii := by unfold Pl.gap; rw [hac]; first | rw [if_pos c_105] | rw [if_neg (by omega)]
          have hst : P.stp (sX E0 kk) (sY E0 kk) ii = ((Int.natAbs (sX E0 kk) : Nat) : Int) := by unfold Pl.stp; rw [hac]
          have hna := bd_na.mp hsx
          have b1g : bd (P.gap lx ly (sX E0 kk) (sY E0 kk) ii) 80 := by rw [hgp]; exact bd_mono (bd_lin2 hBd hWl (show lx ≤ 9 by omega) (show ly ≤ 9 by omega) (show ii < P.nw by omega)) (by decide)
          have b2s : bd (P.stp (sX E0 kk) (sY E0 kk) ii) 80 := by rw [hst]; exact bd_mono (bd_abs hsx) (by decide)
          refine j_iload F dX3_wallOfSector_128 rfl rfl ?_
          refine j_if_eqN (a := Int.natAbs (sX E0 kk)) F (by omega) (tgt := 200) dX3_wallOfSector_130 (by decide) rfl (fun c_130 => ?_) (fun c_130 => ?_)
          · have hnext : fwI P lx ly (sX E0 kk) (sY E0 kk) (ii + 1) L6 L7 L8 := fwI_no hI (by unfold Pl.hit; rw [hac, decide_eq_false (by omega)]; rfl)
            skip
            refine j_iincN (a := ii) (c := 1) (lv' := [some (.ref (X.E.1 + 43)), some (.ref (X.E.1 + 1)), some (.int (nI (kk))), some (.int (nI (nxt E0.length kk))), some (.int (iI (sX E0 kk))), some (.int (iI (sY E0 kk))), some (.int (L6)), some (.int (L7)), some (.int (L8)), some (.int (nI (ii + 1))), some (.int (nI (1))), some (.int (nI (Int.natAbs (sX E0 kk)))), some (.int (iI (P.lin lx ly ii)))]) F dX3_wallOfSector_200 rfl rfl (by decide) (hL _ (by decide)) rfl rfl ?_
            refine j_goto (pc' := 49) F dX3_wallOfSector_203 (by decide) ?_
            refine j_lv (lv' := [some (.ref (X.E.1 + 43)), some (.ref (X.E.1 + 1)), some (.int (nI (kk))), some (.int (nI (nxt E0.length kk))), some (.int (iI (sX E0 kk))), some (.int (iI (sY E0 kk))), some (.int (L6)), some (.int (L7)), some (.int (L8)), some (.int (nI (ii + 1))), none, none, none]) (sbl (ks := [0, 1, 2, 3, 4, 5, 6, 7, 8, 9]) rfl) ?_
            exact ih_49 (by omega) L6 L7 L8 hnext
          · refine j_iload F dX3_wallOfSector_133 rfl rfl ?_
            refine j_if_ltZ F (a := P.lin lx ly ii) rfl (bd_lin2 hBd hWl (show lx ≤ 9 by omega) (show ly ≤ 9 by omega) (show ii < P.nw by omega)) (by decide) (tgt := 200) dX3_wallOfSector_135 (by decide) rfl (fun c_135 => ?_) (fun c_135 => ?_)
            · have hnext : fwI P lx ly (sX E0 kk) (sY E0 kk) (ii + 1) L6 L7 L8 := fwI_no hI (by unfold Pl.hit; rw [hgp, decide_eq_false (p := 0 ≤ _) (by omega), Bool.and_false]; rfl)
              skip
              refine j_iincN (a := ii) (c := 1) (lv' := [some (.ref (X.E.1 + 43)), some (.ref (X.E.1 + 1)), some (.int (nI (kk))), some (.int (nI (nxt E0.length kk))), some (.int (iI (sX E0 kk))), some (.int (iI (sY E0 kk))), some (.int (L6)), some (.int (L7)), some (.int (L8)), some (.int (nI (ii + 1))), some (.int (nI (1))), some (.int (nI (Int.natAbs (sX E0 kk)))), some (.int (iI (P.lin lx ly ii)))]) F dX3_wallOfSector_200 rfl rfl (by decide) (hL _ (by decide)) rfl rfl ?_
              refine j_goto (pc' := 49) F dX3_wallOfSector_203 (by decide) ?_
              refine j_lv (lv' := [some (.ref (X.E.1 + 43)), some (.ref (X.E.1 + 1)), some (.int (nI (kk))), some (.int (nI (nxt E0.length kk))), some (.int (iI (sX E0 kk))), some (.int (iI (sY E0 kk))), some (.int (L6)), some (.int (L7)), some (.int (L8)), some (.int (nI (ii + 1))), none, none, none]) (sbl (ks := [0, 1, 2, 3, 4, 5, 6, 7, 8, 9]) rfl) ?_
              exact ih_49 (by omega) L6 L7 L8 hnext
            · refine j_aload_n F dX3_wallOfSector_138 rfl rfl ?_
              refine j_aload_n F dX3_wallOfSector_139 rfl rfl ?_
              refine j_iload F dX3_wallOfSector_140 rfl rfl ?_
              refine j_iload F dX3_wallOfSector_142 rfl rfl ?_
              refine j_if_eqN (a := 1) F (by omega) (tgt := 152) dX3_wallOfSector_144 (by decide) rfl (fun c_144 => False.elim (by revert c_144; decide)) (fun c_144 => ?_)
              refine j_iload F dX3_wallOfSector_147 rfl rfl ?_
              refine j_goto (pc' := 154) F dX3_wallOfSector_149 (by decide) ?_
              refine j_iload F dX3_wallOfSector_154 rfl rfl ?_
              refine j_imulZ F (a := sY E0 kk) (b := P.lin lx ly ii) rfl rfl dX3_wallOfSector_156 rfl ?_
              refine j_iload F dX3_wallOfSector_157 rfl rfl ?_
              refine kX3_74 hn F (As := [.ref (X.E.1 + 1), .int (nI (ii)), .int (iI ((sY E0 kk) * (P.lin lx ly ii))), .int (nI (Int.natAbs (sX E0 kk)))]) (rest := []) (c_X3_isOnWall hn hP hBd hWl hLm lx ly hLa (by omega) (by omega) ii (by omega) ((sY E0 kk) * (P.lin lx ly ii)) (((Int.natAbs (sX E0 kk) : Nat) : Int)) (bd_mono (bd_mul hsy (bd_lin2 hBd hWl (show lx ≤ 9 by omega) (show ly ≤ 9 by omega) (show ii < P.nw by omega))) (by decide)) (bd_mono (bd_n (show Int.natAbs (sX E0 kk) ≤ 40 by omega)) (by decide))) (by decide) rfl rfl (Nat.le_of_ble_eq_true rfl) dX3_wallOfSector_159 rfl (ro_k ?_)
              refine j_if_neB F (x := P.onB lx ly ii ((sY E0 kk) * (P.lin lx ly ii)) (((Int.natAbs (sX E0 kk) : Nat) : Int))) (tgt := 168) dX3_wallOfSector_162 (by decide) rfl (fun c_162 => ?_) (fun c_162 => ?_)
              · have hhit : P.hit lx ly (sX E0 kk) (sY E0 kk) ii = true := by unfold Pl.hit; rw [hal, hgp, hst, c_162, hac, decide_eq_true (by omega), decide_eq_true (p := 0 ≤ _) (by omega)]; rfl
                refine j_iload F dX3_wallOfSector_168 rfl rfl ?_
                refine j_bipush (v := (-9 : Int32)) F dX3_wallOfSector_170 rfl (by decide) ?_
                refine j_icmp_eq F (tgt := 188) dX3_wallOfSector_172 (by decide) rfl (fun c_172 => ?_) (fun c_172 => ?_)
                · have hup : fwI P lx ly (sX E0 kk) (sY E0 kk) (ii + 1) (nI ii) (iI (P.gap lx ly (sX E0 kk) (sY E0 kk) ii)) (iI (P.stp (sX E0 kk) (sY E0 kk) ii)) := fwI_new hI c_172 (by omega) hhit b1g b2s
                  refine j_iload F dX3_wallOfSector_188 rfl rfl ?_
                  refine j_istore (lv' := [some (.ref (X.E.1 + 43)), some (.ref (X.E.1 + 1)), some (.int (nI (kk))), some (.int (nI (nxt E0.length kk))), some (.int (iI (sX E0 kk))), some (.int (iI (sY E0 kk))), some (.int (nI (ii))), some (.int (L7)), some (.int (L8)), some (.int (nI (ii))), some (.int (nI (1))), some (.int (nI (Int.natAbs (sX E0 kk)))), some (.int (iI (P.lin lx ly ii)))]) F dX3_wallOfSector_190 rfl (hL _ (by decide)) rfl rfl ?_
                  refine j_iload F dX3_wallOfSector_192 rfl rfl ?_
                  refine j_istore (lv' := [some (.ref (X.E.1 + 43)), some (.ref (X.E.1 + 1)), some (.int (nI (kk))), some (.int (nI (nxt E0.length kk))), some (.int (iI (sX E0 kk))), some (.int (iI (sY E0 kk))), some (.int (nI (ii))), some (.int (iI (P.lin lx ly ii))), some (.int (L8)), some (.int (nI (ii))), some (.int (nI (1))), some (.int (nI (Int.natAbs (sX E0 kk)))), some (.int (iI (P.lin lx ly ii)))]) F dX3_wallOfSector_194 rfl (hL _ (by decide)) rfl rfl ?_
                  refine j_iload F dX3_wallOfSector_196 rfl rfl ?_
                  refine j_istore (lv' := [some (.ref (X.E.1 + 43)), some (.ref (X.E.1 + 1)), some (.int (nI (kk))), some (.int (nI (nxt E0.length kk))), some (.int (iI (sX E0 kk))), some (.int (iI (sY E0 kk))), some (.int (nI (ii))), some (.int (iI (P.lin lx ly ii))), some (.int (nI (Int.natAbs (sX E0 kk)))), some (.int (nI (ii))), some (.int (nI (1))), some (.int (nI (Int.natAbs (sX E0 kk)))), some (.int (iI (P.lin lx ly ii)))]) F dX3_wallOfSector_198 rfl (hL _ (by decide)) rfl rfl ?_
                  have hnext : fwI P lx ly (sX E0 kk) (sY E0 kk) (ii + 1) (nI (ii)) (iI (P.lin lx ly ii)) (nI (Int.natAbs (sX E0 kk))) := by rw [hgp, hst, ← nI_iI] at hup; exact hup
                  refine j_iincN (a := ii) (c := 1) (lv' := [some (.ref (X.E.1 + 43)), some (.ref (X.E.1 + 1)), some (.int (nI (kk))), some (.int (nI (nxt E0.length kk))), some (.int (iI (sX E0 kk))), some (.int (iI (sY E0 kk))), some (.int (nI (ii))), some (.int (iI (P.lin lx ly ii))), some (.int (nI (Int.natAbs (sX E0 kk)))), some (.int (nI (ii + 1))), some (.int (nI (1))), some (.int (nI (Int.natAbs (sX E0 kk)))), some (.int (iI (P.lin lx ly ii)))]) F dX3_wallOfSector_200 rfl rfl (by decide) (hL _ (by decide)) rfl rfl ?_
                  refine j_goto (pc' := 49) F dX3_wallOfSector_203 (by decide) ?_
                  refine j_lv (lv' := [some (.ref (X.E.1 + 43)), some (.ref (X.E.1 + 1)), some (.int (nI (kk))), some (.int (nI (nxt E0.length kk))), some (.int (iI (sX E0 kk))), some (.int (iI (sY E0 kk))), some (.int (nI (ii))), some (.int (iI (P.lin lx ly ii))), some (.int (nI (Int.natAbs (sX E0 kk)))), some (.int (nI (ii + 1))), none, none, none]) (sbl (ks := [0, 1, 2, 3, 4, 5, 6, 7, 8, 9]) rfl) ?_
                  exact ih_49 (by omega) (nI (ii)) (iI (P.lin lx ly ii)) (nI (Int.natAbs (sX E0 kk))) hnext
                · obtain ⟨f0, g0, s0, q1, q2, q3, q4, q5, q6, q7⟩ := fwI_some hI c_172
                  refine j_lvq (lv' := [some (.ref (X.E.1 + 43)), some (.ref (X.E.1 + 1)), some (.int (nI (kk))), some (.int (nI (nxt E0.length kk))), some (.int (iI (sX E0 kk))), some (.int (iI (sY E0 kk))), some (.int (L6)), some (.int (iI (g0))), some (.int (iI (s0))), some (.int (nI (ii))), some (.int (nI (1))), some (.int (nI (Int.natAbs (sX E0 kk)))), some (.int (iI (P.lin lx ly ii)))]) (by rw [q3, q4]) ?_
                  refine j_iload F dX3_wallOfSector_175 rfl rfl ?_
                  refine j_iload F dX3_wallOfSector_177 rfl rfl ?_
                  refine j_imulZ F (a := P.lin lx ly ii) (b := s0) rfl rfl dX3_wallOfSector_179 rfl ?_
                  refine j_iload F dX3_wallOfSector_180 rfl rfl ?_
                  refine j_iload F dX3_wallOfSector_182 rfl rfl ?_
                  refine j_imulZ F (a := g0) (b := ((Int.natAbs (sX E0 kk) : Nat) : Int)) rfl (nI_iI _) dX3_wallOfSector_184 rfl ?_
                  refine j_icmp_geZ F (a := (P.lin lx ly ii) * s0) (b := g0 * ((Int.natAbs (sX E0 kk) : Nat) : Int)) rfl rfl (bd_mul (bd_lin2 hBd hWl (show lx ≤ 9 by omega) (show ly ≤ 9 by omega) (show ii < P.nw by omega)) q7) (bd_mul q6 (bd_n (show Int.natAbs (sX E0 kk) ≤ 40 by omega))) (by decide) (by decide) (tgt := 200) dX3_wallOfSector_185 (by decide) rfl (fun c_185 => ?_) (fun c_185 => ?_)
                  · have hnext : fwI P lx ly (sX E0 kk) (sY E0 kk) (ii + 1) L6 (iI (g0)) (iI (s0)) := fwI_keep (by rw [q3, q4] at hI; exact hI) q1 (by rw [hgp, hst]; exact c_185)
                    skip
                    refine j_iincN (a := ii) (c := 1) (lv' := [some (.ref (X.E.1 + 43)), some (.ref (X.E.1 + 1)), some (.int (nI (kk))), some (.int (nI (nxt E0.length kk))), some (.int (iI (sX E0 kk))), some (.int (iI (sY E0 kk))), some (.int (L6)), some (.int (iI (g0))), some (.int (iI (s0))), some (.int (nI (ii + 1))), some (.int (nI (1))), some (.int (nI (Int.natAbs (sX E0 kk)))), some (.int (iI (P.lin lx ly ii)))]) F dX3_wallOfSector_200 rfl rfl (by decide) (hL _ (by decide)) rfl rfl ?_
                    refine j_goto (pc' := 49) F dX3_wallOfSector_203 (by decide) ?_
                    refine j_lv (lv' := [some (.ref (X.E.1 + 43)), some (.ref (X.E.1 + 1)), some (.int (nI (kk))), some (.int (nI (nxt E0.length kk))), some (.int (iI (sX E0 kk))), some (.int (iI (sY E0 kk))), some (.int (L6)), some (.int (iI (g0))), some (.int (iI (s0))), some (.int (nI (ii + 1))), none, none, none]) (sbl (ks := [0, 1, 2, 3, 4, 5, 6, 7, 8, 9]) rfl) ?_
                    exact ih_49 (by omega) L6 (iI (g0)) (iI (s0)) hnext
                  · have hup : fwI P lx ly (sX E0 kk) (sY E0 kk) (ii + 1) (nI ii) (iI (P.gap lx ly (sX E0 kk) (sY E0 kk) ii)) (iI (P.stp (sX E0 kk) (sY E0 kk) ii)) := fwI_less q1 hhit (by rw [hgp, hst]; exact c_185) b1g b2s
                    refine j_iload F dX3_wallOfSector_188 rfl rfl ?_
                    refine j_istore (lv' := [some (.ref (X.E.1 + 43)), some (.ref (X.E.1 + 1)), some (.int (nI (kk))), some (.int (nI (nxt E0.length kk))), some (.int (iI (sX E0 kk))), some (.int (iI (sY E0 kk))), some (.int (nI (ii))), some (.int (iI (g0))), some (.int (iI (s0))), some (.int (nI (ii))), some (.int (nI (1))), some (.int (nI (Int.natAbs (sX E0 kk)))), some (.int (iI (P.lin lx ly ii)))]) F dX3_wallOfSector_190 rfl (hL _ (by decide)) rfl rfl ?_
                    refine j_iload F dX3_wallOfSector_192 rfl rfl ?_
                    refine j_istore (lv' := [some (.ref (X.E.1 + 43)), some (.ref (X.E.1 + 1)), some (.int (nI (kk))), some (.int (nI (nxt E0.length kk))), some (.int (iI (sX E0 kk))), some (.int (iI (sY E0 kk))), some (.int (nI (ii))), some (.int (iI (P.lin lx ly ii))), some (.int (iI (s0))), some (.int (nI (ii))), some (.int (nI (1))), some (.int (nI (Int.natAbs (sX E0 kk)))), some (.int (iI (P.lin lx ly ii)))]) F dX3_wallOfSector_194 rfl (hL _ (by decide)) rfl rfl ?_
                    refine j_iload F dX3_wallOfSector_196 rfl rfl ?_
                    refine j_istore (lv' := [some (.ref (X.E.1 + 43)), some (.ref (X.E.1 + 1)), some (.int (nI (kk))), some (.int (nI (nxt E0.length kk))), some (.int (iI (sX E0 kk))), some (.int (iI (sY E0 kk))), some (.int (nI (ii))), some (.int (iI (P.lin lx ly ii))), some (.int (nI (Int.natAbs (sX E0 kk)))), some (.int (nI (ii))), some (.int (nI (1))), some (.int (nI (Int.natAbs (sX E0 kk)))), some (.int (iI (P.lin lx ly ii)))]) F dX3_wallOfSector_198 rfl (hL _ (by decide)) rfl rfl ?_
                    have hnext : fwI P lx ly (sX E0 kk) (sY E0 kk) (ii + 1) (nI (ii)) (iI (P.lin lx ly ii)) (nI (Int.natAbs (sX E0 kk))) := by rw [hgp, hst, ← nI_iI] at hup; exact hup
                    refine j_iincN (a := ii) (c := 1) (lv' := [some (.ref (X.E.1 + 43)), some (.ref (X.E.1 + 1)), some (.int (nI (kk))), some (.int (nI (nxt E0.length kk))), some (.int (iI (sX E0 kk))), some (.int (iI (sY E0 kk))), some (.int (nI (ii))), some (.int (iI (P.lin lx ly ii))), some (.int (nI (Int.natAbs (sX E0 kk)))), some (.int (nI (ii + 1))), some (.int (nI (1))), some (.int (nI (Int.natAbs (sX E0 kk)))), some (.int (iI (P.lin lx ly ii)))]) F dX3_wallOfSector_200 rfl rfl (by decide) (hL _ (by decide)) rfl rfl ?_
                    refine j_goto (pc' := 49) F dX3_wallOfSector_203 (by decide) ?_
                    refine j_lv (lv' := [some (.ref (X.E.1 + 43)), some (.ref (X.E.1 + 1)), some (.int (nI (kk))), some (.int (nI (nxt E0.length kk))), some (.int (iI (sX E0 kk))), some (.int (iI (sY E0 kk))), some (.int (nI (ii))), some (.int (iI (P.lin lx ly ii))), some (.int (nI (Int.natAbs (sX E0 kk)))), some (.int (nI (ii + 1))), none, none, none]) (sbl (ks := [0, 1, 2, 3, 4, 5, 6, 7, 8, 9]) rfl) ?_
                    exact ih_49 (by omega) (nI (ii)) (iI (P.lin lx ly ii)) (nI (Int.natAbs (sX E0 kk))) hnext
              · have hnext : fwI P lx ly (sX E0 kk) (sY E0 kk) (ii + 1) L6 L7 L8 := fwI_no hI (by unfold Pl.hit; rw [hal, hgp, hst, c_162, Bool.and_false])
                refine j_goto (pc' := 200) F dX3_wallOfSector_165 (by decide) ?_
                skip
                refine j_iincN (a := ii) (c := 1) (lv' := [some (.ref (X.E.1 + 43)), some (.ref (X.E.1 + 1)), some (.int (nI (kk))), some (.int (nI (nxt E0.length kk))), some (.int (iI (sX E0 kk))), some (.int (iI (sY E0 kk))), some (.int (L6)), some (.int (L7)), some (.int (L8)), some (.int (nI (ii + 1))), some (.int (nI (1))), some (.int (nI (Int.natAbs (sX E0 kk)))), some (.int (iI (P.lin lx ly ii)))]) F dX3_wallOfSector_200 rfl rfl (by decide) (hL _ (by decide)) rfl rfl ?_
                refine j_goto (pc' := 49) F dX3_wallOfSector_203 (by decide) ?_
                refine j_lv (lv' := [some (.ref (X.E.1 + 43)), some (.ref (X.E.1 + 1)), some (.int (nI (kk))), some (.int (nI (nxt E0.length kk))), some (.int (iI (sX E0 kk))), some (.int (iI (sY E0 kk))), some (.int (L6)), some (.int (L7)), some (.int (L8)), some (.int (nI (ii + 1))), none, none, none]) (sbl (ks := [0, 1, 2, 3, 4, 5, 6, 7, 8, 9]) rfl) ?_
                exact ih_49 (by omega) L6 L7 L8 hnext
        · refine j_aload_n F dX3_wallOfSector_108 rfl rfl ?_
          refine j_aload_n F dX3_wallOfSector_109 rfl rfl ?_
          refine j_iload F dX3_wallOfSector_110 rfl rfl ?_
          refine kX3_70 hn F (As := [.ref (X.E.1 + 1), .int (nI (ii))]) (rest := []) (c_X3_gapTo hn hP hBd hWl hLm lx ly hLa (by omega) (by omega) ii (by omega)) (by decide) rfl rfl (Nat.le_of_ble_eq_true rfl) dX3_wallOfSector_112 rfl (ro_k ?_)
          refine j_inegZ F (a := P.lin lx ly ii) rfl dX3_wallOfSector_115 rfl ?_
          refine j_goto (pc' := 126) F dX3_wallOfSector_116 (by decide) ?_
          refine j_istore (lv' := [some (.ref (X.E.1 + 43)), some (.ref (X.E.1 + 1)), some (.int (nI (kk))), some (.int (nI (nxt E0.length kk))), some (.int (iI (sX E0 kk))), some (.int (iI (sY E0 kk))), some (.int (L6)), some (.int (L7)), some (.int (L8)), some (.int (nI (ii))), some (.int (nI (1))), some (.int (nI (Int.natAbs (sX E0 kk)))), some (.int (iI (-(P.lin lx ly ii))))]) F dX3_wallOfSector_126 rfl (hL _ (by decide)) rfl rfl ?_
          have hac : P.acr (sX E0 kk) (sY E0 kk) ii = sX E0 kk := by unfold Pl.acr; first | rw [if_pos c_66] | rw [if_neg c_66]
          have hal : P.alo (sX E0 kk) (sY E0 kk) ii = sY E0 kk := by unfold Pl.alo; first | rw [if_pos c_66] | rw [if_neg c_66]
          have hgp : P.gap lx ly (sX E0 kk) (sY E0 kk) ii = -(P.lin lx ly ii) := by unfold Pl.gap; rw [hac]; first | rw [if_pos c_105] | rw [if_neg (by omega)]
          have hst : P.stp (sX E0 kk) (sY E0 kk) ii = ((Int.natAbs (sX E0 kk) : Nat) : Int) := by unfold Pl.stp; rw [hac]
          have hna := bd_na.mp hsx
          have b1g : bd (P.gap lx ly (sX E0 kk) (sY E0 kk) ii) 80 := by rw [hgp]; exact bd_mono (bd_neg (bd_lin2 hBd hWl (show lx ≤ 9 by omega) (show ly ≤ 9 by omega) (show ii < P.nw by omega))) (by decide)
          have b2s : bd (P.stp (sX E0 kk) (sY E0 kk) ii) 80 := by rw [hst]; exact bd_mono (bd_abs hsx) (by decide)
          refine j_iload F dX3_wallOfSector_128 rfl rfl ?_
          refine j_if_eqN (a := Int.natAbs (sX E0 kk)) F (by omega) (tgt := 200) dX3_wallOfSector_130 (by decide) rfl (fun c_130 => ?_) (fun c_130 => ?_)
          · have hnext : fwI P lx ly (sX E0 kk) (sY E0 kk) (ii + 1) L6 L7 L8 := fwI_no hI (by unfold Pl.hit; rw [hac, decide_eq_false (by omega)]; rfl)
            skip
            refine j_iincN (a := ii) (c := 1) (lv' := [some (.ref (X.E.1 + 43)), some (.ref (X.E.1 + 1)), some (.int (nI (kk))), some (.int (nI (nxt E0.length kk))), some (.int (iI (sX E0 kk))), some (.int (iI (sY E0 kk))), some (.int (L6)), some (.int (L7)), some (.int (L8)), some (.int (nI (ii + 1))), some (.int (nI (1))), some (.int (nI (Int.natAbs (sX E0 kk)))), some (.int (iI (-(P.lin lx ly ii))))]) F dX3_wallOfSector_200 rfl rfl (by decide) (hL _ (by decide)) rfl rfl ?_
            refine j_goto (pc' := 49) F dX3_wallOfSector_203 (by decide) ?_
            refine j_lv (lv' := [some (.ref (X.E.1 + 43)), some (.ref (X.E.1 + 1)), some (.int (nI (kk))), some (.int (nI (nxt E0.length kk))), some (.int (iI (sX E0 kk))), some (.int (iI (sY E0 kk))), some (.int (L6)), some (.int (L7)), some (.int (L8)), some (.int (nI (ii + 1))), none, none, none]) (sbl (ks := [0, 1, 2, 3, 4, 5, 6, 7, 8, 9]) rfl) ?_
            exact ih_49 (by omega) L6 L7 L8 hnext
          · refine j_iload F dX3_wallOfSector_133 rfl rfl ?_
            refine j_if_ltZ F (a := -(P.lin lx ly ii)) rfl (bd_neg (bd_lin2 hBd hWl (show lx ≤ 9 by omega) (show ly ≤ 9 by omega) (show ii < P.nw by omega))) (by decide) (tgt := 200) dX3_wallOfSector_135 (by decide) rfl (fun c_135 => ?_) (fun c_135 => ?_)
            · have hnext : fwI P lx ly (sX E0 kk) (sY E0 kk) (ii + 1) L6 L7 L8 := fwI_no hI (by unfold Pl.hit; rw [hgp, decide_eq_false (p := 0 ≤ _) (by omega), Bool.and_false]; rfl)
              skip
              refine j_iincN (a := ii) (c := 1) (lv' := [some (.ref (X.E.1 + 43)), some (.ref (X.E.1 + 1)), some (.int (nI (kk))), some (.int (nI (nxt E0.length kk))), some (.int (iI (sX E0 kk))), some (.int (iI (sY E0 kk))), some (.int (L6)), some (.int (L7)), some (.int (L8)), some (.int (nI (ii + 1))), some (.int (nI (1))), some (.int (nI (Int.natAbs (sX E0 kk)))), some (.int (iI (-(P.lin lx ly ii))))]) F dX3_wallOfSector_200 rfl rfl (by decide) (hL _ (by decide)) rfl rfl ?_
              refine j_goto (pc' := 49) F dX3_wallOfSector_203 (by decide) ?_
              refine j_lv (lv' := [some (.ref (X.E.1 + 43)), some (.ref (X.E.1 + 1)), some (.int (nI (kk))), some (.int (nI (nxt E0.length kk))), some (.int (iI (sX E0 kk))), some (.int (iI (sY E0 kk))), some (.int (L6)), some (.int (L7)), some (.int (L8)), some (.int (nI (ii + 1))), none, none, none]) (sbl (ks := [0, 1, 2, 3, 4, 5, 6, 7, 8, 9]) rfl) ?_
              exact ih_49 (by omega) L6 L7 L8 hnext
            · refine j_aload_n F dX3_wallOfSector_138 rfl rfl ?_
              refine j_aload_n F dX3_wallOfSector_139 rfl rfl ?_
              refine j_iload F dX3_wallOfSector_140 rfl rfl ?_
              refine j_iload F dX3_wallOfSector_142 rfl rfl ?_
              refine j_if_eqN (a := 1) F (by omega) (tgt := 152) dX3_wallOfSector_144 (by decide) rfl (fun c_144 => False.elim (by revert c_144; decide)) (fun c_144 => ?_)
              refine j_iload F dX3_wallOfSector_147 rfl rfl ?_
              refine j_goto (pc' := 154) F dX3_wallOfSector_149 (by decide) ?_
              refine j_iload F dX3_wallOfSector_154 rfl rfl ?_
              refine j_imulZ F (a := sY E0 kk) (b := -(P.lin lx ly ii)) rfl rfl dX3_wallOfSector_156 rfl ?_
              refine j_iload F dX3_wallOfSector_157 rfl rfl ?_
              refine kX3_74 hn F (As := [.ref (X.E.1 + 1), .int (nI (ii)), .int (iI ((sY E0 kk) * (-(P.lin lx ly ii)))), .int (nI (Int.natAbs (sX E0 kk)))]) (rest := []) (c_X3_isOnWall hn hP hBd hWl hLm lx ly hLa (by omega) (by omega) ii (by omega) ((sY E0 kk) * (-(P.lin lx ly ii))) (((Int.natAbs (sX E0 kk) : Nat) : Int)) (bd_mono (bd_mul hsy (bd_neg (bd_lin2 hBd hWl (show lx ≤ 9 by omega) (show ly ≤ 9 by omega) (show ii < P.nw by omega)))) (by decide)) (bd_mono (bd_n (show Int.natAbs (sX E0 kk) ≤ 40 by omega)) (by decide))) (by decide) rfl rfl (Nat.le_of_ble_eq_true rfl) dX3_wallOfSector_159 rfl (ro_k ?_)
              refine j_if_neB F (x := P.onB lx ly ii ((sY E0 kk) * (-(P.lin lx ly ii))) (((Int.natAbs (sX E0 kk) : Nat) : Int))) (tgt := 168) dX3_wallOfSector_162 (by decide) rfl (fun c_162 => ?_) (fun c_162 => ?_)
              · have hhit : P.hit lx ly (sX E0 kk) (sY E0 kk) ii = true := by unfold Pl.hit; rw [hal, hgp, hst, c_162, hac, decide_eq_true (by omega), decide_eq_true (p := 0 ≤ _) (by omega)]; rfl
                refine j_iload F dX3_wallOfSector_168 rfl rfl ?_
                refine j_bipush (v := (-9 : Int32)) F dX3_wallOfSector_170 rfl (by decide) ?_
                refine j_icmp_eq F (tgt := 188) dX3_wallOfSector_172 (by decide) rfl (fun c_172 => ?_) (fun c_172 => ?_)
                · have hup : fwI P lx ly (sX E0 kk) (sY E0 kk) (ii + 1) (nI ii) (iI (P.gap lx ly (sX E0 kk) (sY E0 kk) ii)) (iI (P.stp (sX E0 kk) (sY E0 kk) ii)) := fwI_new hI c_172 (by omega) hhit b1g b2s
                  refine j_iload F dX3_wallOfSector_188 rfl rfl ?_
                  refine j_istore (lv' := [some (.ref (X.E.1 + 43)), some (.ref (X.E.1 + 1)), some (.int (nI (kk))), some (.int (nI (nxt E0.length kk))), some (.int (iI (sX E0 kk))), some (.int (iI (sY E0 kk))), some (.int (nI (ii))), some (.int (L7)), some (.int (L8)), some (.int (nI (ii))), some (.int (nI (1))), some (.int (nI (Int.natAbs (sX E0 kk)))), some (.int (iI (-(P.lin lx ly ii))))]) F dX3_wallOfSector_190 rfl (hL _ (by decide)) rfl rfl ?_
                  refine j_iload F dX3_wallOfSector_192 rfl rfl ?_
                  refine j_istore (lv' := [some (.ref (X.E.1 + 43)), some (.ref (X.E.1 + 1)), some (.int (nI (kk))), some (.int (nI (nxt E0.length kk))), some (.int (iI (sX E0 kk))), some (.int (iI (sY E0 kk))), some (.int (nI (ii))), some (.int (iI (-(P.lin lx ly ii)))), some (.int (L8)), some (.int (nI (ii))), some (.int (nI (1))), some (.int (nI (Int.natAbs (sX E0 kk)))), some (.int (iI (-(P.lin lx ly ii))))]) F dX3_wallOfSector_194 rfl (hL _ (by decide)) rfl rfl ?_
                  refine j_iload F dX3_wallOfSector_196 rfl rfl ?_
                  refine j_istore (lv' := [some (.ref (X.E.1 + 43)), some (.ref (X.E.1 + 1)), some (.int (nI (kk))), some (.int (nI (nxt E0.length kk))), some (.int (iI (sX E0 kk))), some (.int (iI (sY E0 kk))), some (.int (nI (ii))), some (.int (iI (-(P.lin lx ly ii)))), some (.int (nI (Int.natAbs (sX E0 kk)))), some (.int (nI (ii))), some (.int (nI (1))), some (.int (nI (Int.natAbs (sX E0 kk)))), some (.int (iI (-(P.lin lx ly ii))))]) F dX3_wallOfSector_198 rfl (hL _ (by decide)) rfl rfl ?_
                  have hnext : fwI P lx ly (sX E0 kk) (sY E0 kk) (ii + 1) (nI (ii)) (iI (-(P.lin lx ly ii))) (nI (Int.natAbs (sX E0 kk))) := by rw [hgp, hst, ← nI_iI] at hup; exact hup
                  refine j_iincN (a := ii) (c := 1) (lv' := [some (.ref (X.E.1 + 43)), some (.ref (X.E.1 + 1)), some (.int (nI (kk))), some (.int (nI (nxt E0.length kk))), some (.int (iI (sX E0 kk))), some (.int (iI (sY E0 kk))), some (.int (nI (ii))), some (.int (iI (-(P.lin lx ly ii)))), some (.int (nI (Int.natAbs (sX E0 kk)))), some (.int (nI (ii + 1))), some (.int (nI (1))), some (.int (nI (Int.natAbs (sX E0 kk)))), some (.int (iI (-(P.lin lx ly ii))))]) F dX3_wallOfSector_200 rfl rfl (by decide) (hL _ (by decide)) rfl rfl ?_
                  refine j_goto (pc' := 49) F dX3_wallOfSector_203 (by decide) ?_
                  refine j_lv (lv' := [some (.ref (X.E.1 + 43)), some (.ref (X.E.1 + 1)), some (.int (nI (kk))), some (.int (nI (nxt E0.length kk))), some (.int (iI (sX E0 kk))), some (.int (iI (sY E0 kk))), some (.int (nI (ii))), some (.int (iI (-(P.lin lx ly ii)))), some (.int (nI (Int.natAbs (sX E0 kk)))), some (.int (nI (ii + 1))), none, none, none]) (sbl (ks := [0, 1, 2, 3, 4, 5, 6, 7, 8, 9]) rfl) ?_
                  exact ih_49 (by omega) (nI (ii)) (iI (-(P.lin lx ly ii))) (nI (Int.natAbs (sX E0 kk))) hnext
                · obtain ⟨f0, g0, s0, q1, q2, q3, q4, q5, q6, q7⟩ := fwI_some hI c_172
                  refine j_lvq (lv' := [some (.ref (X.E.1 + 43)), some (.ref (X.E.1 + 1)), some (.int (nI (kk))), some (.int (nI (nxt E0.length kk))), some (.int (iI (sX E0 kk))), some (.int (iI (sY E0 kk))), some (.int (L6)), some (.int (iI (g0))), some (.int (iI (s0))), some (.int (nI (ii))), some (.int (nI (1))), some (.int (nI (Int.natAbs (sX E0 kk)))), some (.int (iI (-(P.lin lx ly ii))))]) (by rw [q3, q4]) ?_
                  refine j_iload F dX3_wallOfSector_175 rfl rfl ?_
                  refine j_iload F dX3_wallOfSector_177 rfl rfl ?_
                  refine j_imulZ F (a := -(P.lin lx ly ii)) (b := s0) rfl rfl dX3_wallOfSector_179 rfl ?_
                  refine j_iload F dX3_wallOfSector_180 rfl rfl ?_
                  refine j_iload F dX3_wallOfSector_182 rfl rfl ?_
                  refine j_imulZ F (a := g0) (b := ((Int.natAbs (sX E0 kk) : Nat) : Int)) rfl (nI_iI _) dX3_wallOfSector_184 rfl ?_
                  refine j_icmp_geZ F (a := (-(P.lin lx ly ii)) * s0) (b := g0 * ((Int.natAbs (sX E0 kk) : Nat) : Int)) rfl rfl (bd_mul (bd_neg (bd_lin2 hBd hWl (show lx ≤ 9 by omega) (show ly ≤ 9 by omega) (show ii < P.nw by omega))) q7) (bd_mul q6 (bd_n (show Int.natAbs (sX E0 kk) ≤ 40 by omega))) (by decide) (by decide) (tgt := 200) dX3_wallOfSector_185 (by decide) rfl (fun c_185 => ?_) (fun c_185 => ?_)
                  · have hnext : fwI P lx ly (sX E0 kk) (sY E0 kk) (ii + 1) L6 (iI (g0)) (iI (s0)) := fwI_keep (by rw [q3, q4] at hI; exact hI) q1 (by rw [hgp, hst]; exact c_185)
                    skip
                    refine j_iincN (a := ii) (c := 1) (lv' := [some (.ref (X.E.1 + 43)), some (.ref (X.E.1 + 1)), some (.int (nI (kk))), some (.int (nI (nxt E0.length kk))), some (.int (iI (sX E0 kk))), some (.int (iI (sY E0 kk))), some (.int (L6)), some (.int (iI (g0))), some (.int (iI (s0))), some (.int (nI (ii + 1))), some (.int (nI (1))), some (.int (nI (Int.natAbs (sX E0 kk)))), some (.int (iI (-(P.lin lx ly ii))))]) F dX3_wallOfSector_200 rfl rfl (by decide) (hL _ (by decide)) rfl rfl ?_
                    refine j_goto (pc' := 49) F dX3_wallOfSector_203 (by decide) ?_
                    refine j_lv (lv' := [some (.ref (X.E.1 + 43)), some (.ref (X.E.1 + 1)), some (.int (nI (kk))), some (.int (nI (nxt E0.length kk))), some (.int (iI (sX E0 kk))), some (.int (iI (sY E0 kk))), some (.int (L6)), some (.int (iI (g0))), some (.int (iI (s0))), some (.int (nI (ii + 1))), none, none, none]) (sbl (ks := [0, 1, 2, 3, 4, 5, 6, 7, 8, 9]) rfl) ?_
                    exact ih_49 (by omega) L6 (iI (g0)) (iI (s0)) hnext
                  · have hup : fwI P lx ly (sX E0 kk) (sY E0 kk) (ii + 1) (nI ii) (iI (P.gap lx ly (sX E0 kk) (sY E0 kk) ii)) (iI (P.stp (sX E0 kk) (sY E0 kk) ii)) := fwI_less q1 hhit (by rw [hgp, hst]; exact c_185) b1g b2s
                    refine j_iload F dX3_wallOfSector_188 rfl rfl ?_
                    refine j_istore (lv' := [some (.ref (X.E.1 + 43)), some (.ref (X.E.1 + 1)), some (.int (nI (kk))), some (.int (nI (nxt E0.length kk))), some (.int (iI (sX E0 kk))), some (.int (iI (sY E0 kk))), some (.int (nI (ii))), some (.int (iI (g0))), some (.int (iI (s0))), some (.int (nI (ii))), some (.int (nI (1))), some (.int (nI (Int.natAbs (sX E0 kk)))), some (.int (iI (-(P.lin lx ly ii))))]) F dX3_wallOfSector_190 rfl (hL _ (by decide)) rfl rfl ?_
                    refine j_iload F dX3_wallOfSector_192 rfl rfl ?_
                    refine j_istore (lv' := [some (.ref (X.E.1 + 43)), some (.ref (X.E.1 + 1)), some (.int (nI (kk))), some (.int (nI (nxt E0.length kk))), some (.int (iI (sX E0 kk))), some (.int (iI (sY E0 kk))), some (.int (nI (ii))), some (.int (iI (-(P.lin lx ly ii)))), some (.int (iI (s0))), some (.int (nI (ii))), some (.int (nI (1))), some (.int (nI (Int.natAbs (sX E0 kk)))), some (.int (iI (-(P.lin lx ly ii))))]) F dX3_wallOfSector_194 rfl (hL _ (by decide)) rfl rfl ?_
                    refine j_iload F dX3_wallOfSector_196 rfl rfl ?_
                    refine j_istore (lv' := [some (.ref (X.E.1 + 43)), some (.ref (X.E.1 + 1)), some (.int (nI (kk))), some (.int (nI (nxt E0.length kk))), some (.int (iI (sX E0 kk))), some (.int (iI (sY E0 kk))), some (.int (nI (ii))), some (.int (iI (-(P.lin lx ly ii)))), some (.int (nI (Int.natAbs (sX E0 kk)))), some (.int (nI (ii))), some (.int (nI (1))), some (.int (nI (Int.natAbs (sX E0 kk)))), some (.int (iI (-(P.lin lx ly ii))))]) F dX3_wallOfSector_198 rfl (hL _ (by decide)) rfl rfl ?_
                    have hnext : fwI P lx ly (sX E0 kk) (sY E0 kk) (ii + 1) (nI (ii)) (iI (-(P.lin lx ly ii))) (nI (Int.natAbs (sX E0 kk))) := by rw [hgp, hst, ← nI_iI] at hup; exact hup
                    refine j_iincN (a := ii) (c := 1) (lv' := [some (.ref (X.E.1 + 43)), some (.ref (X.E.1 + 1)), some (.int (nI (kk))), some (.int (nI (nxt E0.length kk))), some (.int (iI (sX E0 kk))), some (.int (iI (sY E0 kk))), some (.int (nI (ii))), some (.int (iI (-(P.lin lx ly ii)))), some (.int (nI (Int.natAbs (sX E0 kk)))), some (.int (nI (ii + 1))), some (.int (nI (1))), some (.int (nI (Int.natAbs (sX E0 kk)))), some (.int (iI (-(P.lin lx ly ii))))]) F dX3_wallOfSector_200 rfl rfl (by decide) (hL _ (by decide)) rfl rfl ?_
                    refine j_goto (pc' := 49) F dX3_wallOfSector_203 (by decide) ?_
                    refine j_lv (lv' := [some (.ref (X.E.1 + 43)), some (.ref (X.E.1 + 1)), some (.int (nI (kk))), some (.int (nI (nxt E0.length kk))), some (.int (iI (sX E0 kk))), some (.int (iI (sY E0 kk))), some (.int (nI (ii))), some (.int (iI (-(P.lin lx ly ii)))), some (.int (nI (Int.natAbs (sX E0 kk)))), some (.int (nI (ii + 1))), none, none, none]) (sbl (ks := [0, 1, 2, 3, 4, 5, 6, 7, 8, 9]) rfl) ?_
                    exact ih_49 (by omega) (nI (ii)) (iI (-(P.lin lx ly ii))) (nI (Int.natAbs (sX E0 kk))) hnext
              · have hnext : fwI P lx ly (sX E0 kk) (sY E0 kk) (ii + 1) L6 L7 L8 := fwI_no hI (by unfold Pl.hit; rw [hal, hgp, hst, c_162, Bool.and_false])
                refine j_goto (pc' := 200) F dX3_wallOfSector_165 (by decide) ?_
                skip
                refine j_iincN (a := ii) (c := 1) (lv' := [some (.ref (X.E.1 + 43)), some (.ref (X.E.1 + 1)), some (.int (nI (kk))), some (.int (nI (nxt E0.length kk))), some (.int (iI (sX E0 kk))), some (.int (iI (sY E0 kk))), some (.int (L6)), some (.int (L7)), some (.int (L8)), some (.int (nI (ii + 1))), some (.int (nI (1))), some (.int (nI (Int.natAbs (sX E0 kk)))), some (.int (iI (-(P.lin lx ly ii))))]) F dX3_wallOfSector_200 rfl rfl (by decide) (hL _ (by decide)) rfl rfl ?_
                refine j_goto (pc' := 49) F dX3_wallOfSector_203 (by decide) ?_
                refine j_lv (lv' := [some (.ref (X.E.1 + 43)), some (.ref (X.E.1 + 1)), some (.int (nI (kk))), some (.int (nI (nxt E0.length kk))), some (.int (iI (sX E0 kk))), some (.int (iI (sY E0 kk))), some (.int (L6)), some (.int (L7)), some (.int (L8)), some (.int (nI (ii + 1))), none, none, none]) (sbl (ks := [0, 1, 2, 3, 4, 5, 6, 7, 8, 9]) rfl) ?_
                exact ih_49 (by omega) L6 L7 L8 hnext
  exact loop_49 0 (by omega) ((-9 : Int32)) (nI (0)) (nI (0)) (fwI_0 _ _ _ _ _ _ _)

set_option maxRecDepth 10000 in
set_option maxHeartbeats 2000000 in
theorem c_X3_measure {l : Launch} {n : Nat} {E : Ev} {σ : St} {P : Pl} (hn : 55 ≤ n) (hP : PlanOK σ 1 P) (hBd : PB P) (hWl : ∀ w, w < P.nw → WallOK P w) (hLm : ∀ l, l < P.nl → LampOK P l) (lx ly : Nat) (hLa : LamOK σ lx ly) (hx9 : lx ≤ 9) (hy9 : ly ≤ 9) {E0 : List Dr} (hR : RayOK σ E0) (hRB : RB E0) (hlen : E0.length ≤ 100) (kk : Nat) (hkk : kk < E0.length) (w : Nat) (hw : w < P.nw) : Ct l yX3_measure cX3_measure 12 none 2 n E [.ref (E.1 + 43), .ref (E.1 + 1), .int (nI (kk)), .int (nI (w))] σ (fun v' σ' => v' = none ∧ σ' 43 5 = iI (P.arU lx ly E0 kk w) ∧ σ' 43 6 = iI (P.arL lx ly E0 kk w) ∧ Fr [43] σ σ') := by
  refine Ct.of (lv0 := [some (.ref (E.1 + 43)), some (.ref (E.1 + 1)), some (.int (nI (kk))), some (.int (nI (w))), none, none, none, none, none, none, none, none]) (by decide) (Nat.le_of_ble_eq_true rfl) rfl ?_
  intro X hXn hXE hXl hXL F hRt
  subst hXn hXE hXl
  have hL : ∀ i, i < 12 → i < X.nL := fun i h => by rw [hXL]; exact h
  have hB0 := hBd
  obtain ⟨b1, b2, b3, b4, b5, b6, b7⟩ := hB0
  have hnx := nxt_lt hkk
  have hsx := bd_sX hRB hkk
  have hsy := bd_sY hRB hkk
  obtain ⟨w1, w2, w3, w4, w5, w6⟩ := hWl w hw
  have bl := bd_lin2 (w := w) hBd hWl hx9 hy9 hw
  have bs := bd_sts (P := P) (w := w) hRB hkk
  have bu : bd (P.aU lx ly E0 kk w) 320000 := bd_mul (bd_mul (bd_trn hRB hkk) bl) bl
  have bL := bd_aL (P := P) (w := w) hRB hkk
  have bg : P.agc lx ly E0 kk w ≤ 323200 := gc_bd bu bL
  refine j_aload_n F dX3_measure_0 rfl rfl ?_
  refine j_iload_n F dX3_measure_1 rfl rfl ?_
  refine kX3_61 hn F (As := [.int (nI (kk))]) (rest := []) (c_X3_eventBehind hn hR hlen kk hkk) (by decide) rfl rfl (Nat.le_of_ble_eq_true rfl) dX3_measure_2 rfl (ro_k ?_)
  refine j_istore (lv' := [some (.ref (X.E.1 + 43)), some (.ref (X.E.1 + 1)), some (.int (nI (kk))), some (.int (nI (w))), some (.int (nI (nxt E0.length kk))), none, none, none, none, none, none, none]) F dX3_measure_5 rfl (hL _ (by decide)) rfl rfl ?_
  refine j_aload_n F dX3_measure_7 rfl rfl ?_
  refine j_iload_n F dX3_measure_8 rfl rfl ?_
  refine j_iconst (v := nI (3)) F dX3_measure_9 rfl (by decide) ?_
  refine kX3_51 (isPl_1 hn) F (As := [.int (nI (w)), .int (nI (3))]) (rest := []) (c_X2_wallPart hn (isPl_1 hn) hP hBd w 3 (by omega) (by decide)) (by decide) rfl rfl (Nat.le_of_ble_eq_true rfl) dX3_measure_10 rfl (ro_k ?_)
  refine j_iconst (v := nI (1)) F dX3_measure_13 rfl (by decide) ?_
  refine j_icmp_neN (a := P.wl w 3) (b := 1) F (by omega) (by omega) (tgt := 21) dX3_measure_14 (by decide) rfl (fun c_14 => ?_) (fun c_14 => ?_)
  · refine j_iconst (v := nI (0)) F dX3_measure_21 rfl (by decide) ?_
    refine j_istore (lv' := [some (.ref (X.E.1 + 43)), some (.ref (X.E.1 + 1)), some (.int (nI (kk))), some (.int (nI (w))), some (.int (nI (nxt E0.length kk))), some (.int (nI (0))), none, none, none, none, none, none]) F dX3_measure_22 rfl (hL _ (by decide)) rfl rfl ?_
    refine j_aload_n F dX3_measure_24 rfl rfl ?_
    refine gX3_9 hn F dX3_measure_25 rfl ?_
    refine j_iload_n F dX3_measure_28 rfl rfl ?_
    refine j_iaload (a := kk) F (by omega) rfl rfl (by omega) (by decide) dX3_measure_29 rfl ?_
    refine j_int (y := iI ((E0.getD kk (0, 0)).1)) ((hR.2 _ hkk).1) ?_
    refine j_aload_n F dX3_measure_30 rfl rfl ?_
    refine gX3_15 hn F dX3_measure_31 rfl ?_
    refine j_iload F dX3_measure_34 rfl rfl ?_
    refine j_iaload (a := nxt E0.length kk) F (by omega) rfl rfl (by omega) (by decide) dX3_measure_36 rfl ?_
    refine j_int (y := iI ((E0.getD (nxt E0.length kk) (0, 0)).2)) ((hR.2 _ hnx).2) ?_
    refine j_imulZ F (a := (E0.getD kk (0, 0)).1) (b := (E0.getD (nxt E0.length kk) (0, 0)).2) rfl rfl dX3_measure_37 rfl ?_
    refine j_aload_n F dX3_measure_38 rfl rfl ?_
    refine gX3_15 hn F dX3_measure_39 rfl ?_
    refine j_iload_n F dX3_measure_42 rfl rfl ?_
    refine j_iaload (a := kk) F (by omega) rfl rfl (by omega) (by decide) dX3_measure_43 rfl ?_
    refine j_int (y := iI ((E0.getD kk (0, 0)).2)) ((hR.2 _ hkk).2) ?_
    refine j_aload_n F dX3_measure_44 rfl rfl ?_
    refine gX3_9 hn F dX3_measure_45 rfl ?_
    refine j_iload F dX3_measure_48 rfl rfl ?_
    refine j_iaload (a := nxt E0.length kk) F (by omega) rfl rfl (by omega) (by decide) dX3_measure_50 rfl ?_
    refine j_int (y := iI ((E0.getD (nxt E0.length kk) (0, 0)).1)) ((hR.2 _ hnx).1) ?_
    refine j_imulZ F (a := (E0.getD kk (0, 0)).2) (b := (E0.getD (nxt E0.length kk) (0, 0)).1) rfl rfl dX3_measure_51 rfl ?_
    refine j_isubZ F (a := ((E0.getD kk (0, 0)).1) * ((E0.getD (nxt E0.length kk) (0, 0)).2)) (b := ((E0.getD kk (0, 0)).2) * ((E0.getD (nxt E0.length kk) (0, 0)).1)) rfl rfl dX3_measure_52 rfl ?_
    refine j_int (y := iI (trn E0 kk)) (rfl) ?_
    refine j_istore (lv' := [some (.ref (X.E.1 + 43)), some (.ref (X.E.1 + 1)), some (.int (nI (kk))), some (.int (nI (w))), some (.int (nI (nxt E0.length kk))), some (.int (nI (0))), some (.int (iI (trn E0 kk))), none, none, none, none, none]) F dX3_measure_53 rfl (hL _ (by decide)) rfl rfl ?_
    refine j_aload_n F dX3_measure_55 rfl rfl ?_
    refine j_aload_n F dX3_measure_56 rfl rfl ?_
    refine j_iload_n F dX3_measure_57 rfl rfl ?_
    refine kX3_70 hn F (As := [.ref (X.E.1 + 1), .int (nI (w))]) (rest := []) (c_X3_gapTo hn hP hBd hWl hLm lx ly hLa (by omega) (by omega) w (by omega)) (by decide) rfl rfl (Nat.le_of_ble_eq_true rfl) dX3_measure_58 rfl (ro_k ?_)
    refine j_istore (lv' := [some (.ref (X.E.1 + 43)), some (.ref (X.E.1 + 1)), some (.int (nI (kk))), some (.int (nI (w))), some (.int (nI (nxt E0.length kk))), some (.int (nI (0))), some (.int (iI (trn E0 kk))), some (.int (iI (P.lin lx ly w))), none, none, none, none]) F dX3_measure_61 rfl (hL _ (by decide)) rfl rfl ?_
    refine j_iload F dX3_measure_63 rfl rfl ?_
    refine j_if_eqN (a := 0) F (by omega) (tgt := 85) dX3_measure_65 (by decide) rfl (fun c_65 => ?_) (fun c_65 => False.elim (by revert c_65; decide))
    refine j_aload_n F dX3_measure_85 rfl rfl ?_
    refine gX3_15 hn F dX3_measure_86 rfl ?_
    refine j_iload_n F dX3_measure_89 rfl rfl ?_
    refine j_iaload (a := kk) F (by omega) rfl rfl (by omega) (by decide) dX3_measure_90 rfl ?_
    refine j_int (y := iI ((E0.getD kk (0, 0)).2)) ((hR.2 _ hkk).2) ?_
    refine j_aload_n F dX3_measure_91 rfl rfl ?_
    refine gX3_15 hn F dX3_measure_92 rfl ?_
    refine j_iload F dX3_measure_95 rfl rfl ?_
    refine j_iaload (a := nxt E0.length kk) F (by omega) rfl rfl (by omega) (by decide) dX3_measure_97 rfl ?_
    refine j_int (y := iI ((E0.getD (nxt E0.length kk) (0, 0)).2)) ((hR.2 _ hnx).2) ?_
    refine j_imulZ F (a := (E0.getD kk (0, 0)).2) (b := (E0.getD (nxt E0.length kk) (0, 0)).2) rfl rfl dX3_measure_98 rfl ?_
    refine j_int (y := iI (P.sts E0 kk w)) (by unfold Pl.sts; rw [if_neg c_14]) ?_
    refine j_istore (lv' := [some (.ref (X.E.1 + 43)), some (.ref (X.E.1 + 1)), some (.int (nI (kk))), some (.int (nI (w))), some (.int (nI (nxt E0.length kk))), some (.int (nI (0))), some (.int (iI (trn E0 kk))), some (.int (iI (P.lin lx ly w))), some (.int (iI (P.sts E0 kk w))), none, none, none]) F dX3_measure_99 rfl (hL _ (by decide)) rfl rfl ?_
    refine j_iload F dX3_measure_101 rfl rfl ?_
    refine j_iload F dX3_measure_103 rfl rfl ?_
    refine j_imulZ F (a := trn E0 kk) (b := P.lin lx ly w) rfl rfl dX3_measure_105 rfl ?_
    refine j_iload F dX3_measure_106 rfl rfl ?_
    refine j_imulZ F (a := (trn E0 kk) * (P.lin lx ly w)) (b := P.lin lx ly w) rfl rfl dX3_measure_108 rfl ?_
    refine j_int (y := iI (P.aU lx ly E0 kk w)) (rfl) ?_
    refine j_istore (lv' := [some (.ref (X.E.1 + 43)), some (.ref (X.E.1 + 1)), some (.int (nI (kk))), some (.int (nI (w))), some (.int (nI (nxt E0.length kk))), some (.int (nI (0))), some (.int (iI (trn E0 kk))), some (.int (iI (P.lin lx ly w))), some (.int (iI (P.sts E0 kk w))), some (.int (iI (P.aU lx ly E0 kk w))), none, none]) F dX3_measure_109 rfl (hL _ (by decide)) rfl rfl ?_
    refine j_bipush (v := nI (8)) F dX3_measure_111 rfl (by decide) ?_
    refine j_iload F dX3_measure_113 rfl rfl ?_
    refine j_mabs F (a := P.sts E0 kk w) rfl bs (by decide) (by decide) (Nat.le_of_ble_eq_true rfl) dX3_measure_115 rfl ?_
    refine j_imulN (a := 8) (b := Int.natAbs (P.sts E0 kk w)) F dX3_measure_118 rfl ?_
    refine j_int (y := iI (P.aL E0 kk w)) (nI_iI _) ?_
    refine j_istore (lv' := [some (.ref (X.E.1 + 43)), some (.ref (X.E.1 + 1)), some (.int (nI (kk))), some (.int (nI (w))), some (.int (nI (nxt E0.length kk))), some (.int (nI (0))), some (.int (iI (trn E0 kk))), some (.int (iI (P.lin lx ly w))), some (.int (iI (P.sts E0 kk w))), some (.int (iI (P.aU lx ly E0 kk w))), some (.int (iI (P.aL E0 kk w))), none]) F dX3_measure_119 rfl (hL _ (by decide)) rfl rfl ?_
    refine j_iload F dX3_measure_121 rfl rfl ?_
    refine j_iload F dX3_measure_123 rfl rfl ?_
    refine kX3_54 F (As := [.int (iI (P.aU lx ly E0 kk w)), .int (iI (P.aL E0 kk w))]) (rest := []) (c_X3_commonDivisor (P.aU lx ly E0 kk w) (P.aL E0 kk w) (bd_mono bu (by decide)) (bd_mono bL (by decide))) (by decide) rfl rfl (Nat.le_of_ble_eq_true rfl) dX3_measure_125 rfl (ro_k ?_)
    refine j_int (y := nI (P.agc lx ly E0 kk w)) (rfl) ?_
    refine j_istore (lv' := [some (.ref (X.E.1 + 43)), some (.ref (X.E.1 + 1)), some (.int (nI (kk))), some (.int (nI (w))), some (.int (nI (nxt E0.length kk))), some (.int (nI (0))), some (.int (iI (trn E0 kk))), some (.int (iI (P.lin lx ly w))), some (.int (iI (P.sts E0 kk w))), some (.int (iI (P.aU lx ly E0 kk w))), some (.int (iI (P.aL E0 kk w))), some (.int (nI (P.agc lx ly E0 kk w)))]) F dX3_measure_128 rfl (hL _ (by decide)) rfl rfl ?_
    refine j_aload_n F dX3_measure_130 rfl rfl ?_
    refine j_iload F dX3_measure_131 rfl rfl ?_
    refine j_if_leN (a := P.agc lx ly E0 kk w) F (by omega) (tgt := 144) dX3_measure_133 (by decide) rfl (fun c_133 => ?_) (fun c_133 => ?_)
    · refine j_iload F dX3_measure_144 rfl rfl ?_
      refine j_int (y := iI (P.arU lx ly E0 kk w)) (by unfold Pl.arU; rw [if_pos c_133]) ?_
      refine pX3_78 hn F dX3_measure_146 rfl ?_
      refine j_aload_n F dX3_measure_149 rfl rfl ?_
      refine j_iload F dX3_measure_150 rfl rfl ?_
      refine j_if_leN (a := P.agc lx ly E0 kk w) F (by omega) (tgt := 163) dX3_measure_152 (by decide) rfl (fun c_152 => ?_) (fun c_152 => ?_)
      · refine j_iload F dX3_measure_163 rfl rfl ?_
        refine j_int (y := iI (P.arL lx ly E0 kk w)) (by unfold Pl.arL; rw [if_pos c_152]) ?_
        refine pX3_81 hn F dX3_measure_165 rfl ?_
        exact j_vret F hRt (⟨rfl, by simp only [up, upR_s]; rw [upd_n _ _ (by decide), upd_s], by simp only [up, upR_s]; rw [upd_s], Fr.put (Fr.put Fr.rf (by simp)) (by simp)⟩) dX3_measure_168
      · refine j_iload F dX3_measure_155 rfl rfl ?_
        refine j_iload F dX3_measure_157 rfl rfl ?_
        refine j_idivZ F (a := P.aL E0 kk w) (b := ((P.agc lx ly E0 kk w : Nat) : Int)) rfl (nI_iI _) bL (bd_n bg) (by decide) (by decide) (by omega) dX3_measure_159 rfl ?_
        refine j_goto (pc' := 165) F dX3_measure_160 (by decide) ?_
        refine j_int (y := iI (P.arL lx ly E0 kk w)) (by unfold Pl.arL; rw [if_neg (by omega)]) ?_
        refine pX3_81 hn F dX3_measure_165 rfl ?_
        exact j_vret F hRt (⟨rfl, by simp only [up, upR_s]; rw [upd_n _ _ (by decide), upd_s], by simp only [up, upR_s]; rw [upd_s], Fr.put (Fr.put Fr.rf (by simp)) (by simp)⟩) dX3_measure_168
    · refine j_iload F dX3_measure_136 rfl rfl ?_
      refine j_iload F dX3_measure_138 rfl rfl ?_
      refine j_idivZ F (a := P.aU lx ly E0 kk w) (b := ((P.agc lx ly E0 kk w : Nat) : Int)) rfl (nI_iI _) bu (bd_n bg) (by decide) (by decide) (by omega) dX3_measure_140 rfl ?_
      refine j_goto (pc' := 146) F dX3_measure_141 (by decide) ?_
      refine j_int (y := iI (P.arU lx ly E0 kk w)) (by unfold Pl.arU; rw [if_neg (by omega)]) ?_
      refine pX3_78 hn F dX3_measure_146 rfl ?_
      refine j_aload_n F dX3_measure_149 rfl rfl ?_
      refine j_iload F dX3_measure_150 rfl rfl ?_
      refine j_if_leN (a := P.agc lx ly E0 kk w) F (by omega) (tgt := 163) dX3_measure_152 (by decide) rfl (fun c_152 => ?_) (fun c_152 => ?_)
      · refine j_iload F dX3_measure_163 rfl rfl ?_
        refine j_int (y := iI (P.arL lx ly E0 kk w)) (by unfold Pl.arL; rw [if_pos c_152]) ?_
        refine pX3_81 hn F dX3_measure_165 rfl ?_
        exact j_vret F hRt (⟨rfl, by simp only [up, upR_s]; rw [upd_n _ _ (by decide), upd_s], by simp only [up, upR_s]; rw [upd_s], Fr.put (Fr.put Fr.rf (by simp)) (by simp)⟩) dX3_measure_168
      · refine j_iload F dX3_measure_155 rfl rfl ?_
        refine j_iload F dX3_measure_157 rfl rfl ?_
        refine j_idivZ F (a := P.aL E0 kk w) (b := ((P.agc lx ly E0 kk w : Nat) : Int)) rfl (nI_iI _) bL (bd_n bg) (by decide) (by decide) (by omega) dX3_measure_159 rfl ?_
        refine j_goto (pc' := 165) F dX3_measure_160 (by decide) ?_
        refine j_int (y := iI (P.arL lx ly E0 kk w)) (by unfold Pl.arL; rw [if_neg (by omega)]) ?_
        refine pX3_81 hn F dX3_measure_165 rfl ?_
        exact j_vret F hRt (⟨rfl, by simp only [up, upR_s]; rw [upd_n _ _ (by decide), upd_s], by simp only [up, upR_s]; rw [upd_s], Fr.put (Fr.put Fr.rf (by simp)) (by simp)⟩) dX3_measure_168
  · refine j_iconst (v := nI (1)) F dX3_measure_17 rfl (by decide) ?_
    refine j_goto (pc' := 22) F dX3_measure_18 (by decide) ?_
    refine j_istore (lv' := [some (.ref (X.E.1 + 43)), some (.ref (X.E.1 + 1)), some (.int (nI (kk))), some (.int (nI (w))), some (.int (nI (nxt E0.length kk))), some (.int (nI (1))), none, none, none, none, none, none]) F dX3_measure_22 rfl (hL _ (by decide)) rfl rfl ?_
    refine j_aload_n F dX3_measure_24 rfl rfl ?_
    refine gX3_9 hn F dX3_measure_25 rfl ?_
    refine j_iload_n F dX3_measure_28 rfl rfl ?_
    refine j_iaload (a := kk) F (by omega) rfl rfl (by omega) (by decide) dX3_measure_29 rfl ?_
    refine j_int (y := iI ((E0.getD kk (0, 0)).1)) ((hR.2 _ hkk).1) ?_
    refine j_aload_n F dX3_measure_30 rfl rfl ?_
    refine gX3_15 hn F dX3_measure_31 rfl ?_
    refine j_iload F dX3_measure_34 rfl rfl ?_
    refine j_iaload (a := nxt E0.length kk) F (by omega) rfl rfl (by omega) (by decide) dX3_measure_36 rfl ?_
    refine j_int (y := iI ((E0.getD (nxt E0.length kk) (0, 0)).2)) ((hR.2 _ hnx).2) ?_
    refine j_imulZ F (a := (E0.getD kk (0, 0)).1) (b := (E0.getD (nxt E0.length kk) (0, 0)).2) rfl rfl dX3_measure_37 rfl ?_
    refine j_aload_n F dX3_measure_38 rfl rfl ?_
    refine gX3_15 hn F dX3_measure_39 rfl ?_
    refine j_iload_n F dX3_measure_42 rfl rfl ?_
    refine j_iaload (a := kk) F (by omega) rfl rfl (by omega) (by decide) dX3_measure_43 rfl ?_
    refine j_int (y := iI ((E0.getD kk (0, 0)).2)) ((hR.2 _ hkk).2) ?_
    refine j_aload_n F dX3_measure_44 rfl rfl ?_
    refine gX3_9 hn F dX3_measure_45 rfl ?_
    refine j_iload F dX3_measure_48 rfl rfl ?_
    refine j_iaload (a := nxt E0.length kk) F (by omega) rfl rfl (by omega) (by decide) dX3_measure_50 rfl ?_
    refine j_int (y := iI ((E0.getD (nxt E0.length kk) (0, 0)).1)) ((hR.2 _ hnx).1) ?_
    refine j_imulZ F (a := (E0.getD kk (0, 0)).2) (b := (E0.getD (nxt E0.length kk) (0, 0)).1) rfl rfl dX3_measure_51 rfl ?_
    refine j_isubZ F (a := ((E0.getD kk (0, 0)).1) * ((E0.getD (nxt E0.length kk) (0, 0)).2)) (b := ((E0.getD kk (0, 0)).2) * ((E0.getD (nxt E0.length kk) (0, 0)).1)) rfl rfl dX3_measure_52 rfl ?_
    refine j_int (y := iI (trn E0 kk)) (rfl) ?_
    refine j_istore (lv' := [some (.ref (X.E.1 + 43)), some (.ref (X.E.1 + 1)), some (.int (nI (kk))), some (.int (nI (w))), some (.int (nI (nxt E0.length kk))), some (.int (nI (1))), some (.int (iI (trn E0 kk))), none, none, none, none, none]) F dX3_measure_53 rfl (hL _ (by decide)) rfl rfl ?_
    refine j_aload_n F dX3_measure_55 rfl rfl ?_
    refine j_aload_n F dX3_measure_56 rfl rfl ?_
    refine j_iload_n F dX3_measure_57 rfl rfl ?_
    refine kX3_70 hn F (As := [.ref (X.E.1 + 1), .int (nI (w))]) (rest := []) (c_X3_gapTo hn hP hBd hWl hLm lx ly hLa (by omega) (by omega) w (by omega)) (by decide) rfl rfl (Nat.le_of_ble_eq_true rfl) dX3_measure_58 rfl (ro_k ?_)
    refine j_istore (lv' := [some (.ref (X.E.1 + 43)), some (.ref (X.E.1 + 1)), some (.int (nI (kk))), some (.int (nI (w))), some (.int (nI (nxt E0.length kk))), some (.int (nI (1))), some (.int (iI (trn E0 kk))), some (.int (iI (P.lin lx ly w))), none, none, none, none]) F dX3_measure_61 rfl (hL _ (by decide)) rfl rfl ?_
    refine j_iload F dX3_measure_63 rfl rfl ?_
    refine j_if_eqN (a := 1) F (by omega) (tgt := 85) dX3_measure_65 (by decide) rfl (fun c_65 => False.elim (by revert c_65; decide)) (fun c_65 => ?_)
    refine j_aload_n F dX3_measure_68 rfl rfl ?_
    refine gX3_9 hn F dX3_measure_69 rfl ?_
    refine j_iload_n F dX3_measure_72 rfl rfl ?_
    refine j_iaload (a := kk) F (by omega) rfl rfl (by omega) (by decide) dX3_measure_73 rfl ?_
    refine j_int (y := iI ((E0.getD kk (0, 0)).1)) ((hR.2 _ hkk).1) ?_
    refine j_aload_n F dX3_measure_74 rfl rfl ?_
    refine gX3_9 hn F dX3_measure_75 rfl ?_
    refine j_iload F dX3_measure_78 rfl rfl ?_
    refine j_iaload (a := nxt E0.length kk) F (by omega) rfl rfl (by omega) (by decide) dX3_measure_80 rfl ?_
    refine j_int (y := iI ((E0.getD (nxt E0.length kk) (0, 0)).1)) ((hR.2 _ hnx).1) ?_
    refine j_imulZ F (a := (E0.getD kk (0, 0)).1) (b := (E0.getD (nxt E0.length kk) (0, 0)).1) rfl rfl dX3_measure_81 rfl ?_
    refine j_int (y := iI (P.sts E0 kk w)) (by unfold Pl.sts; rw [if_pos c_14]) ?_
    refine j_goto (pc' := 99) F dX3_measure_82 (by decide) ?_
    refine j_istore (lv' := [some (.ref (X.E.1 + 43)), some (.ref (X.E.1 + 1)), some (.int (nI (kk))), some (.int (nI (w))), some (.int (nI (nxt E0.length kk))), some (.int (nI (1))), some (.int (iI (trn E0 kk))), some (.int (iI (P.lin lx ly w))), some (.int (iI (P.sts E0 kk w))), none, none, none]) F dX3_measure_99 rfl (hL _ (by decide)) rfl rfl ?_
    refine j_iload F dX3_measure_101 rfl rfl ?_
    refine j_iload F dX3_measure_103 rfl rfl ?_
    refine j_imulZ F (a := trn E0 kk) (b := P.lin lx ly w) rfl rfl dX3_measure_105 rfl ?_
    refine j_iload F dX3_measure_106 rfl rfl ?_
    refine j_imulZ F (a := (trn E0 kk) * (P.lin lx ly w)) (b := P.lin lx ly w) rfl rfl dX3_measure_108 rfl ?_
    refine j_int (y := iI (P.aU lx ly E0 kk w)) (rfl) ?_
    refine j_istore (lv' := [some (.ref (X.E.1 + 43)), some (.ref (X.E.1 + 1)), some (.int (nI (kk))), some (.int (nI (w))), some (.int (nI (nxt E0.length kk))), some (.int (nI (1))), some (.int (iI (trn E0 kk))), some (.int (iI (P.lin lx ly w))), some (.int (iI (P.sts E0 kk w))), some (.int (iI (P.aU lx ly E0 kk w))), none, none]) F dX3_measure_109 rfl (hL _ (by decide)) rfl rfl ?_
    refine j_bipush (v := nI (8)) F dX3_measure_111 rfl (by decide) ?_
    refine j_iload F dX3_measure_113 rfl rfl ?_
    refine j_mabs F (a := P.sts E0 kk w) rfl bs (by decide) (by decide) (Nat.le_of_ble_eq_true rfl) dX3_measure_115 rfl ?_
    refine j_imulN (a := 8) (b := Int.natAbs (P.sts E0 kk w)) F dX3_measure_118 rfl ?_
    refine j_int (y := iI (P.aL E0 kk w)) (nI_iI _) ?_
    refine j_istore (lv' := [some (.ref (X.E.1 + 43)), some (.ref (X.E.1 + 1)), some (.int (nI (kk))), some (.int (nI (w))), some (.int (nI (nxt E0.length kk))), some (.int (nI (1))), some (.int (iI (trn E0 kk))), some (.int (iI (P.lin lx ly w))), some (.int (iI (P.sts E0 kk w))), some (.int (iI (P.aU lx ly E0 kk w))), some (.int (iI (P.aL E0 kk w))), none]) F dX3_measure_119 rfl (hL _ (by decide)) rfl rfl ?_
    refine j_iload F dX3_measure_121 rfl rfl ?_
    refine j_iload F dX3_measure_123 rfl rfl ?_
    refine kX3_54 F (As := [.int (iI (P.aU lx ly E0 kk w)), .int (iI (P.aL E0 kk w))]) (rest := []) (c_X3_commonDivisor (P.aU lx ly E0 kk w) (P.aL E0 kk w) (bd_mono bu (by decide)) (bd_mono bL (by decide))) (by decide) rfl rfl (Nat.le_of_ble_eq_true rfl) dX3_measure_125 rfl (ro_k ?_)
    refine j_int (y := nI (P.agc lx ly E0 kk w)) (rfl) ?_
    refine j_istore (lv' := [some (.ref (X.E.1 + 43)), some (.ref (X.E.1 + 1)), some (.int (nI (kk))), some (.int (nI (w))), some (.int (nI (nxt E0.length kk))), some (.int (nI (1))), some (.int (iI (trn E0 kk))), some (.int (iI (P.lin lx ly w))), some (.int (iI (P.sts E0 kk w))), some (.int (iI (P.aU lx ly E0 kk w))), some (.int (iI (P.aL E0 kk w))), some (.int (nI (P.agc lx ly E0 kk w)))]) F dX3_measure_128 rfl (hL _ (by decide)) rfl rfl ?_
    refine j_aload_n F dX3_measure_130 rfl rfl ?_
    refine j_iload F dX3_measure_131 rfl rfl ?_
    refine j_if_leN (a := P.agc lx ly E0 kk w) F (by omega) (tgt := 144) dX3_measure_133 (by decide) rfl (fun c_133 => ?_) (fun c_133 => ?_)
    · refine j_iload F dX3_measure_144 rfl rfl ?_
      refine j_int (y := iI (P.arU lx ly E0 kk w)) (by unfold Pl.arU; rw [if_pos c_133]) ?_
      refine pX3_78 hn F dX3_measure_146 rfl ?_
      refine j_aload_n F dX3_measure_149 rfl rfl ?_
      refine j_iload F dX3_measure_150 rfl rfl ?_
      refine j_if_leN (a := P.agc lx ly E0 kk w) F (by omega) (tgt := 163) dX3_measure_152 (by decide) rfl (fun c_152 => ?_) (fun c_152 => ?_)
      · refine j_iload F dX3_measure_163 rfl rfl ?_
        refine j_int (y := iI (P.arL lx ly E0 kk w)) (by unfold Pl.arL; rw [if_pos c_152]) ?_
        refine pX3_81 hn F dX3_measure_165 rfl ?_
        exact j_vret F hRt (⟨rfl, by simp only [up, upR_s]; rw [upd_n _ _ (by decide), upd_s], by simp only [up, upR_s]; rw [upd_s], Fr.put (Fr.put Fr.rf (by simp)) (by simp)⟩) dX3_measure_168
      · refine j_iload F dX3_measure_155 rfl rfl ?_
        refine j_iload F dX3_measure_157 rfl rfl ?_
        refine j_idivZ F (a := P.aL E0 kk w) (b := ((P.agc lx ly E0 kk w : Nat) : Int)) rfl (nI_iI _) bL (bd_n bg) (by decide) (by decide) (by omega) dX3_measure_159 rfl ?_
        refine j_goto (pc' := 165) F dX3_measure_160 (by decide) ?_
        refine j_int (y := iI (P.arL lx ly E0 kk w)) (by unfold Pl.arL; rw [if_neg (by omega)]) ?_
        refine pX3_81 hn F dX3_measure_165 rfl ?_
        exact j_vret F hRt (⟨rfl, by simp only [up, upR_s]; rw [upd_n _ _ (by decide), upd_s], by simp only [up, upR_s]; rw [upd_s], Fr.put (Fr.put Fr.rf (by simp)) (by simp)⟩) dX3_measure_168
    · refine j_iload F dX3_measure_136 rfl rfl ?_
      refine j_iload F dX3_measure_138 rfl rfl ?_
      refine j_idivZ F (a := P.aU lx ly E0 kk w) (b := ((P.agc lx ly E0 kk w : Nat) : Int)) rfl (nI_iI _) bu (bd_n bg) (by decide) (by decide) (by omega) dX3_measure_140 rfl ?_
      refine j_goto (pc' := 146) F dX3_measure_141 (by decide) ?_
      refine j_int (y := iI (P.arU lx ly E0 kk w)) (by unfold Pl.arU; rw [if_neg (by omega)]) ?_
      refine pX3_78 hn F dX3_measure_146 rfl ?_
      refine j_aload_n F dX3_measure_149 rfl rfl ?_
      refine j_iload F dX3_measure_150 rfl rfl ?_
      refine j_if_leN (a := P.agc lx ly E0 kk w) F (by omega) (tgt := 163) dX3_measure_152 (by decide) rfl (fun c_152 => ?_) (fun c_152 => ?_)
      · refine j_iload F dX3_measure_163 rfl rfl ?_
        refine j_int (y := iI (P.arL lx ly E0 kk w)) (by unfold Pl.arL; rw [if_pos c_152]) ?_
        refine pX3_81 hn F dX3_measure_165 rfl ?_
        exact j_vret F hRt (⟨rfl, by simp only [up, upR_s]; rw [upd_n _ _ (by decide), upd_s], by simp only [up, upR_s]; rw [upd_s], Fr.put (Fr.put Fr.rf (by simp)) (by simp)⟩) dX3_measure_168
      · refine j_iload F dX3_measure_155 rfl rfl ?_
        refine j_iload F dX3_measure_157 rfl rfl ?_
        refine j_idivZ F (a := P.aL E0 kk w) (b := ((P.agc lx ly E0 kk w : Nat) : Int)) rfl (nI_iI _) bL (bd_n bg) (by decide) (by decide) (by omega) dX3_measure_159 rfl ?_
        refine j_goto (pc' := 165) F dX3_measure_160 (by decide) ?_
        refine j_int (y := iI (P.arL lx ly E0 kk w)) (by unfold Pl.arL; rw [if_neg (by omega)]) ?_
        refine pX3_81 hn F dX3_measure_165 rfl ?_
        exact j_vret F hRt (⟨rfl, by simp only [up, upR_s]; rw [upd_n _ _ (by decide), upd_s], by simp only [up, upR_s]; rw [upd_s], Fr.put (Fr.put Fr.rf (by simp)) (by simp)⟩) dX3_measure_168
