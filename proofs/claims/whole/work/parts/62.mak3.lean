def arI (E : Ev) (t N : Nat) : va_E := .inl (E.2.2.2 t, N, .inl (fun _ => 0))
def plV : List Value := [.int 0, .int 0, .int 0, .int 0, .null, .null]
def mkPl (E : Ev) (ct : Cn) (k n : Nat) : Cn := cset (cset (cset (cset ct n (arI E 0 56)) k (.inr (2, [.int 0, .int 0, .int 0, .int 0, .ref (E.1 + n), .null]))) (n + 1) (arI E 0 24)) k (.inr (2, [.int 0, .int 0, .int 0, .int 0, .ref (E.1 + n), .ref (E.1 + (n + 1))]))
theorem c_X2_init {l : Launch} {n k : Nat} {E : Ev} {ct : Cn} (hk : k < n) (hct : ct k = .inr (2, plV)) : CtN l yX2_init cX2_init 1 1 2 80 n E [.ref (E.1 + k)] ct (n + 2) (mkPl E ct k n) := by
  refine CtN.of (lv0 := [some (.ref (E.1 + k))]) (by decide) rfl (Nat.le_of_ble_eq_true rfl) rfl ?_
  intro X hXE hXl hXL F hRt
  subst hXE hXl
  refine jn_aload_n F dX2_init_0 rfl rfl ?_
  refine jn_obj F wd_67 wd_60 wd_61 (by decide) dX2_init_1 rfl ?_
  refine jn_aload_n F dX2_init_4 rfl rfl ?_
  refine jn_bipush (v := nI 56) F dX2_init_5 rfl (by decide) ?_
  refine jn_newa (atype := .int) F 0 (by decide) rfl (F.1.2.2.2.2 _ wd_102) (N := 56) (by decide) (by decide) (by decide) (by rw [hRt.2.2.2.1]; decide) (by rw [hRt.2.2.2.2.1]; decide) dX2_init_7 rfl ?_
  refine jn_putF F hRt.2.2.1 (C := RX2) (T := TX2) (N := 6) (ci := 2) (k := k) (i := 4) (fs := plV) (ty := .array .int) tyX2 tyX2_ok nmX2 rfl inX2 (by decide) rfl rfl (by decide +kernel) rfl rfl wd_87 (by omega) ((cset_n _ _ (by omega)).trans hct) (by decide) dX2_init_9 rfl ?_
  refine jn_aload_n F dX2_init_12 rfl rfl ?_
  refine jn_bipush (v := nI 24) F dX2_init_13 rfl (by decide) ?_
  refine jn_newa (atype := .int) F 0 (by decide) rfl (F.1.2.2.2.2 _ wd_102) (N := 24) (by decide) (by decide) (by decide) (by rw [hRt.2.2.2.1]; decide) (by rw [hRt.2.2.2.2.1]; decide) dX2_init_15 rfl ?_
  refine jn_putF F hRt.2.2.1 (C := RX2) (T := TX2) (N := 6) (ci := 2) (k := k) (i := 5) (fs := [.int 0, .int 0, .int 0, .int 0, .ref (X.E.1 + n), .null]) (ty := .array .int) tyX2 tyX2_ok nmX2 rfl inX2 (by decide) rfl rfl (by decide +kernel) rfl rfl wd_88 (by omega) ((cset_n _ _ (by omega)).trans (cset_s _ _ _)) (by show 5 < 6; decide) dX2_init_17 rfl ?_
  exact jn_vret F hRt rfl rfl dX2_init_20
def mk4 (E : Ev) (ct : Cn) (k n : Nat) : Cn := cset (cset ct n (arI E 1 120)) k (.inr (4, [.ref (E.1 + n), .int 0, .int 0, .int 0, .int 0, .int 0]))
theorem c_X4_init {l : Launch} {n k : Nat} {E : Ev} {ct : Cn} (hk : k < n) (hct : ct k = .inr (4, [.null, .int 0, .int 0, .int 0, .int 0, .int 0])) : CtN l yX4_init cX4_init 1 1 1 120 n E [.ref (E.1 + k)] ct (n + 1) (mk4 E ct k n) := by
  refine CtN.of (lv0 := [some (.ref (E.1 + k))]) (by decide) rfl (Nat.le_of_ble_eq_true rfl) rfl ?_
  intro X hXE hXl hXL F hRt
  subst hXE hXl
  refine jn_aload_n F dX4_init_0 rfl rfl ?_
  refine jn_obj F wd_108 wd_60 wd_61 (by decide) dX4_init_1 rfl ?_
  refine jn_aload_n F dX4_init_4 rfl rfl ?_
  refine jn_bipush (v := nI 120) F dX4_init_5 rfl (by decide) ?_
  refine jn_newa (atype := .char) F 1 (by decide) rfl (F.1.2.2.2.2 _ wd_129) (N := 120) (by decide) (by decide) (by decide) (by rw [hRt.2.2.2.1]; decide) (by rw [hRt.2.2.2.2.1]; decide) dX4_init_7 rfl ?_
  refine jn_putF F hRt.2.2.1 (C := RX4) (T := TX4) (N := 6) (ci := 4) (k := k) (i := 0) (fs := [.null, .int 0, .int 0, .int 0, .int 0, .int 0]) (ty := .array .char) tyX4 tyX4_ok nmX4 rfl inX4 (by decide) rfl rfl (by decide +kernel) rfl rfl wd_109 (by omega) ((cset_n _ _ (by omega)).trans hct) (by decide) dX4_init_9 rfl ?_
  exact jn_vret F hRt rfl rfl dX4_init_12
def mk0 (E : Ev) (ct : Cn) (k n : Nat) : Cn := cset (cset ct n (arI E 0 81)) k (.inr (0, [.ref (E.1 + n)]))
theorem c_X0_init {l : Launch} {n k : Nat} {E : Ev} {ct : Cn} (hk : k < n) (hct : ct k = .inr (0, [.null])) : CtN l yX0_init cX0_init 1 1 1 81 n E [.ref (E.1 + k)] ct (n + 1) (mk0 E ct k n) := by
  refine CtN.of (lv0 := [some (.ref (E.1 + k))]) (by decide) rfl (Nat.le_of_ble_eq_true rfl) rfl ?_
  intro X hXE hXl hXL F hRt
  subst hXE hXl
  refine jn_aload_n F dX0_init_0 rfl rfl ?_
  refine jn_obj F wd_155 wd_60 wd_61 (by decide) dX0_init_1 rfl ?_
  refine jn_aload_n F dX0_init_4 rfl rfl ?_
  refine jn_bipush (v := nI 81) F dX0_init_5 rfl (by decide) ?_
  refine jn_newa (atype := .int) F 0 (by decide) rfl (F.1.2.2.2.2 _ wd_102) (N := 81) (by decide) (by decide) (by decide) (by rw [hRt.2.2.2.1]; decide) (by rw [hRt.2.2.2.2.1]; decide) dX0_init_7 rfl ?_
  refine jn_putF F hRt.2.2.1 (C := RX0) (T := TX0) (N := 1) (ci := 0) (k := k) (i := 0) (fs := [.null]) (ty := .array .int) tyX0 tyX0_ok nmX0 rfl inX0 (by decide) rfl rfl (by decide +kernel) rfl rfl wd_156 (by omega) ((cset_n _ _ (by omega)).trans hct) (by decide) dX0_init_9 rfl ?_
  exact jn_vret F hRt rfl rfl dX0_init_12
def mk3 (E : Ev) (ct : Cn) (k n : Nat) : Cn := cset (cset (cset (cset ct n (arI E 0 100)) k (.inr (3, [.ref (E.1 + n), .null, .int 0, .int 0, .int 0, .int 0, .int 0]))) (n + 1) (arI E 0 100)) k (.inr (3, [.ref (E.1 + n), .ref (E.1 + (n + 1)), .int 0, .int 0, .int 0, .int 0, .int 0]))
theorem c_X3_init {l : Launch} {n k : Nat} {E : Ev} {ct : Cn} (hk : k < n) (hct : ct k = .inr (3, [.null, .null, .int 0, .int 0, .int 0, .int 0, .int 0])) : CtN l yX3_init cX3_init 1 1 2 200 n E [.ref (E.1 + k)] ct (n + 2) (mk3 E ct k n) := by
  refine CtN.of (lv0 := [some (.ref (E.1 + k))]) (by decide) rfl (Nat.le_of_ble_eq_true rfl) rfl ?_
  intro X hXE hXl hXL F hRt
  subst hXE hXl
  refine jn_aload_n F dX3_init_0 rfl rfl ?_
  refine jn_obj F wd_165 wd_60 wd_61 (by decide) dX3_init_1 rfl ?_
  refine jn_aload_n F dX3_init_4 rfl rfl ?_
  refine jn_bipush (v := nI 100) F dX3_init_5 rfl (by decide) ?_
  refine jn_newa (atype := .int) F 0 (by decide) rfl (F.1.2.2.2.2 _ wd_102) (N := 100) (by decide) (by decide) (by decide) (by rw [hRt.2.2.2.1]; decide) (by rw [hRt.2.2.2.2.1]; decide) dX3_init_7 rfl ?_
  refine jn_putF F hRt.2.2.1 (C := RX3) (T := TX3) (N := 7) (ci := 3) (k := k) (i := 0) (fs := [.null, .null, .int 0, .int 0, .int 0, .int 0, .int 0]) (ty := .array .int) tyX3 tyX3_ok nmX3 rfl inX3 (by decide) rfl rfl (by decide +kernel) rfl rfl wd_166 (by omega) ((cset_n _ _ (by omega)).trans hct) (by decide) dX3_init_9 rfl ?_
  refine jn_aload_n F dX3_init_12 rfl rfl ?_
  refine jn_bipush (v := nI 100) F dX3_init_13 rfl (by decide) ?_
  refine jn_newa (atype := .int) F 0 (by decide) rfl (F.1.2.2.2.2 _ wd_102) (N := 100) (by decide) (by decide) (by decide) (by rw [hRt.2.2.2.1]; decide) (by rw [hRt.2.2.2.2.1]; decide) dX3_init_15 rfl ?_
  refine jn_putF F hRt.2.2.1 (C := RX3) (T := TX3) (N := 7) (ci := 3) (k := k) (i := 1) (fs := [.ref (X.E.1 + n), .null, .int 0, .int 0, .int 0, .int 0, .int 0]) (ty := .array .int) tyX3 tyX3_ok nmX3 rfl inX3 (by decide) rfl rfl (by decide +kernel) rfl rfl wd_168 (by omega) ((cset_n _ _ (by omega)).trans (cset_s _ _ _)) (by show 1 < 7; decide) dX3_init_17 rfl ?_
  exact jn_vret F hRt rfl rfl dX3_init_20
