def F_X5_manyFound_4 (N : Nat) : Nat → Int32 → Int32 → PI → PL → RES
  | 0, _, _, _, _ => none
  | n + 1, v1, v2, I, L => bI (f_X2_size N I L) (fun x1 I2 L3 => (if x1 ≤ v2 then some (some (.int v1), I2, L3) else bI (f_X5_findingAt N v2 I2 L3) (fun x4 I5 L6 => (if x4 = 1 then (F_X5_manyFound_4 N n) (v1 + 1) (v2 + 1) I5 L6 else (F_X5_manyFound_4 N n) v1 (v2 + 1) I5 L6))))
set_option maxRecDepth 100000 in
theorem E_X5_manyFound_4 (N d : Nat) : ∀ (n : Nat) (v1 : Int32) (v2 : Int32) (I : PI) (L : PL), EvW M_X5_manyFound (d + 5) 4 [(0, .ref 5), (1, .int v1), (2, .int v2)] [] I L (F_X5_manyFound_4 N n v1 v2 I L) := by
  intro n
  induction n with
  | zero =>
    intro v1 v2 I L
    exact EvW.none
  | succ n hr_4 =>
    intro v1 v2 I L
    rw [F_X5_manyFound_4]
    refine ev_iload_n (pc := 4) 2 dX5_manyFound_4 rfl ?_
    refine ev_aload_n (pc := 5) 0 dX5_manyFound_5 rfl ?_
    refine gf_X5_9 (pc := 6) rfl dX5_manyFound_6 ?_
    refine ev_callVI (pc := 9) (d := d + 4) (As := []) (st := [.int v2]) cv_X2_size rfl w_527 rfl (Nat.le_of_ble_eq_true rfl) (ok_X2_size N (d + 4) I L) dX5_manyFound_9 (fun x1 I2 L3 => ?_)
    refine ev_icmp_ge (pc := 12) 33 (by decide) dX5_manyFound_12 ?_ ?_
    · refine ev_iload_n (pc := 33) 1 dX5_manyFound_33 rfl ?_
      exact ev_iret (pc := 34) rfl dX5_manyFound_34
    · refine ev_aload_n (pc := 15) 0 dX5_manyFound_15 rfl ?_
      refine ev_iload_n (pc := 16) 2 dX5_manyFound_16 rfl ?_
      refine ev_callVI (pc := 17) (d := d + 4) (As := [.int v2]) (st := []) cv_X5_findingAt rfl w_528 rfl (Nat.le_of_ble_eq_true rfl) (ok_X5_findingAt N (d) v2 I2 L3) dX5_manyFound_17 (fun x4 I5 L6 => ?_)
      refine ev_iconst (pc := 20) 1 k_iconst_1 dX5_manyFound_20 ?_
      refine ev_icmp_ne (pc := 21) 27 (by decide) dX5_manyFound_21 ?_ ?_
      · refine ev_iinc (pc := 27) (lv' := [(2, .int (v2 + 1)), (0, .ref 5), (1, .int v1)]) dX5_manyFound_27 2 rfl rfl 1 k_iconst_1 rfl ?_
        refine ev_goto (pc := 30) 4 (by decide) dX5_manyFound_30 ?_
        refine EvW.sub [1, 2, 0] rfl ?_
        exact hr_4 v1 (v2 + 1) I5 L6
      · refine ev_iinc (pc := 24) (lv' := [(1, .int (v1 + 1)), (0, .ref 5), (2, .int v2)]) dX5_manyFound_24 1 rfl rfl 1 k_iconst_1 rfl ?_
        refine ev_iinc (pc := 27) (lv' := [(2, .int (v2 + 1)), (1, .int (v1 + 1)), (0, .ref 5)]) dX5_manyFound_27 2 rfl rfl 1 k_iconst_1 rfl ?_
        refine ev_goto (pc := 30) 4 (by decide) dX5_manyFound_30 ?_
        refine EvW.sub [2, 1, 0] rfl ?_
        exact hr_4 (v1 + 1) (v2 + 1) I5 L6
def f_X5_manyFound (N : Nat) (I : PI) (L : PL) : RES := F_X5_manyFound_4 N N 0 0 I L
set_option maxRecDepth 100000 in
theorem ok_X5_manyFound (N d : Nat) (I : PI) (L : PL) : MOk M_X5_manyFound (d + 5) [.ref 5] I L (f_X5_manyFound N I L) := by
  refine MOk.of (by decide +kernel) (Nat.le_of_ble_eq_true rfl) ?_
  show EvW _ _ 0 [(0, .ref 5)] [] I L _
  rw [f_X5_manyFound]
  refine ev_iconst (pc := 0) 0 k_iconst_0 dX5_manyFound_0 ?_
  refine ev_istore_n (pc := 1) (lv' := [(1, .int 0), (0, .ref 5)]) dX5_manyFound_1 rfl rfl rfl ?_
  refine ev_iconst (pc := 2) 0 k_iconst_0 dX5_manyFound_2 ?_
  refine ev_istore_n (pc := 3) (lv' := [(2, .int 0), (1, .int 0), (0, .ref 5)]) dX5_manyFound_3 rfl rfl rfl ?_
  refine EvW.sub [2, 1, 0] rfl ?_
  exact E_X5_manyFound_4 N d N 0 0 I L
def f_X11_alarms (N : Nat) (I : PI) (L : PL) : RES := bI (f_X5_manyFound N I L) (fun x1 I2 L3 => some (some (.int x1), I2, L3))
set_option maxRecDepth 100000 in
theorem ok_X11_alarms (N d : Nat) (I : PI) (L : PL) : MOk M_X11_alarms (d + 6) [.ref 11] I L (f_X11_alarms N I L) := by
  refine MOk.of (by decide +kernel) (Nat.le_of_ble_eq_true rfl) ?_
  show EvW _ _ 0 [(0, .ref 11)] [] I L _
  rw [f_X11_alarms]
  refine ev_aload_n (pc := 0) 0 dX11_alarms_0 rfl ?_
  refine gf_X11_82 (pc := 1) rfl dX11_alarms_1 ?_
  refine ev_callVI (pc := 4) (d := d + 5) (As := []) (st := []) cv_X5_manyFound rfl w_532 rfl (Nat.le_of_ble_eq_true rfl) (ok_X5_manyFound N (d) I L) dX11_alarms_4 (fun x1 I2 L3 => ?_)
  exact ev_iret (pc := 7) rfl dX11_alarms_7
def f_X9_areBounds (N : Nat) (a1 : Int32) (a2 : Int32) (a3 : Int32) (I : PI) (L : PL) : RES := bI (f_X11_within N a1 1 8 I L) (fun x1 I2 L3 => (if x1 = 0 then gd (decide (0 &&& 1 = 0)) (some (some (.int 0), I2, L3)) else bI (f_X11_within N a2 1 9 I2 L3) (fun x4 I5 L6 => (if x4 = 0 then gd (decide (0 &&& 1 = 0)) (some (some (.int 0), I5, L6)) else bI (f_X11_within N a3 1 a1 I5 L6) (fun x7 I8 L9 => (if x7 = 0 then gd (decide (0 &&& 1 = 0)) (some (some (.int 0), I8, L9)) else gd (decide (1 &&& 1 = 1)) (some (some (.int 1), I8, L9))))))))
set_option maxRecDepth 100000 in
theorem ok_X9_areBounds (N d : Nat) (a1 : Int32) (a2 : Int32) (a3 : Int32) (I : PI) (L : PL) : MOk M_X9_areBounds (d + 1) [.int a1, .int a2, .int a3] I L (f_X9_areBounds N a1 a2 a3 I L) := by
  refine MOk.of (by decide +kernel) (Nat.le_of_ble_eq_true rfl) ?_
  show EvW _ _ 0 [(0, .int a1), (1, .int a2), (2, .int a3)] [] I L _
  rw [f_X9_areBounds]
  refine ev_iload_n (pc := 0) 0 dX9_areBounds_0 rfl ?_
  refine ev_iconst (pc := 1) 1 k_iconst_1 dX9_areBounds_1 ?_
  refine ev_bipush (pc := 2) 8 k_bipush_8 dX9_areBounds_2 ?_
  refine ev_callSNI (pc := 4) (d := d) (As := [.int a1, .int 1, .int 8]) (st := []) cv_X11_within rfl rfl rfl (Nat.le_of_ble_eq_true rfl) (ok_X11_within N (d) a1 1 8 I L) dX9_areBounds_4 (fun x1 I2 L3 => ?_)
  refine ev_if_eq (pc := 7) 33 (by decide) dX9_areBounds_7 ?_ ?_
  · refine ev_iconst (pc := 33) 0 k_iconst_0 dX9_areBounds_33 ?_
    exact ev_zret (pc := 34) rfl dX9_areBounds_34
  · refine ev_iload_n (pc := 10) 1 dX9_areBounds_10 rfl ?_
    refine ev_iconst (pc := 11) 1 k_iconst_1 dX9_areBounds_11 ?_
    refine ev_bipush (pc := 12) 9 k_bipush_9 dX9_areBounds_12 ?_
    refine ev_callSNI (pc := 14) (d := d) (As := [.int a2, .int 1, .int 9]) (st := []) cv_X11_within rfl rfl rfl (Nat.le_of_ble_eq_true rfl) (ok_X11_within N (d) a2 1 9 I2 L3) dX9_areBounds_14 (fun x4 I5 L6 => ?_)
    refine ev_if_eq (pc := 17) 33 (by decide) dX9_areBounds_17 ?_ ?_
    · refine ev_iconst (pc := 33) 0 k_iconst_0 dX9_areBounds_33 ?_
      exact ev_zret (pc := 34) rfl dX9_areBounds_34
    · refine ev_iload_n (pc := 20) 2 dX9_areBounds_20 rfl ?_
      refine ev_iconst (pc := 21) 1 k_iconst_1 dX9_areBounds_21 ?_
      refine ev_iload_n (pc := 22) 0 dX9_areBounds_22 rfl ?_
      refine ev_callSNI (pc := 23) (d := d) (As := [.int a3, .int 1, .int a1]) (st := []) cv_X11_within rfl rfl rfl (Nat.le_of_ble_eq_true rfl) (ok_X11_within N (d) a3 1 a1 I5 L6) dX9_areBounds_23 (fun x7 I8 L9 => ?_)
      refine ev_if_eq (pc := 26) 33 (by decide) dX9_areBounds_26 ?_ ?_
      · refine ev_iconst (pc := 33) 0 k_iconst_0 dX9_areBounds_33 ?_
        exact ev_zret (pc := 34) rfl dX9_areBounds_34
      · refine ev_iconst (pc := 29) 1 k_iconst_1 dX9_areBounds_29 ?_
        refine ev_goto (pc := 30) 34 (by decide) dX9_areBounds_30 ?_
        exact ev_zret (pc := 34) rfl dX9_areBounds_34
def F_X9_power_5 (N : Nat) : Nat → Int32 → Int32 → Int64 → Int32 → PI → PL → RES
  | 0, _, _, _, _, _, _ => none
  | n + 1, v0, v1, v2, v4, I, L => (if v1 ≤ v4 then some (some (.long v2), I, L) else nmJ (v2 * (Int32.toInt64 v0)) (fun x1 => (F_X9_power_5 N n) v0 v1 x1 (v4 + 1) I L))
set_option maxRecDepth 100000 in
theorem E_X9_power_5 (N d : Nat) : ∀ (n : Nat) (v0 : Int32) (v1 : Int32) (v2 : Int64) (v4 : Int32) (I : PI) (L : PL), EvW M_X9_power (d) 5 [(0, .int v0), (1, .int v1), (2, .long v2), (4, .int v4)] [] I L (F_X9_power_5 N n v0 v1 v2 v4 I L) := by
  intro n
  induction n with
  | zero =>
    intro v0 v1 v2 v4 I L
    exact EvW.none
  | succ n hr_5 =>
    intro v0 v1 v2 v4 I L
    rw [F_X9_power_5]
    refine ev_iload (pc := 5) 3 dX9_power_5 rfl ?_
    refine ev_iload_n (pc := 7) 1 dX9_power_7 rfl ?_
    refine ev_icmp_ge (pc := 8) 22 (by decide) dX9_power_8 ?_ ?_
    · refine ev_lload_n (pc := 22) 2 dX9_power_22 rfl ?_
      exact ev_lret (pc := 23) rfl dX9_power_23
    · refine ev_lload_n (pc := 11) 2 dX9_power_11 rfl ?_
      refine ev_iload_n (pc := 12) 0 dX9_power_12 rfl ?_
      refine ev_i2l (pc := 13) dX9_power_13 ?_
      refine ev_lmul (pc := 14) dX9_power_14 ?_
      refine ev_nmJ (fun x1 => ?_)
      refine ev_lstore_n (pc := 15) (lv' := [(2, .long x1), (0, .int v0), (1, .int v1), (4, .int v4)]) dX9_power_15 rfl rfl rfl ?_
      refine ev_iinc (pc := 16) (lv' := [(4, .int (v4 + 1)), (2, .long x1), (0, .int v0), (1, .int v1)]) dX9_power_16 3 rfl rfl 1 k_iconst_1 rfl ?_
      refine ev_goto (pc := 19) 5 (by decide) dX9_power_19 ?_
      refine EvW.sub [2, 3, 1, 0] rfl ?_
      exact hr_5 v0 v1 x1 (v4 + 1) I L
def f_X9_power (N : Nat) (a1 : Int32) (a2 : Int32) (I : PI) (L : PL) : RES := F_X9_power_5 N N a1 a2 1 0 I L
set_option maxRecDepth 100000 in
theorem ok_X9_power (N d : Nat) (a1 : Int32) (a2 : Int32) (I : PI) (L : PL) : MOk M_X9_power (d) [.int a1, .int a2] I L (f_X9_power N a1 a2 I L) := by
  refine MOk.of (by decide +kernel) (Nat.le_of_ble_eq_true rfl) ?_
  show EvW _ _ 0 [(0, .int a1), (1, .int a2)] [] I L _
  rw [f_X9_power]
  refine ev_lconst (pc := 0) 1 rfl dX9_power_0 ?_
  refine ev_lstore_n (pc := 1) (lv' := [(2, .long 1), (0, .int a1), (1, .int a2)]) dX9_power_1 rfl rfl rfl ?_
  refine ev_iconst (pc := 2) 0 k_iconst_0 dX9_power_2 ?_
  refine ev_istore (pc := 3) (lv' := [(4, .int 0), (2, .long 1), (0, .int a1), (1, .int a2)]) dX9_power_3 rfl rfl ?_
  refine EvW.sub [2, 3, 1, 0] rfl ?_
  exact E_X9_power_5 N d N a1 a2 1 0 I L
def F_X9_choices_5 (N : Nat) : Nat → Int32 → Int32 → Int64 → Int32 → PI → PL → RES
  | 0, _, _, _, _, _, _ => none
  | n + 1, v0, v1, v2, v4, I, L => (if v1 < v4 then some (some (.long v2), I, L) else gd (decide (¬ (Int32.toInt64 v4) = 0)) (nmJ ((v2 * (Int32.toInt64 ((v0 - v4) + 1))) / (Int32.toInt64 v4)) (fun x1 => (F_X9_choices_5 N n) v0 v1 x1 (v4 + 1) I L)))
set_option maxRecDepth 100000 in
theorem E_X9_choices_5 (N d : Nat) : ∀ (n : Nat) (v0 : Int32) (v1 : Int32) (v2 : Int64) (v4 : Int32) (I : PI) (L : PL), EvW M_X9_choices (d) 5 [(0, .int v0), (1, .int v1), (2, .long v2), (4, .int v4)] [] I L (F_X9_choices_5 N n v0 v1 v2 v4 I L) := by
  intro n
  induction n with
  | zero =>
    intro v0 v1 v2 v4 I L
    exact EvW.none
  | succ n hr_5 =>
    intro v0 v1 v2 v4 I L
    rw [F_X9_choices_5]
    refine ev_iload (pc := 5) 3 dX9_choices_5 rfl ?_
    refine ev_iload_n (pc := 7) 1 dX9_choices_7 rfl ?_
    refine ev_icmp_gt (pc := 8) 31 (by decide) dX9_choices_8 ?_ ?_
    · refine ev_lload_n (pc := 31) 2 dX9_choices_31 rfl ?_
      exact ev_lret (pc := 32) rfl dX9_choices_32
    · refine ev_lload_n (pc := 11) 2 dX9_choices_11 rfl ?_
      refine ev_iload_n (pc := 12) 0 dX9_choices_12 rfl ?_
      refine ev_iload (pc := 13) 3 dX9_choices_13 rfl ?_
      refine ev_isub (pc := 15) dX9_choices_15 ?_
      refine ev_iconst (pc := 16) 1 k_iconst_1 dX9_choices_16 ?_
      refine ev_iadd (pc := 17) dX9_choices_17 ?_
      refine ev_i2l (pc := 18) dX9_choices_18 ?_
      refine ev_lmul (pc := 19) dX9_choices_19 ?_
      refine ev_iload (pc := 20) 3 dX9_choices_20 rfl ?_
      refine ev_i2l (pc := 22) dX9_choices_22 ?_
      refine ev_ldiv (pc := 23) dX9_choices_23 ?_
      refine ev_nmJ (fun x1 => ?_)
      refine ev_lstore_n (pc := 24) (lv' := [(2, .long x1), (0, .int v0), (1, .int v1), (4, .int v4)]) dX9_choices_24 rfl rfl rfl ?_
      refine ev_iinc (pc := 25) (lv' := [(4, .int (v4 + 1)), (2, .long x1), (0, .int v0), (1, .int v1)]) dX9_choices_25 3 rfl rfl 1 k_iconst_1 rfl ?_
      refine ev_goto (pc := 28) 5 (by decide) dX9_choices_28 ?_
      refine EvW.sub [2, 3, 1, 0] rfl ?_
      exact hr_5 v0 v1 x1 (v4 + 1) I L
def f_X9_choices (N : Nat) (a1 : Int32) (a2 : Int32) (I : PI) (L : PL) : RES := F_X9_choices_5 N N a1 a2 1 1 I L
set_option maxRecDepth 100000 in
theorem ok_X9_choices (N d : Nat) (a1 : Int32) (a2 : Int32) (I : PI) (L : PL) : MOk M_X9_choices (d) [.int a1, .int a2] I L (f_X9_choices N a1 a2 I L) := by
  refine MOk.of (by decide +kernel) (Nat.le_of_ble_eq_true rfl) ?_
  show EvW _ _ 0 [(0, .int a1), (1, .int a2)] [] I L _
  rw [f_X9_choices]
  refine ev_lconst (pc := 0) 1 rfl dX9_choices_0 ?_
  refine ev_lstore_n (pc := 1) (lv' := [(2, .long 1), (0, .int a1), (1, .int a2)]) dX9_choices_1 rfl rfl rfl ?_
  refine ev_iconst (pc := 2) 1 k_iconst_1 dX9_choices_2 ?_
  refine ev_istore (pc := 3) (lv' := [(4, .int 1), (2, .long 1), (0, .int a1), (1, .int a2)]) dX9_choices_3 rfl rfl ?_
  refine EvW.sub [2, 3, 1, 0] rfl ?_
  exact E_X9_choices_5 N d N a1 a2 1 1 I L
def F_X9_rowsUpTo_6 (N : Nat) : Nat → Int32 → Int32 → Int64 → Int32 → PI → PL → RES
  | 0, _, _, _, _, _, _ => none
  | n + 1, v1, v3, v4, v6, I, L => (if v1 < v6 then some (some (.long v4), I, L) else bJ (f_X9_choices N v1 v6 I L) (fun x1 I2 L3 => bJ (f_X9_power N (v3 + 1) v6 I2 L3) (fun x4 I5 L6 => bJ (f_X9_power N (((I5 9 1) - 1) - v3) (v1 - v6) I5 L6) (fun x7 I8 L9 => nmJ (v4 + ((x1 * x4) * x7)) (fun x10 => (F_X9_rowsUpTo_6 N n) v1 v3 x10 (v6 + 1) I8 L9)))))
set_option maxRecDepth 100000 in
theorem E_X9_rowsUpTo_6 (N d : Nat) : ∀ (n : Nat) (v1 : Int32) (v3 : Int32) (v4 : Int64) (v6 : Int32) (I : PI) (L : PL), EvW M_X9_rowsUpTo (d + 1) 6 [(0, .ref 9), (1, .int v1), (3, .int v3), (4, .long v4), (6, .int v6)] [] I L (F_X9_rowsUpTo_6 N n v1 v3 v4 v6 I L) := by
  intro n
  induction n with
  | zero =>
    intro v1 v3 v4 v6 I L
    exact EvW.none
  | succ n hr_6 =>
    intro v1 v3 v4 v6 I L
    rw [F_X9_rowsUpTo_6]
    refine ev_iload (pc := 6) 4 dX9_rowsUpTo_6 rfl ?_
    refine ev_iload_n (pc := 8) 1 dX9_rowsUpTo_8 rfl ?_
    refine ev_icmp_gt (pc := 9) 54 (by decide) dX9_rowsUpTo_9 ?_ ?_
    · refine ev_lload (pc := 54) 3 dX9_rowsUpTo_54 rfl ?_
      exact ev_lret (pc := 56) rfl dX9_rowsUpTo_56
    · refine ev_lload (pc := 12) 3 dX9_rowsUpTo_12 rfl ?_
      refine ev_iload_n (pc := 14) 1 dX9_rowsUpTo_14 rfl ?_
      refine ev_iload (pc := 15) 4 dX9_rowsUpTo_15 rfl ?_
      refine ev_callSJ (pc := 17) (d := d) (As := [.int v1, .int v6]) (st := [.long v4]) cv_X9_choices rfl w_547 rfl (Nat.le_of_ble_eq_true rfl) (ok_X9_choices N (d) v1 v6 I L) dX9_rowsUpTo_17 (fun x1 I2 L3 => ?_)
      refine ev_iload_n (pc := 20) 2 dX9_rowsUpTo_20 rfl ?_
      refine ev_iconst (pc := 21) 1 k_iconst_1 dX9_rowsUpTo_21 ?_
      refine ev_iadd (pc := 22) dX9_rowsUpTo_22 ?_
      refine ev_iload (pc := 23) 4 dX9_rowsUpTo_23 rfl ?_
      refine ev_callSJ (pc := 25) (d := d) (As := [.int (v3 + 1), .int v6]) (st := [.long x1, .long v4]) cv_X9_power rfl w_543 rfl (Nat.le_of_ble_eq_true rfl) (ok_X9_power N (d) (v3 + 1) v6 I2 L3) dX9_rowsUpTo_25 (fun x4 I5 L6 => ?_)
      refine ev_lmul (pc := 28) dX9_rowsUpTo_28 ?_
      refine ev_aload_n (pc := 29) 0 dX9_rowsUpTo_29 rfl ?_
      refine gf_X9_25 (pc := 30) rfl dX9_rowsUpTo_30 ?_
      refine ev_iconst (pc := 33) 1 k_iconst_1 dX9_rowsUpTo_33 ?_
      refine ev_isub (pc := 34) dX9_rowsUpTo_34 ?_
      refine ev_iload_n (pc := 35) 2 dX9_rowsUpTo_35 rfl ?_
      refine ev_isub (pc := 36) dX9_rowsUpTo_36 ?_
      refine ev_iload_n (pc := 37) 1 dX9_rowsUpTo_37 rfl ?_
      refine ev_iload (pc := 38) 4 dX9_rowsUpTo_38 rfl ?_
      refine ev_isub (pc := 40) dX9_rowsUpTo_40 ?_
      refine ev_callSJ (pc := 41) (d := d) (As := [.int (((I5 9 1) - 1) - v3), .int (v1 - v6)]) (st := [.long (x1 * x4), .long v4]) cv_X9_power rfl w_543 rfl (Nat.le_of_ble_eq_true rfl) (ok_X9_power N (d) (((I5 9 1) - 1) - v3) (v1 - v6) I5 L6) dX9_rowsUpTo_41 (fun x7 I8 L9 => ?_)
      refine ev_lmul (pc := 44) dX9_rowsUpTo_44 ?_
      refine ev_ladd (pc := 45) dX9_rowsUpTo_45 ?_
      refine ev_nmJ (fun x10 => ?_)
      refine ev_lstore (pc := 46) (lv' := [(4, .long x10), (0, .ref 9), (1, .int v1), (3, .int v3), (6, .int v6)]) dX9_rowsUpTo_46 rfl rfl ?_
      refine ev_iinc (pc := 48) (lv' := [(6, .int (v6 + 1)), (4, .long x10), (0, .ref 9), (1, .int v1), (3, .int v3)]) dX9_rowsUpTo_48 4 rfl rfl 1 k_iconst_1 rfl ?_
      refine ev_goto (pc := 51) 6 (by decide) dX9_rowsUpTo_51 ?_
      refine EvW.sub [2, 3, 4, 1, 0] rfl ?_
      exact hr_6 v1 v3 x10 (v6 + 1) I8 L9
def f_X9_rowsUpTo (N : Nat) (a1 : Int32) (a2 : Int32) (a3 : Int32) (I : PI) (L : PL) : RES := F_X9_rowsUpTo_6 N N a1 a3 0 a2 I L
set_option maxRecDepth 100000 in
theorem ok_X9_rowsUpTo (N d : Nat) (a1 : Int32) (a2 : Int32) (a3 : Int32) (I : PI) (L : PL) : MOk M_X9_rowsUpTo (d + 1) [.ref 9, .int a1, .int a2, .int a3] I L (f_X9_rowsUpTo N a1 a2 a3 I L) := by
  refine MOk.of (by decide +kernel) (Nat.le_of_ble_eq_true rfl) ?_
  show EvW _ _ 0 [(0, .ref 9), (1, .int a1), (2, .int a2), (3, .int a3)] [] I L _
  rw [f_X9_rowsUpTo]
  refine ev_lconst (pc := 0) 0 rfl dX9_rowsUpTo_0 ?_
  refine ev_lstore (pc := 1) (lv' := [(4, .long 0), (0, .ref 9), (1, .int a1), (2, .int a2), (3, .int a3)]) dX9_rowsUpTo_1 rfl rfl ?_
  refine ev_iload_n (pc := 3) 3 dX9_rowsUpTo_3 rfl ?_
  refine ev_istore (pc := 4) (lv' := [(6, .int a2), (4, .long 0), (0, .ref 9), (1, .int a1), (2, .int a2), (3, .int a3)]) dX9_rowsUpTo_4 rfl rfl ?_
  refine EvW.sub [2, 3, 5, 1, 0] rfl ?_
  exact E_X9_rowsUpTo_6 N d N a1 a3 0 a2 I L
def F_X9_learn_30 (N : Nat) : Nat → Int32 → Int32 → Int64 → Int32 → PI → PL → RES
  | 0, _, _, _, _, _, _ => none
  | n + 1, v1, v3, v4, v6, I, L => (if (I 9 1) ≤ v6 then some (none, I, L) else bJ (f_X9_rowsUpTo N v1 v3 v6 I L) (fun x6 I7 L8 => gd (inb v6 9) (nmY (uL L8 34 (Int32.toNatClampNeg v6) (x6 - v4)) (fun L9 => (F_X9_learn_30 N n) v1 v3 x6 (v6 + 1) I7 L9))))
set_option maxRecDepth 100000 in
theorem E_X9_learn_30 (N d : Nat) : ∀ (n : Nat) (v1 : Int32) (v3 : Int32) (v4 : Int64) (v6 : Int32) (I : PI) (L : PL), EvW M_X9_learn (d + 2) 30 [(0, .ref 9), (1, .int v1), (3, .int v3), (4, .long v4), (6, .int v6)] [] I L (F_X9_learn_30 N n v1 v3 v4 v6 I L) := by
  intro n
  induction n with
  | zero =>
    intro v1 v3 v4 v6 I L
    exact EvW.none
  | succ n hr_30 =>
    intro v1 v3 v4 v6 I L
    rw [F_X9_learn_30]
    refine ev_iload (pc := 30) 4 dX9_learn_30 rfl ?_
    refine ev_aload_n (pc := 32) 0 dX9_learn_32 rfl ?_
    refine gf_X9_25 (pc := 33) rfl dX9_learn_33 ?_
    refine ev_icmp_ge (pc := 36) 71 (by decide) dX9_learn_36 ?_ ?_
    · exact ev_vret (pc := 71) rfl dX9_learn_71
    · refine ev_aload_n (pc := 39) 0 dX9_learn_39 rfl ?_
      refine ev_iload_n (pc := 40) 1 dX9_learn_40 rfl ?_
      refine ev_iload_n (pc := 41) 2 dX9_learn_41 rfl ?_
      refine ev_iload (pc := 42) 4 dX9_learn_42 rfl ?_
      refine ev_callVJ (pc := 44) (d := d + 1) (As := [.int v1, .int v3, .int v6]) (st := []) cv_X9_rowsUpTo rfl w_551 rfl (Nat.le_of_ble_eq_true rfl) (ok_X9_rowsUpTo N (d) v1 v3 v6 I L) dX9_learn_44 (fun x6 I7 L8 => ?_)
      refine ev_lstore (pc := 47) (lv' := [(7, .long x6), (0, .ref 9), (1, .int v1), (3, .int v3), (4, .long v4), (6, .int v6)]) dX9_learn_47 rfl rfl ?_
      refine ev_aload_n (pc := 49) 1 dX9_learn_49 rfl ?_
      refine gf_X9_11 (pc := 50) rfl dX9_learn_50 ?_
      refine ev_iload (pc := 53) 5 dX9_learn_53 rfl ?_
      refine ev_lload (pc := 55) 0 dX9_learn_55 rfl ?_
      refine ev_lload (pc := 57) 4 dX9_learn_57 rfl ?_
      refine ev_lsub (pc := 59) dX9_learn_59 ?_
      refine ev_last (pc := 60) kK_34 dX9_learn_60 ?_
      refine ev_nmY (fun L9 => ?_)
      refine ev_lload (pc := 61) 0 dX9_learn_61 rfl ?_
      refine ev_lstore (pc := 63) (lv' := [(4, .long x6), (7, .long x6), (0, .ref 9), (1, .int v1), (3, .int v3), (6, .int v6)]) dX9_learn_63 rfl rfl ?_
      refine ev_iinc (pc := 65) (lv' := [(6, .int (v6 + 1)), (4, .long x6), (7, .long x6), (0, .ref 9), (1, .int v1), (3, .int v3)]) dX9_learn_65 5 rfl rfl 1 k_iconst_1 rfl ?_
      refine ev_goto (pc := 68) 30 (by decide) dX9_learn_68 ?_
      refine EvW.sub [3, 4, 5, 1, 0] rfl ?_
      exact hr_30 v1 v3 x6 (v6 + 1) I7 L9
def f_X9_learn (N : Nat) (a1 : Int32) (a2 : Int32) (a3 : Int32) (I : PI) (L : PL) : RES := nmW (uI I 9 1 (jmin a2 9)) (fun I1 => bJ (f_X9_power N (I1 9 1) (a1 + 1) I1 L) (fun x2 I3 L4 => nmY (uL L4 9 2 x2) (fun L5 => F_X9_learn_30 N N a1 a3 0 0 I3 L5)))
set_option maxRecDepth 100000 in
theorem ok_X9_learn (N d : Nat) (a1 : Int32) (a2 : Int32) (a3 : Int32) (I : PI) (L : PL) : MOk M_X9_learn (d + 2) [.ref 9, .int a1, .int a2, .int a3] I L (f_X9_learn N a1 a2 a3 I L) := by
  refine MOk.of (by decide +kernel) (Nat.le_of_ble_eq_true rfl) ?_
  show EvW _ _ 0 [(0, .ref 9), (1, .int a1), (2, .int a2), (3, .int a3)] [] I L _
  rw [f_X9_learn]
  refine ev_aload_n (pc := 0) 0 dX9_learn_0 rfl ?_
  refine ev_iload_n (pc := 1) 2 dX9_learn_1 rfl ?_
  refine ev_bipush (pc := 2) 9 k_bipush_9 dX9_learn_2 ?_
  refine ev_mmin (pc := 4) (d := d + 1) w_539 w_134 w_131 w_135 (Nat.le_of_ble_eq_true rfl) dX9_learn_4 ?_
  refine pf_X9_25 (pc := 7) rfl dX9_learn_7 ?_
  refine ev_nmW (fun I1 => ?_)
  refine ev_aload_n (pc := 10) 0 dX9_learn_10 rfl ?_
  refine ev_aload_n (pc := 11) 0 dX9_learn_11 rfl ?_
  refine gf_X9_25 (pc := 12) rfl dX9_learn_12 ?_
  refine ev_iload_n (pc := 15) 1 dX9_learn_15 rfl ?_
  refine ev_iconst (pc := 16) 1 k_iconst_1 dX9_learn_16 ?_
  refine ev_iadd (pc := 17) dX9_learn_17 ?_
  refine ev_callSJ (pc := 18) (d := d + 1) (As := [.int (I1 9 1), .int (a1 + 1)]) (st := [.ref 9]) cv_X9_power rfl w_543 rfl (Nat.le_of_ble_eq_true rfl) (ok_X9_power N (d + 1) (I1 9 1) (a1 + 1) I1 L) dX9_learn_18 (fun x2 I3 L4 => ?_)
  refine pf_X9_33 (pc := 21) rfl dX9_learn_21 ?_
  refine ev_nmY (fun L5 => ?_)
  refine ev_lconst (pc := 24) 0 rfl dX9_learn_24 ?_
  refine ev_lstore (pc := 25) (lv' := [(4, .long 0), (0, .ref 9), (1, .int a1), (2, .int a2), (3, .int a3)]) dX9_learn_25 rfl rfl ?_
  refine ev_iconst (pc := 27) 0 k_iconst_0 dX9_learn_27 ?_
  refine ev_istore (pc := 28) (lv' := [(6, .int 0), (4, .long 0), (0, .ref 9), (1, .int a1), (2, .int a2), (3, .int a3)]) dX9_learn_28 rfl rfl ?_
  refine EvW.sub [2, 3, 5, 1, 0] rfl ?_
  exact E_X9_learn_30 N d N a1 a3 0 0 I3 L5
def F_X9_rowsAbove_5 (N : Nat) : Nat → Int32 → Int64 → Int32 → PI → PL → RES
  | 0, _, _, _, _, _ => none
  | n + 1, v1, v2, v4, I, L => (if (I 9 1) ≤ v4 then some (some (.long v2), I, L) else gd (decide (¬ 10 = 0)) (nmI (jmax 0 (((I 9 1) - 1) - ((v1 * v4) / 10))) (fun x1 => gd (inb v4 9) (nmJ (v2 + ((L 34 (Int32.toNatClampNeg v4)) * (Int32.toInt64 x1))) (fun x2 => (F_X9_rowsAbove_5 N n) v1 x2 (v4 + 1) I L)))))
set_option maxRecDepth 100000 in
theorem E_X9_rowsAbove_5 (N d : Nat) : ∀ (n : Nat) (v1 : Int32) (v2 : Int64) (v4 : Int32) (I : PI) (L : PL), EvW M_X9_rowsAbove (d + 1) 5 [(0, .ref 9), (1, .int v1), (2, .long v2), (4, .int v4)] [] I L (F_X9_rowsAbove_5 N n v1 v2 v4 I L) := by
  intro n
  induction n with
  | zero =>
    intro v1 v2 v4 I L
    exact EvW.none
  | succ n hr_5 =>
    intro v1 v2 v4 I L
    rw [F_X9_rowsAbove_5]
    refine ev_iload (pc := 5) 3 dX9_rowsAbove_5 rfl ?_
    refine ev_aload_n (pc := 7) 0 dX9_rowsAbove_7 rfl ?_
    refine gf_X9_25 (pc := 8) rfl dX9_rowsAbove_8 ?_
    refine ev_icmp_ge (pc := 11) 54 (by decide) dX9_rowsAbove_11 ?_ ?_
    · refine ev_lload_n (pc := 54) 2 dX9_rowsAbove_54 rfl ?_
      exact ev_lret (pc := 55) rfl dX9_rowsAbove_55
    · refine ev_iconst (pc := 14) 0 k_iconst_0 dX9_rowsAbove_14 ?_
      refine ev_aload_n (pc := 15) 0 dX9_rowsAbove_15 rfl ?_
      refine gf_X9_25 (pc := 16) rfl dX9_rowsAbove_16 ?_
      refine ev_iconst (pc := 19) 1 k_iconst_1 dX9_rowsAbove_19 ?_
      refine ev_isub (pc := 20) dX9_rowsAbove_20 ?_
      refine ev_iload_n (pc := 21) 1 dX9_rowsAbove_21 rfl ?_
      refine ev_iload (pc := 22) 3 dX9_rowsAbove_22 rfl ?_
      refine ev_imul (pc := 24) dX9_rowsAbove_24 ?_
      refine ev_bipush (pc := 25) 10 k_bipush_10 dX9_rowsAbove_25 ?_
      refine ev_idiv (pc := 27) dX9_rowsAbove_27 ?_
      refine ev_isub (pc := 28) dX9_rowsAbove_28 ?_
      refine ev_mmax (pc := 29) (d := d) w_558 w_130 w_131 w_132 (Nat.le_of_ble_eq_true rfl) dX9_rowsAbove_29 ?_
      refine ev_nmI (fun x1 => ?_)
      refine ev_istore (pc := 32) (lv' := [(5, .int x1), (0, .ref 9), (1, .int v1), (2, .long v2), (4, .int v4)]) dX9_rowsAbove_32 rfl rfl ?_
      refine ev_lload_n (pc := 34) 3 dX9_rowsAbove_34 rfl ?_
      refine ev_aload_n (pc := 35) 1 dX9_rowsAbove_35 rfl ?_
      refine gf_X9_11 (pc := 36) rfl dX9_rowsAbove_36 ?_
      refine ev_iload (pc := 39) 4 dX9_rowsAbove_39 rfl ?_
      refine ev_lald (pc := 41) kK_34 dX9_rowsAbove_41 ?_
      refine ev_iload (pc := 42) 0 dX9_rowsAbove_42 rfl ?_
      refine ev_i2l (pc := 44) dX9_rowsAbove_44 ?_
      refine ev_lmul (pc := 45) dX9_rowsAbove_45 ?_
      refine ev_ladd (pc := 46) dX9_rowsAbove_46 ?_
      refine ev_nmJ (fun x2 => ?_)
      refine ev_lstore_n (pc := 47) (lv' := [(2, .long x2), (5, .int x1), (0, .ref 9), (1, .int v1), (4, .int v4)]) dX9_rowsAbove_47 rfl rfl rfl ?_
      refine ev_iinc (pc := 48) (lv' := [(4, .int (v4 + 1)), (2, .long x2), (5, .int x1), (0, .ref 9), (1, .int v1)]) dX9_rowsAbove_48 4 rfl rfl 1 k_iconst_1 rfl ?_
      refine ev_goto (pc := 51) 5 (by decide) dX9_rowsAbove_51 ?_
      refine EvW.sub [3, 4, 1, 0] rfl ?_
      exact hr_5 v1 x2 (v4 + 1) I L
def f_X9_rowsAbove (N : Nat) (a1 : Int32) (I : PI) (L : PL) : RES := F_X9_rowsAbove_5 N N a1 0 0 I L
set_option maxRecDepth 100000 in
theorem ok_X9_rowsAbove (N d : Nat) (a1 : Int32) (I : PI) (L : PL) : MOk M_X9_rowsAbove (d + 1) [.ref 9, .int a1] I L (f_X9_rowsAbove N a1 I L) := by
  refine MOk.of (by decide +kernel) (Nat.le_of_ble_eq_true rfl) ?_
  show EvW _ _ 0 [(0, .ref 9), (1, .int a1)] [] I L _
  rw [f_X9_rowsAbove]
  refine ev_lconst (pc := 0) 0 rfl dX9_rowsAbove_0 ?_
  refine ev_lstore_n (pc := 1) (lv' := [(2, .long 0), (0, .ref 9), (1, .int a1)]) dX9_rowsAbove_1 rfl rfl rfl ?_
  refine ev_iconst (pc := 2) 0 k_iconst_0 dX9_rowsAbove_2 ?_
  refine ev_istore (pc := 3) (lv' := [(4, .int 0), (2, .long 0), (0, .ref 9), (1, .int a1)]) dX9_rowsAbove_3 rfl rfl ?_
  refine EvW.sub [2, 3, 1, 0] rfl ?_
  exact E_X9_rowsAbove_5 N d N a1 0 0 I L
def f_X9_partsAbove (N : Nat) (a1 : Int32) (I : PI) (L : PL) : RES := (if (lg_cmp (L 9 2) 0) ≤ 0 then some (some (.long 0), I, L) else bJ (f_X9_rowsAbove N a1 I L) (fun x1 I2 L3 => gd (decide (¬ (L3 9 2) = 0)) (some (some (.long ((1000000 * x1) / (L3 9 2))), I2, L3))))
set_option maxRecDepth 100000 in
theorem ok_X9_partsAbove (N d : Nat) (a1 : Int32) (I : PI) (L : PL) : MOk M_X9_partsAbove (d + 2) [.ref 9, .int a1] I L (f_X9_partsAbove N a1 I L) := by
  refine MOk.of (by decide +kernel) (Nat.le_of_ble_eq_true rfl) ?_
  show EvW _ _ 0 [(0, .ref 9), (1, .int a1)] [] I L _
  rw [f_X9_partsAbove]
  refine ev_aload_n (pc := 0) 0 dX9_partsAbove_0 rfl ?_
  refine gf_X9_33 (pc := 1) rfl dX9_partsAbove_1 ?_
  refine ev_lconst (pc := 4) 0 rfl dX9_partsAbove_4 ?_
  refine ev_lcmp (pc := 5) dX9_partsAbove_5 ?_
  refine ev_if_le (pc := 6) 26 (by decide) dX9_partsAbove_6 ?_ ?_
  · refine ev_lconst (pc := 26) 0 rfl dX9_partsAbove_26 ?_
    exact ev_lret (pc := 27) rfl dX9_partsAbove_27
  · refine ev_ldc2 (pc := 9) w_557 dX9_partsAbove_9 ?_
    refine ev_aload_n (pc := 12) 0 dX9_partsAbove_12 rfl ?_
    refine ev_iload_n (pc := 13) 1 dX9_partsAbove_13 rfl ?_
    refine ev_callVJ (pc := 14) (d := d + 1) (As := [.int a1]) (st := [.long 1000000]) cv_X9_rowsAbove rfl w_562 rfl (Nat.le_of_ble_eq_true rfl) (ok_X9_rowsAbove N (d) a1 I L) dX9_partsAbove_14 (fun x1 I2 L3 => ?_)
    refine ev_lmul (pc := 17) dX9_partsAbove_17 ?_
    refine ev_aload_n (pc := 18) 0 dX9_partsAbove_18 rfl ?_
    refine gf_X9_33 (pc := 19) rfl dX9_partsAbove_19 ?_
    refine ev_ldiv (pc := 22) dX9_partsAbove_22 ?_
    refine ev_goto (pc := 23) 27 (by decide) dX9_partsAbove_23 ?_
    exact ev_lret (pc := 27) rfl dX9_partsAbove_27
def f_X11_share (N : Nat) (a1 : Int32) (a2 : Int32) (a3 : Int32) (a4 : Int32) (a5 : Int32) (I : PI) (L : PL) : RES := bI (f_X9_areBounds N a1 a2 a3 I L) (fun x1 I2 L3 => (if x1 = 0 then some (some (.long (-1 : Int64)), I2, L3) else bI (f_X11_within N a4 0 99 I2 L3) (fun x4 I5 L6 => (if x4 = 0 then some (some (.long (-1 : Int64)), I5, L6) else bI (f_X11_within N a5 0 1 I5 L6) (fun x7 I8 L9 => (if x7 = 0 then some (some (.long (-1 : Int64)), I8, L9) else bV (f_X9_learn N a1 a2 a3 I8 L9) (fun I11 L12 => (if a5 = 0 then bJ (f_X9_rowsAbove N a4 I11 L12) (fun x16 I17 L18 => some (some (.long x16), I17, L18)) else bJ (f_X9_partsAbove N a4 I11 L12) (fun x13 I14 L15 => some (some (.long x13), I14, L15))))))))))
set_option maxRecDepth 100000 in
theorem ok_X11_share (N d : Nat) (a1 : Int32) (a2 : Int32) (a3 : Int32) (a4 : Int32) (a5 : Int32) (I : PI) (L : PL) : MOk M_X11_share (d + 3) [.ref 11, .int a1, .int a2, .int a3, .int a4, .int a5] I L (f_X11_share N a1 a2 a3 a4 a5 I L) := by
  refine MOk.of (by decide +kernel) (Nat.le_of_ble_eq_true rfl) ?_
  show EvW _ _ 0 [(0, .ref 11), (1, .int a1), (2, .int a2), (3, .int a3), (4, .int a4), (5, .int a5)] [] I L _
  rw [f_X11_share]
  refine ev_iload_n (pc := 0) 1 dX11_share_0 rfl ?_
  refine ev_iload_n (pc := 1) 2 dX11_share_1 rfl ?_
  refine ev_iload_n (pc := 2) 3 dX11_share_2 rfl ?_
  refine ev_callSI (pc := 3) (d := d + 2) (As := [.int a1, .int a2, .int a3]) (st := []) cv_X9_areBounds rfl w_536 rfl (Nat.le_of_ble_eq_true rfl) (ok_X9_areBounds N (d + 1) a1 a2 a3 I L) dX11_share_3 (fun x1 I2 L3 => ?_)
  refine ev_if_eq (pc := 6) 30 (by decide) dX11_share_6 ?_ ?_
  · refine ev_ldc2 (pc := 30) w_537 dX11_share_30 ?_
    exact ev_lret (pc := 33) rfl dX11_share_33
  · refine ev_iload (pc := 9) 4 dX11_share_9 rfl ?_
    refine ev_iconst (pc := 11) 0 k_iconst_0 dX11_share_11 ?_
    refine ev_bipush (pc := 12) 99 k_bipush_99 dX11_share_12 ?_
    refine ev_callSI (pc := 14) (d := d + 2) (As := [.int a4, .int 0, .int 99]) (st := []) cv_X11_within rfl w_18 rfl (Nat.le_of_ble_eq_true rfl) (ok_X11_within N (d + 2) a4 0 99 I2 L3) dX11_share_14 (fun x4 I5 L6 => ?_)
    refine ev_if_eq (pc := 17) 30 (by decide) dX11_share_17 ?_ ?_
    · refine ev_ldc2 (pc := 30) w_537 dX11_share_30 ?_
      exact ev_lret (pc := 33) rfl dX11_share_33
    · refine ev_iload (pc := 20) 5 dX11_share_20 rfl ?_
      refine ev_iconst (pc := 22) 0 k_iconst_0 dX11_share_22 ?_
      refine ev_iconst (pc := 23) 1 k_iconst_1 dX11_share_23 ?_
      refine ev_callSI (pc := 24) (d := d + 2) (As := [.int a5, .int 0, .int 1]) (st := []) cv_X11_within rfl w_18 rfl (Nat.le_of_ble_eq_true rfl) (ok_X11_within N (d + 2) a5 0 1 I5 L6) dX11_share_24 (fun x7 I8 L9 => ?_)
      refine ev_if_ne (pc := 27) 34 (by decide) dX11_share_27 ?_ ?_
      · refine ev_aload_n (pc := 34) 0 dX11_share_34 rfl ?_
        refine gf_X11_89 (pc := 35) rfl dX11_share_35 ?_
        refine ev_iload_n (pc := 38) 1 dX11_share_38 rfl ?_
        refine ev_iload_n (pc := 39) 2 dX11_share_39 rfl ?_
        refine ev_iload_n (pc := 40) 3 dX11_share_40 rfl ?_
        refine ev_callVV (pc := 41) (d := d + 2) (As := [.int a1, .int a2, .int a3]) (st := []) cv_X9_learn rfl w_556 rfl (Nat.le_of_ble_eq_true rfl) (ok_X9_learn N (d) a1 a2 a3 I8 L9) dX11_share_41 (fun I11 L12 => ?_)
        refine ev_iload (pc := 44) 5 dX11_share_44 rfl ?_
        refine ev_if_ne (pc := 46) 61 (by decide) dX11_share_46 ?_ ?_
        · refine ev_aload_n (pc := 61) 0 dX11_share_61 rfl ?_
          refine gf_X11_89 (pc := 62) rfl dX11_share_62 ?_
          refine ev_iload (pc := 65) 4 dX11_share_65 rfl ?_
          refine ev_callVJ (pc := 67) (d := d + 2) (As := [.int a4]) (st := []) cv_X9_partsAbove rfl w_566 rfl (Nat.le_of_ble_eq_true rfl) (ok_X9_partsAbove N (d) a4 I11 L12) dX11_share_67 (fun x13 I14 L15 => ?_)
          exact ev_lret (pc := 70) rfl dX11_share_70
        · refine ev_aload_n (pc := 49) 0 dX11_share_49 rfl ?_
          refine gf_X11_89 (pc := 50) rfl dX11_share_50 ?_
          refine ev_iload (pc := 53) 4 dX11_share_53 rfl ?_
          refine ev_callVJ (pc := 55) (d := d + 2) (As := [.int a4]) (st := []) cv_X9_rowsAbove rfl w_567 rfl (Nat.le_of_ble_eq_true rfl) (ok_X9_rowsAbove N (d + 1) a4 I11 L12) dX11_share_55 (fun x16 I17 L18 => ?_)
          refine ev_goto (pc := 58) 70 (by decide) dX11_share_58 ?_
          exact ev_lret (pc := 70) rfl dX11_share_70
      · refine ev_ldc2 (pc := 30) w_537 dX11_share_30 ?_
        exact ev_lret (pc := 33) rfl dX11_share_33
def F_X0_beamAt_22 (N : Nat) (s0 : Int32) (I : PI) (L : PL) : RES := (if (I 0 4) ≤ s0 then some (some (.int (-1 : Int32)), I, L) else some (some (.int s0), I, L))
set_option maxRecDepth 100000 in
theorem E_X0_beamAt_22 (N d : Nat) (s0 : Int32) (I : PI) (L : PL) : EvW M_X0_beamAt (d) 22 [(0, .ref 0)] [.int s0] I L (F_X0_beamAt_22 N s0 I L) := by
  rw [F_X0_beamAt_22]
  refine ev_istore_n (pc := 22) (lv' := [(2, .int s0), (0, .ref 0)]) dX0_beamAt_22 rfl rfl rfl ?_
  refine ev_iload_n (pc := 23) 0 dX0_beamAt_23 rfl ?_
  refine ev_aload_n (pc := 24) 1 dX0_beamAt_24 rfl ?_
  refine gf_X0_24 (pc := 25) rfl dX0_beamAt_25 ?_
  refine ev_icmp_ge (pc := 28) 35 (by decide) dX0_beamAt_28 ?_ ?_
  · refine ev_iconst (pc := 35) (-1 : Int32) k_iconst_m1 dX0_beamAt_35 ?_
    exact ev_iret (pc := 36) rfl dX0_beamAt_36
  · refine ev_iload_n (pc := 31) 0 dX0_beamAt_31 rfl ?_
    refine ev_goto (pc := 32) 36 (by decide) dX0_beamAt_32 ?_
    exact ev_iret (pc := 36) rfl dX0_beamAt_36
def F_X0_beamAt_21 (N : Nat) (I : PI) (L : PL) : RES := F_X0_beamAt_22 N (-1 : Int32) I L
set_option maxRecDepth 100000 in
theorem E_X0_beamAt_21 (N d : Nat) (I : PI) (L : PL) : EvW M_X0_beamAt (d) 21 [(0, .ref 0)] [] I L (F_X0_beamAt_21 N I L) := by
  rw [F_X0_beamAt_21]
  refine ev_iconst (pc := 21) (-1 : Int32) k_iconst_m1 dX0_beamAt_21 ?_
  exact E_X0_beamAt_22 N d (-1 : Int32) I L
def f_X0_beamAt (N : Nat) (a1 : Int32) (I : PI) (L : PL) : RES := (if a1 < 0 then F_X0_beamAt_21 N I L else (if (I 0 4) ≤ a1 then F_X0_beamAt_21 N I L else gd (inb a1 8) (F_X0_beamAt_22 N (I 38 (Int32.toNatClampNeg a1)) I L)))
set_option maxRecDepth 100000 in
theorem ok_X0_beamAt (N d : Nat) (a1 : Int32) (I : PI) (L : PL) : MOk M_X0_beamAt (d) [.ref 0, .int a1] I L (f_X0_beamAt N a1 I L) := by
  refine MOk.of (by decide +kernel) (Nat.le_of_ble_eq_true rfl) ?_
  show EvW _ _ 0 [(0, .ref 0), (1, .int a1)] [] I L _
  rw [f_X0_beamAt]
  refine ev_iload_n (pc := 0) 1 dX0_beamAt_0 rfl ?_
  refine ev_if_lt (pc := 1) 21 (by decide) dX0_beamAt_1 ?_ ?_
  · refine EvW.sub [0] rfl ?_
    exact E_X0_beamAt_21 N d I L
  · refine ev_iload_n (pc := 4) 1 dX0_beamAt_4 rfl ?_
    refine ev_aload_n (pc := 5) 0 dX0_beamAt_5 rfl ?_
    refine gf_X0_24 (pc := 6) rfl dX0_beamAt_6 ?_
    refine ev_icmp_ge (pc := 9) 21 (by decide) dX0_beamAt_9 ?_ ?_
    · refine EvW.sub [0] rfl ?_
      exact E_X0_beamAt_21 N d I L
    · refine ev_aload_n (pc := 12) 0 dX0_beamAt_12 rfl ?_
      refine gf_X0_21 (pc := 13) rfl dX0_beamAt_13 ?_
      refine ev_iload_n (pc := 16) 1 dX0_beamAt_16 rfl ?_
      refine ev_iald (pc := 17) kK_38 dX0_beamAt_17 ?_
      refine ev_goto (pc := 18) 22 (by decide) dX0_beamAt_18 ?_
      refine EvW.sub [0] rfl ?_
      exact E_X0_beamAt_22 N d (I 38 (Int32.toNatClampNeg a1)) I L
def f_X0_dueAt (N : Nat) (a1 : Int32) (I : PI) (L : PL) : RES := bI (f_X0_beamAt N a1 I L) (fun x1 I2 L3 => (if x1 < 0 then some (some (.int 0), I2, L3) else gd (inb x1 8) (some (some (.int (I2 36 (Int32.toNatClampNeg x1))), I2, L3))))
set_option maxRecDepth 100000 in
theorem ok_X0_dueAt (N d : Nat) (a1 : Int32) (I : PI) (L : PL) : MOk M_X0_dueAt (d + 1) [.ref 0, .int a1] I L (f_X0_dueAt N a1 I L) := by
  refine MOk.of (by decide +kernel) (Nat.le_of_ble_eq_true rfl) ?_
  show EvW _ _ 0 [(0, .ref 0), (1, .int a1)] [] I L _
  rw [f_X0_dueAt]
  refine ev_aload_n (pc := 0) 0 dX0_dueAt_0 rfl ?_
  refine ev_iload_n (pc := 1) 1 dX0_dueAt_1 rfl ?_
  refine ev_callVI (pc := 2) (d := d) (As := [.int a1]) (st := []) cv_X0_beamAt rfl w_578 rfl (Nat.le_of_ble_eq_true rfl) (ok_X0_beamAt N (d) a1 I L) dX0_dueAt_2 (fun x1 I2 L3 => ?_)
  refine ev_istore_n (pc := 5) (lv' := [(2, .int x1), (0, .ref 0), (1, .int a1)]) dX0_dueAt_5 rfl rfl rfl ?_
  refine ev_iload_n (pc := 6) 0 dX0_dueAt_6 rfl ?_
  refine ev_if_lt (pc := 7) 19 (by decide) dX0_dueAt_7 ?_ ?_
  · refine ev_iconst (pc := 19) 0 k_iconst_0 dX0_dueAt_19 ?_
    exact ev_iret (pc := 20) rfl dX0_dueAt_20
  · refine ev_aload_n (pc := 10) 1 dX0_dueAt_10 rfl ?_
    refine gf_X0_15 (pc := 11) rfl dX0_dueAt_11 ?_
    refine ev_iload_n (pc := 14) 0 dX0_dueAt_14 rfl ?_
    refine ev_iald (pc := 15) kK_36 dX0_dueAt_15 ?_
    refine ev_goto (pc := 16) 20 (by decide) dX0_dueAt_16 ?_
    exact ev_iret (pc := 20) rfl dX0_dueAt_20
def F_X0_add_86 (N : Nat) (v4 : Int32) (I : PI) (L : PL) : RES := gd (inb v4 8) (nmW (uI I 38 (Int32.toNatClampNeg v4) (I 0 4)) (fun I5 => nmW (uI I5 0 4 ((I5 0 4) + 1)) (fun I6 => some (some (.int ((I6 0 4) - 1)), I6, L))))
set_option maxRecDepth 100000 in
theorem E_X0_add_86 (N d : Nat) (v4 : Int32) (I : PI) (L : PL) : EvW M_X0_add (d + 2) 86 [(0, .ref 0), (4, .int v4)] [] I L (F_X0_add_86 N v4 I L) := by
  rw [F_X0_add_86]
  refine ev_aload_n (pc := 86) 0 dX0_add_86 rfl ?_
  refine gf_X0_21 (pc := 87) rfl dX0_add_87 ?_
  refine ev_iload (pc := 90) 1 dX0_add_90 rfl ?_
  refine ev_aload_n (pc := 92) 0 dX0_add_92 rfl ?_
  refine gf_X0_24 (pc := 93) rfl dX0_add_93 ?_
  refine ev_iast (pc := 96) kK_38 dX0_add_96 ?_
  refine ev_nmW (fun I5 => ?_)
  refine ev_aload_n (pc := 97) 0 dX0_add_97 rfl ?_
  refine ev_dup (pc := 98) rfl dX0_add_98 ?_
  refine gf_X0_24 (pc := 99) rfl dX0_add_99 ?_
  refine ev_iconst (pc := 102) 1 k_iconst_1 dX0_add_102 ?_
  refine ev_iadd (pc := 103) dX0_add_103 ?_
  refine pf_X0_24 (pc := 104) rfl dX0_add_104 ?_
  refine ev_nmW (fun I6 => ?_)
  refine ev_aload_n (pc := 107) 0 dX0_add_107 rfl ?_
  refine gf_X0_24 (pc := 108) rfl dX0_add_108 ?_
  refine ev_iconst (pc := 111) 1 k_iconst_1 dX0_add_111 ?_
  refine ev_isub (pc := 112) dX0_add_112 ?_
  exact ev_iret (pc := 113) rfl dX0_add_113
def F_X0_add_47 (N : Nat) : Nat → Int32 → Int32 → PI → PL → RES
  | 0, _, _, _, _ => none
  | n + 1, v2, v4, I, L => (if v4 ≤ 0 then F_X0_add_86 N v4 I L else bI (f_X0_dueAt N (v4 - 1) I L) (fun x7 I8 L9 => (if x7 ≤ v2 then F_X0_add_86 N v4 I8 L9 else gd (inb (v4 - 1) 8) (gd (inb v4 8) (nmW (uI I8 38 (Int32.toNatClampNeg v4) (I8 38 (Int32.toNatClampNeg (v4 - 1)))) (fun I10 => (F_X0_add_47 N n) v2 (v4 + (-1 : Int32)) I10 L9))))))
set_option maxRecDepth 100000 in
theorem E_X0_add_47 (N d : Nat) : ∀ (n : Nat) (v2 : Int32) (v4 : Int32) (I : PI) (L : PL), EvW M_X0_add (d + 2) 47 [(0, .ref 0), (2, .int v2), (4, .int v4)] [] I L (F_X0_add_47 N n v2 v4 I L) := by
  intro n
  induction n with
  | zero =>
    intro v2 v4 I L
    exact EvW.none
  | succ n hr_47 =>
    intro v2 v4 I L
    rw [F_X0_add_47]
    refine ev_iload (pc := 47) 2 dX0_add_47 rfl ?_
    refine ev_if_le (pc := 49) 86 (by decide) dX0_add_49 ?_ ?_
    · refine EvW.sub [0, 2] rfl ?_
      exact E_X0_add_86 N d v4 I L
    · refine ev_aload_n (pc := 52) 0 dX0_add_52 rfl ?_
      refine ev_iload (pc := 53) 2 dX0_add_53 rfl ?_
      refine ev_iconst (pc := 55) 1 k_iconst_1 dX0_add_55 ?_
      refine ev_isub (pc := 56) dX0_add_56 ?_
      refine ev_callVI (pc := 57) (d := d + 1) (As := [.int (v4 - 1)]) (st := []) cv_X0_dueAt rfl w_582 rfl (Nat.le_of_ble_eq_true rfl) (ok_X0_dueAt N (d) (v4 - 1) I L) dX0_add_57 (fun x7 I8 L9 => ?_)
      refine ev_iload_n (pc := 60) 1 dX0_add_60 rfl ?_
      refine ev_icmp_le (pc := 61) 86 (by decide) dX0_add_61 ?_ ?_
      · refine EvW.sub [0, 2] rfl ?_
        exact E_X0_add_86 N d v4 I8 L9
      · refine ev_aload_n (pc := 64) 0 dX0_add_64 rfl ?_
        refine gf_X0_21 (pc := 65) rfl dX0_add_65 ?_
        refine ev_iload (pc := 68) 2 dX0_add_68 rfl ?_
        refine ev_aload_n (pc := 70) 0 dX0_add_70 rfl ?_
        refine gf_X0_21 (pc := 71) rfl dX0_add_71 ?_
        refine ev_iload (pc := 74) 2 dX0_add_74 rfl ?_
        refine ev_iconst (pc := 76) 1 k_iconst_1 dX0_add_76 ?_
        refine ev_isub (pc := 77) dX0_add_77 ?_
        refine ev_iald (pc := 78) kK_38 dX0_add_78 ?_
        refine ev_iast (pc := 79) kK_38 dX0_add_79 ?_
        refine ev_nmW (fun I10 => ?_)
        refine ev_iinc (pc := 80) (lv' := [(4, .int (v4 + (-1 : Int32))), (0, .ref 0), (2, .int v2)]) dX0_add_80 2 rfl rfl (-1 : Int32) k_iconst_m1 rfl ?_
        refine ev_goto (pc := 83) 47 (by decide) dX0_add_83 ?_
        refine EvW.sub [1, 2, 0] rfl ?_
        exact hr_47 v2 (v4 + (-1 : Int32)) I10 L9
def f_X0_add (N : Nat) (a1 : Int32) (a2 : Int32) (a3 : Int32) (I : PI) (L : PL) : RES := (if (I 0 4) < 8 then gd (inb (I 0 4) 8) (nmW (uI I 35 (Int32.toNatClampNeg (I 0 4)) a1) (fun I1 => gd (inb (I1 0 4) 8) (nmW (uI I1 36 (Int32.toNatClampNeg (I1 0 4)) a2) (fun I2 => gd (inb (I2 0 4) 8) (nmW (uI I2 37 (Int32.toNatClampNeg (I2 0 4)) a3) (fun I3 => nmI (I3 0 4) (fun x4 => F_X0_add_47 N N a2 x4 I3 L))))))) else some (some (.int (-1 : Int32)), I, L))
set_option maxRecDepth 100000 in
theorem ok_X0_add (N d : Nat) (a1 : Int32) (a2 : Int32) (a3 : Int32) (I : PI) (L : PL) : MOk M_X0_add (d + 2) [.ref 0, .int a1, .int a2, .int a3] I L (f_X0_add N a1 a2 a3 I L) := by
  refine MOk.of (by decide +kernel) (Nat.le_of_ble_eq_true rfl) ?_
  show EvW _ _ 0 [(0, .ref 0), (1, .int a1), (2, .int a2), (3, .int a3)] [] I L _
  rw [f_X0_add]
  refine ev_aload_n (pc := 0) 0 dX0_add_0 rfl ?_
  refine gf_X0_24 (pc := 1) rfl dX0_add_1 ?_
  refine ev_bipush (pc := 4) 8 k_bipush_8 dX0_add_4 ?_
  refine ev_icmp_lt (pc := 6) 11 (by decide) dX0_add_6 ?_ ?_
  · refine ev_aload_n (pc := 11) 0 dX0_add_11 rfl ?_
    refine gf_X0_11 (pc := 12) rfl dX0_add_12 ?_
    refine ev_aload_n (pc := 15) 0 dX0_add_15 rfl ?_
    refine gf_X0_24 (pc := 16) rfl dX0_add_16 ?_
    refine ev_iload_n (pc := 19) 1 dX0_add_19 rfl ?_
    refine ev_iast (pc := 20) kK_35 dX0_add_20 ?_
    refine ev_nmW (fun I1 => ?_)
    refine ev_aload_n (pc := 21) 0 dX0_add_21 rfl ?_
    refine gf_X0_15 (pc := 22) rfl dX0_add_22 ?_
    refine ev_aload_n (pc := 25) 0 dX0_add_25 rfl ?_
    refine gf_X0_24 (pc := 26) rfl dX0_add_26 ?_
    refine ev_iload_n (pc := 29) 2 dX0_add_29 rfl ?_
    refine ev_iast (pc := 30) kK_36 dX0_add_30 ?_
    refine ev_nmW (fun I2 => ?_)
    refine ev_aload_n (pc := 31) 0 dX0_add_31 rfl ?_
    refine gf_X0_18 (pc := 32) rfl dX0_add_32 ?_
    refine ev_aload_n (pc := 35) 0 dX0_add_35 rfl ?_
    refine gf_X0_24 (pc := 36) rfl dX0_add_36 ?_
    refine ev_iload_n (pc := 39) 3 dX0_add_39 rfl ?_
    refine ev_iast (pc := 40) kK_37 dX0_add_40 ?_
    refine ev_nmW (fun I3 => ?_)
    refine ev_aload_n (pc := 41) 0 dX0_add_41 rfl ?_
    refine gf_X0_24 (pc := 42) rfl dX0_add_42 ?_
    refine ev_nmI (fun x4 => ?_)
    refine ev_istore (pc := 45) (lv' := [(4, .int x4), (0, .ref 0), (1, .int a1), (2, .int a2), (3, .int a3)]) dX0_add_45 rfl rfl ?_
    refine EvW.sub [1, 3, 0] rfl ?_
    exact E_X0_add_47 N d N a2 x4 I3 L
  · refine ev_iconst (pc := 9) (-1 : Int32) k_iconst_m1 dX0_add_9 ?_
    exact ev_iret (pc := 10) rfl dX0_add_10
def f_X11_beam (N : Nat) (a1 : Int32) (a2 : Int32) (a3 : Int32) (I : PI) (L : PL) : RES := bI (f_X11_within N a1 1 20 I L) (fun x1 I2 L3 => (if x1 = 0 then some (some (.int (-1 : Int32)), I2, L3) else bI (f_X11_within N a2 1 99 I2 L3) (fun x4 I5 L6 => (if x4 = 0 then some (some (.int (-1 : Int32)), I5, L6) else bI (f_X11_within N a3 0 99 I5 L6) (fun x7 I8 L9 => (if x7 = 0 then some (some (.int (-1 : Int32)), I8, L9) else bI (f_X0_add N a1 a2 a3 I8 L9) (fun x10 I11 L12 => some (some (.int x10), I11, L12))))))))
set_option maxRecDepth 100000 in
theorem ok_X11_beam (N d : Nat) (a1 : Int32) (a2 : Int32) (a3 : Int32) (I : PI) (L : PL) : MOk M_X11_beam (d + 3) [.ref 11, .int a1, .int a2, .int a3] I L (f_X11_beam N a1 a2 a3 I L) := by
  refine MOk.of (by decide +kernel) (Nat.le_of_ble_eq_true rfl) ?_
  show EvW _ _ 0 [(0, .ref 11), (1, .int a1), (2, .int a2), (3, .int a3)] [] I L _
  rw [f_X11_beam]
  refine ev_iload_n (pc := 0) 1 dX11_beam_0 rfl ?_
  refine ev_iconst (pc := 1) 1 k_iconst_1 dX11_beam_1 ?_
  refine ev_bipush (pc := 2) 20 k_bipush_20 dX11_beam_2 ?_
  refine ev_callSI (pc := 4) (d := d + 2) (As := [.int a1, .int 1, .int 20]) (st := []) cv_X11_within rfl w_18 rfl (Nat.le_of_ble_eq_true rfl) (ok_X11_within N (d + 2) a1 1 20 I L) dX11_beam_4 (fun x1 I2 L3 => ?_)
  refine ev_if_eq (pc := 7) 30 (by decide) dX11_beam_7 ?_ ?_
  · refine ev_iconst (pc := 30) (-1 : Int32) k_iconst_m1 dX11_beam_30 ?_
    exact ev_iret (pc := 31) rfl dX11_beam_31
  · refine ev_iload_n (pc := 10) 2 dX11_beam_10 rfl ?_
    refine ev_iconst (pc := 11) 1 k_iconst_1 dX11_beam_11 ?_
    refine ev_bipush (pc := 12) 99 k_bipush_99 dX11_beam_12 ?_
    refine ev_callSI (pc := 14) (d := d + 2) (As := [.int a2, .int 1, .int 99]) (st := []) cv_X11_within rfl w_18 rfl (Nat.le_of_ble_eq_true rfl) (ok_X11_within N (d + 2) a2 1 99 I2 L3) dX11_beam_14 (fun x4 I5 L6 => ?_)
    refine ev_if_eq (pc := 17) 30 (by decide) dX11_beam_17 ?_ ?_
    · refine ev_iconst (pc := 30) (-1 : Int32) k_iconst_m1 dX11_beam_30 ?_
      exact ev_iret (pc := 31) rfl dX11_beam_31
    · refine ev_iload_n (pc := 20) 3 dX11_beam_20 rfl ?_
      refine ev_iconst (pc := 21) 0 k_iconst_0 dX11_beam_21 ?_
      refine ev_bipush (pc := 22) 99 k_bipush_99 dX11_beam_22 ?_
      refine ev_callSI (pc := 24) (d := d + 2) (As := [.int a3, .int 0, .int 99]) (st := []) cv_X11_within rfl w_18 rfl (Nat.le_of_ble_eq_true rfl) (ok_X11_within N (d + 2) a3 0 99 I5 L6) dX11_beam_24 (fun x7 I8 L9 => ?_)
      refine ev_if_ne (pc := 27) 32 (by decide) dX11_beam_27 ?_ ?_
      · refine ev_aload_n (pc := 32) 0 dX11_beam_32 rfl ?_
        refine gf_X11_96 (pc := 33) rfl dX11_beam_33 ?_
        refine ev_iload_n (pc := 36) 1 dX11_beam_36 rfl ?_
        refine ev_iload_n (pc := 37) 2 dX11_beam_37 rfl ?_
        refine ev_iload_n (pc := 38) 3 dX11_beam_38 rfl ?_
        refine ev_callVI (pc := 39) (d := d + 2) (As := [.int a1, .int a2, .int a3]) (st := []) cv_X0_add rfl w_586 rfl (Nat.le_of_ble_eq_true rfl) (ok_X0_add N (d) a1 a2 a3 I8 L9) dX11_beam_39 (fun x10 I11 L12 => ?_)
        exact ev_iret (pc := 42) rfl dX11_beam_42
      · refine ev_iconst (pc := 30) (-1 : Int32) k_iconst_m1 dX11_beam_30 ?_
        exact ev_iret (pc := 31) rfl dX11_beam_31
def F_X0_worthOf_4 (N : Nat) : Nat → Int32 → Int32 → Int32 → PI → PL → RES
  | 0, _, _, _, _, _ => none
  | n + 1, v1, v2, v3, I, L => (if (I 0 4) ≤ v3 then some (some (.int v2), I, L) else (if ((v1 >>> (v3 &&& 31)) &&& 1) = 1 then gd (inb v3 8) (nmI (v2 + (I 37 (Int32.toNatClampNeg v3))) (fun x1 => (F_X0_worthOf_4 N n) v1 x1 (v3 + 1) I L)) else (F_X0_worthOf_4 N n) v1 v2 (v3 + 1) I L))
set_option maxRecDepth 100000 in
theorem E_X0_worthOf_4 (N d : Nat) : ∀ (n : Nat) (v1 : Int32) (v2 : Int32) (v3 : Int32) (I : PI) (L : PL), EvW M_X0_worthOf (d) 4 [(0, .ref 0), (1, .int v1), (2, .int v2), (3, .int v3)] [] I L (F_X0_worthOf_4 N n v1 v2 v3 I L) := by
  intro n
  induction n with
  | zero =>
    intro v1 v2 v3 I L
    exact EvW.none
  | succ n hr_4 =>
    intro v1 v2 v3 I L
    rw [F_X0_worthOf_4]
    refine ev_iload_n (pc := 4) 3 dX0_worthOf_4 rfl ?_
    refine ev_aload_n (pc := 5) 0 dX0_worthOf_5 rfl ?_
    refine gf_X0_24 (pc := 6) rfl dX0_worthOf_6 ?_
    refine ev_icmp_ge (pc := 9) 36 (by decide) dX0_worthOf_9 ?_ ?_
    · refine ev_iload_n (pc := 36) 2 dX0_worthOf_36 rfl ?_
      exact ev_iret (pc := 37) rfl dX0_worthOf_37
    · refine ev_iload_n (pc := 12) 1 dX0_worthOf_12 rfl ?_
      refine ev_iload_n (pc := 13) 3 dX0_worthOf_13 rfl ?_
      refine ev_ishr (pc := 14) dX0_worthOf_14 ?_
      refine ev_iconst (pc := 15) 1 k_iconst_1 dX0_worthOf_15 ?_
      refine ev_iand (pc := 16) dX0_worthOf_16 ?_
      refine ev_iconst (pc := 17) 1 k_iconst_1 dX0_worthOf_17 ?_
      refine ev_icmp_ne (pc := 18) 30 (by decide) dX0_worthOf_18 ?_ ?_
      · refine ev_iinc (pc := 30) (lv' := [(3, .int (v3 + 1)), (0, .ref 0), (1, .int v1), (2, .int v2)]) dX0_worthOf_30 3 rfl rfl 1 k_iconst_1 rfl ?_
        refine ev_goto (pc := 33) 4 (by decide) dX0_worthOf_33 ?_
        refine EvW.sub [1, 2, 3, 0] rfl ?_
        exact hr_4 v1 v2 (v3 + 1) I L
      · refine ev_iload_n (pc := 21) 2 dX0_worthOf_21 rfl ?_
        refine ev_aload_n (pc := 22) 0 dX0_worthOf_22 rfl ?_
        refine gf_X0_18 (pc := 23) rfl dX0_worthOf_23 ?_
        refine ev_iload_n (pc := 26) 3 dX0_worthOf_26 rfl ?_
        refine ev_iald (pc := 27) kK_37 dX0_worthOf_27 ?_
        refine ev_iadd (pc := 28) dX0_worthOf_28 ?_
        refine ev_nmI (fun x1 => ?_)
        refine ev_istore_n (pc := 29) (lv' := [(2, .int x1), (0, .ref 0), (1, .int v1), (3, .int v3)]) dX0_worthOf_29 rfl rfl rfl ?_
        refine ev_iinc (pc := 30) (lv' := [(3, .int (v3 + 1)), (2, .int x1), (0, .ref 0), (1, .int v1)]) dX0_worthOf_30 3 rfl rfl 1 k_iconst_1 rfl ?_
        refine ev_goto (pc := 33) 4 (by decide) dX0_worthOf_33 ?_
        refine EvW.sub [2, 3, 1, 0] rfl ?_
        exact hr_4 v1 x1 (v3 + 1) I L
def f_X0_worthOf (N : Nat) (a1 : Int32) (I : PI) (L : PL) : RES := F_X0_worthOf_4 N N a1 0 0 I L
set_option maxRecDepth 100000 in
theorem ok_X0_worthOf (N d : Nat) (a1 : Int32) (I : PI) (L : PL) : MOk M_X0_worthOf (d) [.ref 0, .int a1] I L (f_X0_worthOf N a1 I L) := by
  refine MOk.of (by decide +kernel) (Nat.le_of_ble_eq_true rfl) ?_
  show EvW _ _ 0 [(0, .ref 0), (1, .int a1)] [] I L _
  rw [f_X0_worthOf]
  refine ev_iconst (pc := 0) 0 k_iconst_0 dX0_worthOf_0 ?_
  refine ev_istore_n (pc := 1) (lv' := [(2, .int 0), (0, .ref 0), (1, .int a1)]) dX0_worthOf_1 rfl rfl rfl ?_
  refine ev_iconst (pc := 2) 0 k_iconst_0 dX0_worthOf_2 ?_
  refine ev_istore_n (pc := 3) (lv' := [(3, .int 0), (2, .int 0), (0, .ref 0), (1, .int a1)]) dX0_worthOf_3 rfl rfl rfl ?_
  refine EvW.sub [2, 3, 1, 0] rfl ?_
  exact E_X0_worthOf_4 N d N a1 0 0 I L
def F_X0_canBeDone_4 (N : Nat) : Nat → Int32 → Int32 → Int32 → PI → PL → RES
  | 0, _, _, _, _, _ => none
  | n + 1, v1, v2, v3, I, L => (if (I 0 4) ≤ v3 then gd (decide (1 &&& 1 = 1)) (some (some (.int 1), I, L)) else bI (f_X0_beamAt N v3 I L) (fun x1 I2 L3 => (if x1 < 0 then (F_X0_canBeDone_4 N n) v1 v2 (v3 + 1) I2 L3 else (if ((v1 >>> (x1 &&& 31)) &&& 1) = 1 then gd (inb x1 8) (nmI (v2 + (I2 35 (Int32.toNatClampNeg x1))) (fun x4 => gd (inb x1 8) ((if x4 ≤ (I2 36 (Int32.toNatClampNeg x1)) then (F_X0_canBeDone_4 N n) v1 x4 (v3 + 1) I2 L3 else gd (decide (0 &&& 1 = 0)) (some (some (.int 0), I2, L3)))))) else (F_X0_canBeDone_4 N n) v1 v2 (v3 + 1) I2 L3))))
set_option maxRecDepth 100000 in
theorem E_X0_canBeDone_4 (N d : Nat) : ∀ (n : Nat) (v1 : Int32) (v2 : Int32) (v3 : Int32) (I : PI) (L : PL), EvW M_X0_canBeDone (d + 1) 4 [(0, .ref 0), (1, .int v1), (2, .int v2), (3, .int v3)] [] I L (F_X0_canBeDone_4 N n v1 v2 v3 I L) := by
  intro n
  induction n with
  | zero =>
    intro v1 v2 v3 I L
    exact EvW.none
  | succ n hr_4 =>
    intro v1 v2 v3 I L
    rw [F_X0_canBeDone_4]
    refine ev_iload_n (pc := 4) 3 dX0_canBeDone_4 rfl ?_
    refine ev_aload_n (pc := 5) 0 dX0_canBeDone_5 rfl ?_
    refine gf_X0_24 (pc := 6) rfl dX0_canBeDone_6 ?_
    refine ev_icmp_ge (pc := 9) 63 (by decide) dX0_canBeDone_9 ?_ ?_
    · refine ev_iconst (pc := 63) 1 k_iconst_1 dX0_canBeDone_63 ?_
      exact ev_zret (pc := 64) rfl dX0_canBeDone_64
    · refine ev_aload_n (pc := 12) 0 dX0_canBeDone_12 rfl ?_
      refine ev_iload_n (pc := 13) 3 dX0_canBeDone_13 rfl ?_
      refine ev_callVI (pc := 14) (d := d) (As := [.int v3]) (st := []) cv_X0_beamAt rfl w_578 rfl (Nat.le_of_ble_eq_true rfl) (ok_X0_beamAt N (d) v3 I L) dX0_canBeDone_14 (fun x1 I2 L3 => ?_)
      refine ev_istore (pc := 17) (lv' := [(4, .int x1), (0, .ref 0), (1, .int v1), (2, .int v2), (3, .int v3)]) dX0_canBeDone_17 rfl rfl ?_
      refine ev_iload (pc := 19) 0 dX0_canBeDone_19 rfl ?_
      refine ev_if_lt (pc := 21) 57 (by decide) dX0_canBeDone_21 ?_ ?_
      · refine ev_iinc (pc := 57) (lv' := [(3, .int (v3 + 1)), (4, .int x1), (0, .ref 0), (1, .int v1), (2, .int v2)]) dX0_canBeDone_57 4 rfl rfl 1 k_iconst_1 rfl ?_
        refine ev_goto (pc := 60) 4 (by decide) dX0_canBeDone_60 ?_
        refine EvW.sub [2, 3, 4, 0] rfl ?_
        exact hr_4 v1 v2 (v3 + 1) I2 L3
      · refine ev_iload_n (pc := 24) 2 dX0_canBeDone_24 rfl ?_
        refine ev_iload (pc := 25) 0 dX0_canBeDone_25 rfl ?_
        refine ev_ishr (pc := 27) dX0_canBeDone_27 ?_
        refine ev_iconst (pc := 28) 1 k_iconst_1 dX0_canBeDone_28 ?_
        refine ev_iand (pc := 29) dX0_canBeDone_29 ?_
        refine ev_iconst (pc := 30) 1 k_iconst_1 dX0_canBeDone_30 ?_
        refine ev_icmp_ne (pc := 31) 57 (by decide) dX0_canBeDone_31 ?_ ?_
        · refine ev_iinc (pc := 57) (lv' := [(3, .int (v3 + 1)), (4, .int x1), (0, .ref 0), (1, .int v1), (2, .int v2)]) dX0_canBeDone_57 4 rfl rfl 1 k_iconst_1 rfl ?_
          refine ev_goto (pc := 60) 4 (by decide) dX0_canBeDone_60 ?_
          refine EvW.sub [2, 3, 4, 0] rfl ?_
          exact hr_4 v1 v2 (v3 + 1) I2 L3
        · refine ev_iload_n (pc := 34) 3 dX0_canBeDone_34 rfl ?_
          refine ev_aload_n (pc := 35) 1 dX0_canBeDone_35 rfl ?_
          refine gf_X0_11 (pc := 36) rfl dX0_canBeDone_36 ?_
          refine ev_iload (pc := 39) 0 dX0_canBeDone_39 rfl ?_
          refine ev_iald (pc := 41) kK_35 dX0_canBeDone_41 ?_
          refine ev_iadd (pc := 42) dX0_canBeDone_42 ?_
          refine ev_nmI (fun x4 => ?_)
          refine ev_istore_n (pc := 43) (lv' := [(2, .int x4), (4, .int x1), (0, .ref 0), (1, .int v1), (3, .int v3)]) dX0_canBeDone_43 rfl rfl rfl ?_
          refine ev_iload_n (pc := 44) 0 dX0_canBeDone_44 rfl ?_
          refine ev_aload_n (pc := 45) 2 dX0_canBeDone_45 rfl ?_
          refine gf_X0_15 (pc := 46) rfl dX0_canBeDone_46 ?_
          refine ev_iload (pc := 49) 1 dX0_canBeDone_49 rfl ?_
          refine ev_iald (pc := 51) kK_36 dX0_canBeDone_51 ?_
          refine ev_icmp_le (pc := 52) 57 (by decide) dX0_canBeDone_52 ?_ ?_
          · refine ev_iinc (pc := 57) (lv' := [(3, .int (v3 + 1)), (2, .int x4), (4, .int x1), (0, .ref 0), (1, .int v1)]) dX0_canBeDone_57 4 rfl rfl 1 k_iconst_1 rfl ?_
            refine ev_goto (pc := 60) 4 (by decide) dX0_canBeDone_60 ?_
            refine EvW.sub [3, 4, 1, 0] rfl ?_
            exact hr_4 v1 x4 (v3 + 1) I2 L3
          · refine ev_iconst (pc := 55) 0 k_iconst_0 dX0_canBeDone_55 ?_
            exact ev_zret (pc := 56) rfl dX0_canBeDone_56
def f_X0_canBeDone (N : Nat) (a1 : Int32) (I : PI) (L : PL) : RES := F_X0_canBeDone_4 N N a1 0 0 I L
set_option maxRecDepth 100000 in
theorem ok_X0_canBeDone (N d : Nat) (a1 : Int32) (I : PI) (L : PL) : MOk M_X0_canBeDone (d + 1) [.ref 0, .int a1] I L (f_X0_canBeDone N a1 I L) := by
  refine MOk.of (by decide +kernel) (Nat.le_of_ble_eq_true rfl) ?_
  show EvW _ _ 0 [(0, .ref 0), (1, .int a1)] [] I L _
  rw [f_X0_canBeDone]
  refine ev_iconst (pc := 0) 0 k_iconst_0 dX0_canBeDone_0 ?_
  refine ev_istore_n (pc := 1) (lv' := [(2, .int 0), (0, .ref 0), (1, .int a1)]) dX0_canBeDone_1 rfl rfl rfl ?_
  refine ev_iconst (pc := 2) 0 k_iconst_0 dX0_canBeDone_2 ?_
  refine ev_istore_n (pc := 3) (lv' := [(3, .int 0), (2, .int 0), (0, .ref 0), (1, .int a1)]) dX0_canBeDone_3 rfl rfl rfl ?_
  refine EvW.sub [2, 3, 1, 0] rfl ?_
  exact E_X0_canBeDone_4 N d N a1 0 0 I L
def F_X0_bestSet_4 (N : Nat) : Nat → Int32 → Int32 → PI → PL → RES
  | 0, _, _, _, _ => none
  | n + 1, v1, v2, I, L => (if ((1 : Int32) <<< ((I 0 4) &&& 31)) ≤ v2 then some (some (.int v1), I, L) else bI (f_X0_worthOf N v2 I L) (fun x1 I2 L3 => bI (f_X0_worthOf N v1 I2 L3) (fun x4 I5 L6 => (if x1 ≤ x4 then (F_X0_bestSet_4 N n) v1 (v2 + 1) I5 L6 else bI (f_X0_canBeDone N v2 I5 L6) (fun x7 I8 L9 => (if x7 = 0 then (F_X0_bestSet_4 N n) v1 (v2 + 1) I8 L9 else (F_X0_bestSet_4 N n) v2 (v2 + 1) I8 L9))))))
set_option maxRecDepth 100000 in
theorem E_X0_bestSet_4 (N d : Nat) : ∀ (n : Nat) (v1 : Int32) (v2 : Int32) (I : PI) (L : PL), EvW M_X0_bestSet (d + 2) 4 [(0, .ref 0), (1, .int v1), (2, .int v2)] [] I L (F_X0_bestSet_4 N n v1 v2 I L) := by
  intro n
  induction n with
  | zero =>
    intro v1 v2 I L
    exact EvW.none
  | succ n hr_4 =>
    intro v1 v2 I L
    rw [F_X0_bestSet_4]
    refine ev_iload_n (pc := 4) 2 dX0_bestSet_4 rfl ?_
    refine ev_iconst (pc := 5) 1 k_iconst_1 dX0_bestSet_5 ?_
    refine ev_aload_n (pc := 6) 0 dX0_bestSet_6 rfl ?_
    refine gf_X0_24 (pc := 7) rfl dX0_bestSet_7 ?_
    refine ev_ishl (pc := 10) dX0_bestSet_10 ?_
    refine ev_icmp_ge (pc := 11) 43 (by decide) dX0_bestSet_11 ?_ ?_
    · refine ev_iload_n (pc := 43) 1 dX0_bestSet_43 rfl ?_
      exact ev_iret (pc := 44) rfl dX0_bestSet_44
    · refine ev_aload_n (pc := 14) 0 dX0_bestSet_14 rfl ?_
      refine ev_iload_n (pc := 15) 2 dX0_bestSet_15 rfl ?_
      refine ev_callVI (pc := 16) (d := d + 1) (As := [.int v2]) (st := []) cv_X0_worthOf rfl w_590 rfl (Nat.le_of_ble_eq_true rfl) (ok_X0_worthOf N (d + 1) v2 I L) dX0_bestSet_16 (fun x1 I2 L3 => ?_)
      refine ev_aload_n (pc := 19) 0 dX0_bestSet_19 rfl ?_
      refine ev_iload_n (pc := 20) 1 dX0_bestSet_20 rfl ?_
      refine ev_callVI (pc := 21) (d := d + 1) (As := [.int v1]) (st := [.int x1]) cv_X0_worthOf rfl w_590 rfl (Nat.le_of_ble_eq_true rfl) (ok_X0_worthOf N (d + 1) v1 I2 L3) dX0_bestSet_21 (fun x4 I5 L6 => ?_)
      refine ev_icmp_le (pc := 24) 37 (by decide) dX0_bestSet_24 ?_ ?_
      · refine ev_iinc (pc := 37) (lv' := [(2, .int (v2 + 1)), (0, .ref 0), (1, .int v1)]) dX0_bestSet_37 2 rfl rfl 1 k_iconst_1 rfl ?_
        refine ev_goto (pc := 40) 4 (by decide) dX0_bestSet_40 ?_
        refine EvW.sub [1, 2, 0] rfl ?_
        exact hr_4 v1 (v2 + 1) I5 L6
      · refine ev_aload_n (pc := 27) 0 dX0_bestSet_27 rfl ?_
        refine ev_iload_n (pc := 28) 2 dX0_bestSet_28 rfl ?_
        refine ev_callVI (pc := 29) (d := d + 1) (As := [.int v2]) (st := []) cv_X0_canBeDone rfl w_594 rfl (Nat.le_of_ble_eq_true rfl) (ok_X0_canBeDone N (d) v2 I5 L6) dX0_bestSet_29 (fun x7 I8 L9 => ?_)
        refine ev_if_eq (pc := 32) 37 (by decide) dX0_bestSet_32 ?_ ?_
        · refine ev_iinc (pc := 37) (lv' := [(2, .int (v2 + 1)), (0, .ref 0), (1, .int v1)]) dX0_bestSet_37 2 rfl rfl 1 k_iconst_1 rfl ?_
          refine ev_goto (pc := 40) 4 (by decide) dX0_bestSet_40 ?_
          refine EvW.sub [1, 2, 0] rfl ?_
          exact hr_4 v1 (v2 + 1) I8 L9
        · refine ev_iload_n (pc := 35) 2 dX0_bestSet_35 rfl ?_
          refine ev_istore_n (pc := 36) (lv' := [(1, .int v2), (0, .ref 0), (2, .int v2)]) dX0_bestSet_36 rfl rfl rfl ?_
          refine ev_iinc (pc := 37) (lv' := [(2, .int (v2 + 1)), (1, .int v2), (0, .ref 0)]) dX0_bestSet_37 2 rfl rfl 1 k_iconst_1 rfl ?_
          refine ev_goto (pc := 40) 4 (by decide) dX0_bestSet_40 ?_
          refine EvW.sub [2, 1, 0] rfl ?_
          exact hr_4 v2 (v2 + 1) I8 L9
def f_X0_bestSet (N : Nat) (I : PI) (L : PL) : RES := F_X0_bestSet_4 N N 0 1 I L
set_option maxRecDepth 100000 in
theorem ok_X0_bestSet (N d : Nat) (I : PI) (L : PL) : MOk M_X0_bestSet (d + 2) [.ref 0] I L (f_X0_bestSet N I L) := by
  refine MOk.of (by decide +kernel) (Nat.le_of_ble_eq_true rfl) ?_
  show EvW _ _ 0 [(0, .ref 0)] [] I L _
  rw [f_X0_bestSet]
  refine ev_iconst (pc := 0) 0 k_iconst_0 dX0_bestSet_0 ?_
  refine ev_istore_n (pc := 1) (lv' := [(1, .int 0), (0, .ref 0)]) dX0_bestSet_1 rfl rfl rfl ?_
  refine ev_iconst (pc := 2) 1 k_iconst_1 dX0_bestSet_2 ?_
  refine ev_istore_n (pc := 3) (lv' := [(2, .int 1), (1, .int 0), (0, .ref 0)]) dX0_bestSet_3 rfl rfl rfl ?_
  refine EvW.sub [2, 1, 0] rfl ?_
  exact E_X0_bestSet_4 N d N 0 1 I L
def f_X11_plan (N : Nat) (a1 : Int32) (I : PI) (L : PL) : RES := (if (I 0 4) = 0 then some (some (.int (-1 : Int32)), I, L) else bI (f_X11_within N a1 0 1 I L) (fun x1 I2 L3 => (if x1 = 0 then some (some (.int (-1 : Int32)), I2, L3) else bI (f_X0_bestSet N I2 L3) (fun x4 I5 L6 => (if a1 = 0 then bI (f_X0_worthOf N x4 I5 L6) (fun x7 I8 L9 => some (some (.int x7), I8, L9)) else some (some (.int x4), I5, L6))))))
set_option maxRecDepth 100000 in
theorem ok_X11_plan (N d : Nat) (a1 : Int32) (I : PI) (L : PL) : MOk M_X11_plan (d + 3) [.ref 11, .int a1] I L (f_X11_plan N a1 I L) := by
  refine MOk.of (by decide +kernel) (Nat.le_of_ble_eq_true rfl) ?_
  show EvW _ _ 0 [(0, .ref 11), (1, .int a1)] [] I L _
  rw [f_X11_plan]
  refine ev_aload_n (pc := 0) 0 dX11_plan_0 rfl ?_
  refine gf_X11_96 (pc := 1) rfl dX11_plan_1 ?_
  refine gf_X11_302 (pc := 4) rfl dX11_plan_4 ?_
  refine ev_if_eq (pc := 7) 19 (by decide) dX11_plan_7 ?_ ?_
  · refine ev_iconst (pc := 19) (-1 : Int32) k_iconst_m1 dX11_plan_19 ?_
    exact ev_iret (pc := 20) rfl dX11_plan_20
  · refine ev_iload_n (pc := 10) 1 dX11_plan_10 rfl ?_
    refine ev_iconst (pc := 11) 0 k_iconst_0 dX11_plan_11 ?_
    refine ev_iconst (pc := 12) 1 k_iconst_1 dX11_plan_12 ?_
    refine ev_callSI (pc := 13) (d := d + 2) (As := [.int a1, .int 0, .int 1]) (st := []) cv_X11_within rfl w_18 rfl (Nat.le_of_ble_eq_true rfl) (ok_X11_within N (d + 2) a1 0 1 I L) dX11_plan_13 (fun x1 I2 L3 => ?_)
    refine ev_if_ne (pc := 16) 21 (by decide) dX11_plan_16 ?_ ?_
    · refine ev_aload_n (pc := 21) 0 dX11_plan_21 rfl ?_
      refine gf_X11_96 (pc := 22) rfl dX11_plan_22 ?_
      refine ev_callVI (pc := 25) (d := d + 2) (As := []) (st := []) cv_X0_bestSet rfl w_598 rfl (Nat.le_of_ble_eq_true rfl) (ok_X0_bestSet N (d) I2 L3) dX11_plan_25 (fun x4 I5 L6 => ?_)
      refine ev_istore_n (pc := 28) (lv' := [(2, .int x4), (0, .ref 11), (1, .int a1)]) dX11_plan_28 rfl rfl rfl ?_
      refine ev_iload_n (pc := 29) 2 dX11_plan_29 rfl ?_
      refine ev_if_ne (pc := 30) 44 (by decide) dX11_plan_30 ?_ ?_
      · refine ev_iload_n (pc := 44) 0 dX11_plan_44 rfl ?_
        exact ev_iret (pc := 45) rfl dX11_plan_45
      · refine ev_aload_n (pc := 33) 1 dX11_plan_33 rfl ?_
        refine gf_X11_96 (pc := 34) rfl dX11_plan_34 ?_
        refine ev_iload_n (pc := 37) 0 dX11_plan_37 rfl ?_
        refine ev_callVI (pc := 38) (d := d + 2) (As := [.int x4]) (st := []) cv_X0_worthOf rfl w_599 rfl (Nat.le_of_ble_eq_true rfl) (ok_X0_worthOf N (d + 2) x4 I5 L6) dX11_plan_38 (fun x7 I8 L9 => ?_)
        refine ev_goto (pc := 41) 45 (by decide) dX11_plan_41 ?_
        exact ev_iret (pc := 45) rfl dX11_plan_45
    · refine ev_iconst (pc := 19) (-1 : Int32) k_iconst_m1 dX11_plan_19 ?_
      exact ev_iret (pc := 20) rfl dX11_plan_20
def F_X3_isTurned_75 (N : Nat) (r_13 : Int32 → Int32 → Int32 → Int32 → Int32 → Int32 → Int32 → Int32 → PI → PL → RES) (v1 : Int32) (v2 : Int32) (v3 : Int32) (v4 : Int32) (v5 : Int32) (v6 : Int32) (v7 : Int32) (v8 : Int32) (v10 : Int32) (I : PI) (L : PL) : RES := (if v10 = v7 then r_13 v1 v2 v3 v4 v5 v6 v7 (v8 + 1) I L else gd (decide (0 &&& 1 = 0)) (some (some (.int 0), I, L)))
set_option maxRecDepth 100000 in
theorem E_X3_isTurned_75 (N d : Nat) (r_13 : Int32 → Int32 → Int32 → Int32 → Int32 → Int32 → Int32 → Int32 → PI → PL → RES) (hr_13 : ∀ (v1 : Int32) (v2 : Int32) (v3 : Int32) (v4 : Int32) (v5 : Int32) (v6 : Int32) (v7 : Int32) (v8 : Int32) (I : PI) (L : PL), EvW M_X3_isTurned (d + 2) 13 [(0, .ref 3), (1, .int v1), (2, .int v2), (3, .int v3), (4, .int v4), (5, .int v5), (6, .int v6), (7, .int v7), (8, .int v8)] [] I L (r_13 v1 v2 v3 v4 v5 v6 v7 v8 I L)) (v1 : Int32) (v2 : Int32) (v3 : Int32) (v4 : Int32) (v5 : Int32) (v6 : Int32) (v7 : Int32) (v8 : Int32) (v10 : Int32) (I : PI) (L : PL) : EvW M_X3_isTurned (d + 2) 75 [(0, .ref 3), (1, .int v1), (2, .int v2), (3, .int v3), (4, .int v4), (5, .int v5), (6, .int v6), (7, .int v7), (8, .int v8), (10, .int v10)] [] I L (F_X3_isTurned_75 N r_13 v1 v2 v3 v4 v5 v6 v7 v8 v10 I L) := by
  rw [F_X3_isTurned_75]
  refine ev_iload (pc := 75) 9 dX3_isTurned_75 rfl ?_
  refine ev_iload (pc := 77) 7 dX3_isTurned_77 rfl ?_
  refine ev_icmp_eq (pc := 79) 84 (by decide) dX3_isTurned_79 ?_ ?_
  · refine ev_iinc (pc := 84) (lv' := [(8, .int (v8 + 1)), (0, .ref 3), (1, .int v1), (2, .int v2), (3, .int v3), (4, .int v4), (5, .int v5), (6, .int v6), (7, .int v7), (10, .int v10)]) dX3_isTurned_84 8 rfl rfl 1 k_iconst_1 rfl ?_
    refine ev_goto (pc := 87) 13 (by decide) dX3_isTurned_87 ?_
    refine EvW.sub [1, 2, 3, 4, 5, 6, 7, 8, 0] rfl ?_
    exact hr_13 v1 v2 v3 v4 v5 v6 v7 (v8 + 1) I L
  · refine ev_iconst (pc := 82) 0 k_iconst_0 dX3_isTurned_82 ?_
    exact ev_zret (pc := 83) rfl dX3_isTurned_83
def F_X3_isTurned_38 (N : Nat) (r_13 : Int32 → Int32 → Int32 → Int32 → Int32 → Int32 → Int32 → Int32 → PI → PL → RES) (v1 : Int32) (v2 : Int32) (v3 : Int32) (v4 : Int32) (v5 : Int32) (v6 : Int32) (v7 : Int32) (v8 : Int32) (s0 : Int32) (s1 : Int32) (I : PI) (L : PL) : RES := bI (f_X3_turn N s1 s0 I L) (fun x4 I5 L6 => bI (f_X3_turn N v2 v8 I5 L6) (fun x7 I8 L9 => nmI (((x7 - (v4 * x4)) - (v5 * v8)) &&& 3) (fun x10 => (if v8 = 0 then F_X3_isTurned_75 N r_13 v1 v2 v3 v4 v5 v6 x10 v8 x10 I8 L9 else F_X3_isTurned_75 N r_13 v1 v2 v3 v4 v5 v6 v7 v8 x10 I8 L9))))
set_option maxRecDepth 100000 in
theorem E_X3_isTurned_38 (N d : Nat) (r_13 : Int32 → Int32 → Int32 → Int32 → Int32 → Int32 → Int32 → Int32 → PI → PL → RES) (hr_13 : ∀ (v1 : Int32) (v2 : Int32) (v3 : Int32) (v4 : Int32) (v5 : Int32) (v6 : Int32) (v7 : Int32) (v8 : Int32) (I : PI) (L : PL), EvW M_X3_isTurned (d + 2) 13 [(0, .ref 3), (1, .int v1), (2, .int v2), (3, .int v3), (4, .int v4), (5, .int v5), (6, .int v6), (7, .int v7), (8, .int v8)] [] I L (r_13 v1 v2 v3 v4 v5 v6 v7 v8 I L)) (v1 : Int32) (v2 : Int32) (v3 : Int32) (v4 : Int32) (v5 : Int32) (v6 : Int32) (v7 : Int32) (v8 : Int32) (s0 : Int32) (s1 : Int32) (I : PI) (L : PL) : EvW M_X3_isTurned (d + 2) 38 [(0, .ref 3), (1, .int v1), (2, .int v2), (3, .int v3), (4, .int v4), (5, .int v5), (6, .int v6), (7, .int v7), (8, .int v8)] [.int s0, .int s1, .ref 3] I L (F_X3_isTurned_38 N r_13 v1 v2 v3 v4 v5 v6 v7 v8 s0 s1 I L) := by
  rw [F_X3_isTurned_38]
  refine ev_callVI (pc := 38) (d := d + 1) (As := [.int s1, .int s0]) (st := []) cv_X3_turn rfl w_601 rfl (Nat.le_of_ble_eq_true rfl) (ok_X3_turn N (d) s1 s0 I L) dX3_isTurned_38 (fun x4 I5 L6 => ?_)
  refine ev_istore (pc := 41) (lv' := [(9, .int x4), (0, .ref 3), (1, .int v1), (2, .int v2), (3, .int v3), (4, .int v4), (5, .int v5), (6, .int v6), (7, .int v7), (8, .int v8)]) dX3_isTurned_41 rfl rfl ?_
  refine ev_aload_n (pc := 43) 1 dX3_isTurned_43 rfl ?_
  refine ev_iload_n (pc := 44) 3 dX3_isTurned_44 rfl ?_
  refine ev_iload (pc := 45) 9 dX3_isTurned_45 rfl ?_
  refine ev_callVI (pc := 47) (d := d + 1) (As := [.int v2, .int v8]) (st := []) cv_X3_turn rfl w_601 rfl (Nat.le_of_ble_eq_true rfl) (ok_X3_turn N (d) v2 v8 I5 L6) dX3_isTurned_47 (fun x7 I8 L9 => ?_)
  refine ev_iload (pc := 50) 5 dX3_isTurned_50 rfl ?_
  refine ev_iload (pc := 52) 0 dX3_isTurned_52 rfl ?_
  refine ev_imul (pc := 54) dX3_isTurned_54 ?_
  refine ev_isub (pc := 55) dX3_isTurned_55 ?_
  refine ev_iload (pc := 56) 6 dX3_isTurned_56 rfl ?_
  refine ev_iload (pc := 58) 9 dX3_isTurned_58 rfl ?_
  refine ev_imul (pc := 60) dX3_isTurned_60 ?_
  refine ev_isub (pc := 61) dX3_isTurned_61 ?_
  refine ev_iconst (pc := 62) 3 k_iconst_3 dX3_isTurned_62 ?_
  refine ev_iand (pc := 63) dX3_isTurned_63 ?_
  refine ev_nmI (fun x10 => ?_)
  refine ev_istore (pc := 64) (lv' := [(10, .int x10), (9, .int x4), (0, .ref 3), (1, .int v1), (2, .int v2), (3, .int v3), (4, .int v4), (5, .int v5), (6, .int v6), (7, .int v7), (8, .int v8)]) dX3_isTurned_64 rfl rfl ?_
  refine ev_iload (pc := 66) 10 dX3_isTurned_66 rfl ?_
  refine ev_if_ne (pc := 68) 75 (by decide) dX3_isTurned_68 ?_ ?_
  · refine EvW.sub [2, 3, 4, 5, 6, 7, 8, 9, 10, 0] rfl ?_
    exact E_X3_isTurned_75 N d r_13 hr_13 v1 v2 v3 v4 v5 v6 v7 v8 x10 I8 L9
  · refine ev_iload (pc := 71) 0 dX3_isTurned_71 rfl ?_
    refine ev_istore (pc := 73) (lv' := [(7, .int x10), (10, .int x10), (9, .int x4), (0, .ref 3), (1, .int v1), (2, .int v2), (3, .int v3), (4, .int v4), (5, .int v5), (6, .int v6), (8, .int v8)]) dX3_isTurned_73 rfl rfl ?_
    refine EvW.sub [3, 4, 5, 6, 7, 8, 9, 0, 10, 1] rfl ?_
    exact E_X3_isTurned_75 N d r_13 hr_13 v1 v2 v3 v4 v5 v6 x10 v8 x10 I8 L9
def F_X3_isTurned_13 (N : Nat) : Nat → Int32 → Int32 → Int32 → Int32 → Int32 → Int32 → Int32 → Int32 → PI → PL → RES
  | 0, _, _, _, _, _, _, _, _, _, _ => none
  | n + 1, v1, v2, v3, v4, v5, v6, v7, v8, I, L => (if v6 ≤ v8 then gd (decide (1 &&& 1 = 1)) (some (some (.int 1), I, L)) else (if v3 = 0 then F_X3_isTurned_38 N (F_X3_isTurned_13 N n) v1 v2 v3 v4 v5 v6 v7 v8 v8 v1 I L else F_X3_isTurned_38 N (F_X3_isTurned_13 N n) v1 v2 v3 v4 v5 v6 v7 v8 ((v6 - 1) - v8) v1 I L))
set_option maxRecDepth 100000 in
theorem E_X3_isTurned_13 (N d : Nat) : ∀ (n : Nat) (v1 : Int32) (v2 : Int32) (v3 : Int32) (v4 : Int32) (v5 : Int32) (v6 : Int32) (v7 : Int32) (v8 : Int32) (I : PI) (L : PL), EvW M_X3_isTurned (d + 2) 13 [(0, .ref 3), (1, .int v1), (2, .int v2), (3, .int v3), (4, .int v4), (5, .int v5), (6, .int v6), (7, .int v7), (8, .int v8)] [] I L (F_X3_isTurned_13 N n v1 v2 v3 v4 v5 v6 v7 v8 I L) := by
  intro n
  induction n with
  | zero =>
    intro v1 v2 v3 v4 v5 v6 v7 v8 I L
    exact EvW.none
  | succ n hr_13 =>
    intro v1 v2 v3 v4 v5 v6 v7 v8 I L
    rw [F_X3_isTurned_13]
    refine ev_iload (pc := 13) 8 dX3_isTurned_13 rfl ?_
    refine ev_iload (pc := 15) 6 dX3_isTurned_15 rfl ?_
    refine ev_icmp_ge (pc := 17) 90 (by decide) dX3_isTurned_17 ?_ ?_
    · refine ev_iconst (pc := 90) 1 k_iconst_1 dX3_isTurned_90 ?_
      exact ev_zret (pc := 91) rfl dX3_isTurned_91
    · refine ev_aload_n (pc := 20) 0 dX3_isTurned_20 rfl ?_
      refine ev_iload_n (pc := 21) 1 dX3_isTurned_21 rfl ?_
      refine ev_iload_n (pc := 22) 3 dX3_isTurned_22 rfl ?_
      refine ev_if_eq (pc := 23) 36 (by decide) dX3_isTurned_23 ?_ ?_
      · refine ev_iload (pc := 36) 8 dX3_isTurned_36 rfl ?_
        exact E_X3_isTurned_38 N d (F_X3_isTurned_13 N n) hr_13 v1 v2 v3 v4 v5 v6 v7 v8 v8 v1 I L
      · refine ev_iload (pc := 26) 6 dX3_isTurned_26 rfl ?_
        refine ev_iconst (pc := 28) 1 k_iconst_1 dX3_isTurned_28 ?_
        refine ev_isub (pc := 29) dX3_isTurned_29 ?_
        refine ev_iload (pc := 30) 8 dX3_isTurned_30 rfl ?_
        refine ev_isub (pc := 32) dX3_isTurned_32 ?_
        refine ev_goto (pc := 33) 38 (by decide) dX3_isTurned_33 ?_
        exact E_X3_isTurned_38 N d (F_X3_isTurned_13 N n) hr_13 v1 v2 v3 v4 v5 v6 v7 v8 ((v6 - 1) - v8) v1 I L
def f_X3_isTurned (N : Nat) (a1 : Int32) (a2 : Int32) (a3 : Int32) (a4 : Int32) (a5 : Int32) (I : PI) (L : PL) : RES := bI (f_X3_lengthOf N a1 I L) (fun x1 I2 L3 => F_X3_isTurned_13 N N a1 a2 a3 a4 a5 x1 0 0 I2 L3)
set_option maxRecDepth 100000 in
theorem ok_X3_isTurned (N d : Nat) (a1 : Int32) (a2 : Int32) (a3 : Int32) (a4 : Int32) (a5 : Int32) (I : PI) (L : PL) : MOk M_X3_isTurned (d + 2) [.ref 3, .int a1, .int a2, .int a3, .int a4, .int a5] I L (f_X3_isTurned N a1 a2 a3 a4 a5 I L) := by
  refine MOk.of (by decide +kernel) (Nat.le_of_ble_eq_true rfl) ?_
  show EvW _ _ 0 [(0, .ref 3), (1, .int a1), (2, .int a2), (3, .int a3), (4, .int a4), (5, .int a5)] [] I L _
  rw [f_X3_isTurned]
  refine ev_aload_n (pc := 0) 0 dX3_isTurned_0 rfl ?_
  refine ev_iload_n (pc := 1) 1 dX3_isTurned_1 rfl ?_
  refine ev_callVI (pc := 2) (d := d + 1) (As := [.int a1]) (st := []) cv_X3_lengthOf rfl w_600 rfl (Nat.le_of_ble_eq_true rfl) (ok_X3_lengthOf N (d + 1) a1 I L) dX3_isTurned_2 (fun x1 I2 L3 => ?_)
  refine ev_istore (pc := 5) (lv' := [(6, .int x1), (0, .ref 3), (1, .int a1), (2, .int a2), (3, .int a3), (4, .int a4), (5, .int a5)]) dX3_isTurned_5 rfl rfl ?_
  refine ev_iconst (pc := 7) 0 k_iconst_0 dX3_isTurned_7 ?_
  refine ev_istore (pc := 8) (lv' := [(7, .int 0), (6, .int x1), (0, .ref 3), (1, .int a1), (2, .int a2), (3, .int a3), (4, .int a4), (5, .int a5)]) dX3_isTurned_8 rfl rfl ?_
  refine ev_iconst (pc := 10) 0 k_iconst_0 dX3_isTurned_10 ?_
  refine ev_istore (pc := 11) (lv' := [(8, .int 0), (7, .int 0), (6, .int x1), (0, .ref 3), (1, .int a1), (2, .int a2), (3, .int a3), (4, .int a4), (5, .int a5)]) dX3_isTurned_11 rfl rfl ?_
  refine EvW.sub [3, 4, 5, 6, 7, 8, 2, 1, 0] rfl ?_
  exact E_X3_isTurned_13 N d N a1 a2 a3 a4 a5 x1 0 0 I2 L3
def F_X3_areLike_17 (N : Nat) : Nat → Int32 → Int32 → Int32 → PI → PL → RES
  | 0, _, _, _, _, _ => none
  | n + 1, v1, v2, v3, I, L => (if 4 ≤ v3 then gd (decide (0 &&& 1 = 0)) (some (some (.int 0), I, L)) else bI (f_X3_isTurned N v1 v2 0 1 v3 I L) (fun x7 I8 L9 => (if x7 = 0 then bI (f_X3_isTurned N v1 v2 0 (-1 : Int32) v3 I8 L9) (fun x10 I11 L12 => (if x10 = 0 then bI (f_X3_isTurned N v1 v2 1 1 v3 I11 L12) (fun x13 I14 L15 => (if x13 = 0 then bI (f_X3_isTurned N v1 v2 1 (-1 : Int32) v3 I14 L15) (fun x16 I17 L18 => (if x16 = 0 then (F_X3_areLike_17 N n) v1 v2 (v3 + 1) I17 L18 else gd (decide (1 &&& 1 = 1)) (some (some (.int 1), I17, L18)))) else gd (decide (1 &&& 1 = 1)) (some (some (.int 1), I14, L15)))) else gd (decide (1 &&& 1 = 1)) (some (some (.int 1), I11, L12)))) else gd (decide (1 &&& 1 = 1)) (some (some (.int 1), I8, L9)))))
set_option maxRecDepth 100000 in
theorem E_X3_areLike_17 (N d : Nat) : ∀ (n : Nat) (v1 : Int32) (v2 : Int32) (v3 : Int32) (I : PI) (L : PL), EvW M_X3_areLike (d + 3) 17 [(0, .ref 3), (1, .int v1), (2, .int v2), (3, .int v3)] [] I L (F_X3_areLike_17 N n v1 v2 v3 I L) := by
  intro n
  induction n with
  | zero =>
    intro v1 v2 v3 I L
    exact EvW.none
  | succ n hr_17 =>
    intro v1 v2 v3 I L
    rw [F_X3_areLike_17]
    refine ev_iload_n (pc := 17) 3 dX3_areLike_17 rfl ?_
    refine ev_iconst (pc := 18) 4 k_iconst_4 dX3_areLike_18 ?_
    refine ev_icmp_ge (pc := 19) 78 (by decide) dX3_areLike_19 ?_ ?_
    · refine ev_iconst (pc := 78) 0 k_iconst_0 dX3_areLike_78 ?_
      exact ev_zret (pc := 79) rfl dX3_areLike_79
    · refine ev_aload_n (pc := 22) 0 dX3_areLike_22 rfl ?_
      refine ev_iload_n (pc := 23) 1 dX3_areLike_23 rfl ?_
      refine ev_iload_n (pc := 24) 2 dX3_areLike_24 rfl ?_
      refine ev_iconst (pc := 25) 0 k_iconst_0 dX3_areLike_25 ?_
      refine ev_iconst (pc := 26) 1 k_iconst_1 dX3_areLike_26 ?_
      refine ev_iload_n (pc := 27) 3 dX3_areLike_27 rfl ?_
      refine ev_callVI (pc := 28) (d := d + 2) (As := [.int v1, .int v2, .int 0, .int 1, .int v3]) (st := []) cv_X3_isTurned rfl w_605 rfl (Nat.le_of_ble_eq_true rfl) (ok_X3_isTurned N (d) v1 v2 0 1 v3 I L) dX3_areLike_28 (fun x7 I8 L9 => ?_)
      refine ev_if_ne (pc := 31) 70 (by decide) dX3_areLike_31 ?_ ?_
      · refine ev_iconst (pc := 70) 1 k_iconst_1 dX3_areLike_70 ?_
        exact ev_zret (pc := 71) rfl dX3_areLike_71
      · refine ev_aload_n (pc := 34) 0 dX3_areLike_34 rfl ?_
        refine ev_iload_n (pc := 35) 1 dX3_areLike_35 rfl ?_
        refine ev_iload_n (pc := 36) 2 dX3_areLike_36 rfl ?_
        refine ev_iconst (pc := 37) 0 k_iconst_0 dX3_areLike_37 ?_
        refine ev_iconst (pc := 38) (-1 : Int32) k_iconst_m1 dX3_areLike_38 ?_
        refine ev_iload_n (pc := 39) 3 dX3_areLike_39 rfl ?_
        refine ev_callVI (pc := 40) (d := d + 2) (As := [.int v1, .int v2, .int 0, .int (-1 : Int32), .int v3]) (st := []) cv_X3_isTurned rfl w_605 rfl (Nat.le_of_ble_eq_true rfl) (ok_X3_isTurned N (d) v1 v2 0 (-1 : Int32) v3 I8 L9) dX3_areLike_40 (fun x10 I11 L12 => ?_)
        refine ev_if_ne (pc := 43) 70 (by decide) dX3_areLike_43 ?_ ?_
        · refine ev_iconst (pc := 70) 1 k_iconst_1 dX3_areLike_70 ?_
          exact ev_zret (pc := 71) rfl dX3_areLike_71
        · refine ev_aload_n (pc := 46) 0 dX3_areLike_46 rfl ?_
          refine ev_iload_n (pc := 47) 1 dX3_areLike_47 rfl ?_
          refine ev_iload_n (pc := 48) 2 dX3_areLike_48 rfl ?_
          refine ev_iconst (pc := 49) 1 k_iconst_1 dX3_areLike_49 ?_
          refine ev_iconst (pc := 50) 1 k_iconst_1 dX3_areLike_50 ?_
          refine ev_iload_n (pc := 51) 3 dX3_areLike_51 rfl ?_
          refine ev_callVI (pc := 52) (d := d + 2) (As := [.int v1, .int v2, .int 1, .int 1, .int v3]) (st := []) cv_X3_isTurned rfl w_605 rfl (Nat.le_of_ble_eq_true rfl) (ok_X3_isTurned N (d) v1 v2 1 1 v3 I11 L12) dX3_areLike_52 (fun x13 I14 L15 => ?_)
          refine ev_if_ne (pc := 55) 70 (by decide) dX3_areLike_55 ?_ ?_
          · refine ev_iconst (pc := 70) 1 k_iconst_1 dX3_areLike_70 ?_
            exact ev_zret (pc := 71) rfl dX3_areLike_71
          · refine ev_aload_n (pc := 58) 0 dX3_areLike_58 rfl ?_
            refine ev_iload_n (pc := 59) 1 dX3_areLike_59 rfl ?_
            refine ev_iload_n (pc := 60) 2 dX3_areLike_60 rfl ?_
            refine ev_iconst (pc := 61) 1 k_iconst_1 dX3_areLike_61 ?_
            refine ev_iconst (pc := 62) (-1 : Int32) k_iconst_m1 dX3_areLike_62 ?_
            refine ev_iload_n (pc := 63) 3 dX3_areLike_63 rfl ?_
            refine ev_callVI (pc := 64) (d := d + 2) (As := [.int v1, .int v2, .int 1, .int (-1 : Int32), .int v3]) (st := []) cv_X3_isTurned rfl w_605 rfl (Nat.le_of_ble_eq_true rfl) (ok_X3_isTurned N (d) v1 v2 1 (-1 : Int32) v3 I14 L15) dX3_areLike_64 (fun x16 I17 L18 => ?_)
            refine ev_if_eq (pc := 67) 72 (by decide) dX3_areLike_67 ?_ ?_
            · refine ev_iinc (pc := 72) (lv' := [(3, .int (v3 + 1)), (0, .ref 3), (1, .int v1), (2, .int v2)]) dX3_areLike_72 3 rfl rfl 1 k_iconst_1 rfl ?_
              refine ev_goto (pc := 75) 17 (by decide) dX3_areLike_75 ?_
              refine EvW.sub [1, 2, 3, 0] rfl ?_
              exact hr_17 v1 v2 (v3 + 1) I17 L18
            · refine ev_iconst (pc := 70) 1 k_iconst_1 dX3_areLike_70 ?_
              exact ev_zret (pc := 71) rfl dX3_areLike_71
def f_X3_areLike (N : Nat) (a1 : Int32) (a2 : Int32) (I : PI) (L : PL) : RES := bI (f_X3_lengthOf N a1 I L) (fun x1 I2 L3 => bI (f_X3_lengthOf N a2 I2 L3) (fun x4 I5 L6 => (if x1 = x4 then F_X3_areLike_17 N N a1 a2 0 I5 L6 else gd (decide (0 &&& 1 = 0)) (some (some (.int 0), I5, L6)))))
set_option maxRecDepth 100000 in
theorem ok_X3_areLike (N d : Nat) (a1 : Int32) (a2 : Int32) (I : PI) (L : PL) : MOk M_X3_areLike (d + 3) [.ref 3, .int a1, .int a2] I L (f_X3_areLike N a1 a2 I L) := by
  refine MOk.of (by decide +kernel) (Nat.le_of_ble_eq_true rfl) ?_
  show EvW _ _ 0 [(0, .ref 3), (1, .int a1), (2, .int a2)] [] I L _
  rw [f_X3_areLike]
  refine ev_aload_n (pc := 0) 0 dX3_areLike_0 rfl ?_
  refine ev_iload_n (pc := 1) 1 dX3_areLike_1 rfl ?_
  refine ev_callVI (pc := 2) (d := d + 2) (As := [.int a1]) (st := []) cv_X3_lengthOf rfl w_600 rfl (Nat.le_of_ble_eq_true rfl) (ok_X3_lengthOf N (d + 2) a1 I L) dX3_areLike_2 (fun x1 I2 L3 => ?_)
  refine ev_aload_n (pc := 5) 0 dX3_areLike_5 rfl ?_
  refine ev_iload_n (pc := 6) 2 dX3_areLike_6 rfl ?_
  refine ev_callVI (pc := 7) (d := d + 2) (As := [.int a2]) (st := [.int x1]) cv_X3_lengthOf rfl w_600 rfl (Nat.le_of_ble_eq_true rfl) (ok_X3_lengthOf N (d + 2) a2 I2 L3) dX3_areLike_7 (fun x4 I5 L6 => ?_)
  refine ev_icmp_eq (pc := 10) 15 (by decide) dX3_areLike_10 ?_ ?_
  · refine ev_iconst (pc := 15) 0 k_iconst_0 dX3_areLike_15 ?_
    refine ev_istore_n (pc := 16) (lv' := [(3, .int 0), (0, .ref 3), (1, .int a1), (2, .int a2)]) dX3_areLike_16 rfl rfl rfl ?_
    refine EvW.sub [1, 2, 3, 0] rfl ?_
    exact E_X3_areLike_17 N d N a1 a2 0 I5 L6
  · refine ev_iconst (pc := 13) 0 k_iconst_0 dX3_areLike_13 ?_
    exact ev_zret (pc := 14) rfl dX3_areLike_14
def f_X11_like (N : Nat) (a1 : Int32) (a2 : Int32) (I : PI) (L : PL) : RES := bI (f_X3_has N a1 I L) (fun x1 I2 L3 => (if x1 = 0 then some (some (.int (-1 : Int32)), I2, L3) else bI (f_X3_has N a2 I2 L3) (fun x4 I5 L6 => (if x4 = 0 then some (some (.int (-1 : Int32)), I5, L6) else bI (f_X3_areLike N a1 a2 I5 L6) (fun x7 I8 L9 => (if x7 = 0 then some (some (.int 0), I8, L9) else some (some (.int 1), I8, L9)))))))
set_option maxRecDepth 100000 in
theorem ok_X11_like (N d : Nat) (a1 : Int32) (a2 : Int32) (I : PI) (L : PL) : MOk M_X11_like (d + 4) [.ref 11, .int a1, .int a2] I L (f_X11_like N a1 a2 I L) := by
  refine MOk.of (by decide +kernel) (Nat.le_of_ble_eq_true rfl) ?_
  show EvW _ _ 0 [(0, .ref 11), (1, .int a1), (2, .int a2)] [] I L _
  rw [f_X11_like]
  refine ev_aload_n (pc := 0) 0 dX11_like_0 rfl ?_
  refine gf_X11_23 (pc := 1) rfl dX11_like_1 ?_
  refine ev_iload_n (pc := 4) 1 dX11_like_4 rfl ?_
  refine ev_callVI (pc := 5) (d := d + 3) (As := [.int a1]) (st := []) cv_X3_has rfl w_266 rfl (Nat.le_of_ble_eq_true rfl) (ok_X3_has N (d + 3) a1 I L) dX11_like_5 (fun x1 I2 L3 => ?_)
  refine ev_if_eq (pc := 8) 22 (by decide) dX11_like_8 ?_ ?_
  · refine ev_iconst (pc := 22) (-1 : Int32) k_iconst_m1 dX11_like_22 ?_
    exact ev_iret (pc := 23) rfl dX11_like_23
  · refine ev_aload_n (pc := 11) 0 dX11_like_11 rfl ?_
    refine gf_X11_23 (pc := 12) rfl dX11_like_12 ?_
    refine ev_iload_n (pc := 15) 2 dX11_like_15 rfl ?_
    refine ev_callVI (pc := 16) (d := d + 3) (As := [.int a2]) (st := []) cv_X3_has rfl w_266 rfl (Nat.le_of_ble_eq_true rfl) (ok_X3_has N (d + 3) a2 I2 L3) dX11_like_16 (fun x4 I5 L6 => ?_)
    refine ev_if_ne (pc := 19) 24 (by decide) dX11_like_19 ?_ ?_
    · refine ev_aload_n (pc := 24) 0 dX11_like_24 rfl ?_
      refine gf_X11_23 (pc := 25) rfl dX11_like_25 ?_
      refine ev_iload_n (pc := 28) 1 dX11_like_28 rfl ?_
      refine ev_iload_n (pc := 29) 2 dX11_like_29 rfl ?_
      refine ev_callVI (pc := 30) (d := d + 3) (As := [.int a1, .int a2]) (st := []) cv_X3_areLike rfl w_609 rfl (Nat.le_of_ble_eq_true rfl) (ok_X3_areLike N (d) a1 a2 I5 L6) dX11_like_30 (fun x7 I8 L9 => ?_)
      refine ev_if_eq (pc := 33) 40 (by decide) dX11_like_33 ?_ ?_
      · refine ev_iconst (pc := 40) 0 k_iconst_0 dX11_like_40 ?_
        exact ev_iret (pc := 41) rfl dX11_like_41
      · refine ev_iconst (pc := 36) 1 k_iconst_1 dX11_like_36 ?_
        refine ev_goto (pc := 37) 41 (by decide) dX11_like_37 ?_
        exact ev_iret (pc := 41) rfl dX11_like_41
    · refine ev_iconst (pc := 22) (-1 : Int32) k_iconst_m1 dX11_like_22 ?_
      exact ev_iret (pc := 23) rfl dX11_like_23
def f_X4_powerTogether (N : Nat) (a1 : Int32) (a2 : Int32) (a3 : Int32) (I : PI) (L : PL) : RES := bI (f_X4_powerOf N a1 a1 a3 0 I L) (fun x1 I2 L3 => bV (f_X4_addMeeting N a2 a2 a3 0 I2 L3) (fun I5 L6 => bI (f_X4_power N I5 L6) (fun x7 I8 L9 => some (some (.int x7), I8, L9))))
set_option maxRecDepth 100000 in
theorem ok_X4_powerTogether (N d : Nat) (a1 : Int32) (a2 : Int32) (a3 : Int32) (I : PI) (L : PL) : MOk M_X4_powerTogether (d + 3) [.ref 4, .int a1, .int a2, .int a3] I L (f_X4_powerTogether N a1 a2 a3 I L) := by
  refine MOk.of (by decide +kernel) (Nat.le_of_ble_eq_true rfl) ?_
  show EvW _ _ 0 [(0, .ref 4), (1, .int a1), (2, .int a2), (3, .int a3)] [] I L _
  rw [f_X4_powerTogether]
  refine ev_aload_n (pc := 0) 0 dX4_powerTogether_0 rfl ?_
  refine ev_iload_n (pc := 1) 1 dX4_powerTogether_1 rfl ?_
  refine ev_iload_n (pc := 2) 1 dX4_powerTogether_2 rfl ?_
  refine ev_iload_n (pc := 3) 3 dX4_powerTogether_3 rfl ?_
  refine ev_iconst (pc := 4) 0 k_iconst_0 dX4_powerTogether_4 ?_
  refine ev_callVI (pc := 5) (d := d + 2) (As := [.int a1, .int a1, .int a3, .int 0]) (st := []) cv_X4_powerOf rfl w_230 rfl (Nat.le_of_ble_eq_true rfl) (ok_X4_powerOf N (d) a1 a1 a3 0 I L) dX4_powerTogether_5 (fun x1 I2 L3 => ?_)
  refine ev_pop (pc := 8) rfl dX4_powerTogether_8 ?_
  refine ev_aload_n (pc := 9) 0 dX4_powerTogether_9 rfl ?_
  refine ev_iload_n (pc := 10) 2 dX4_powerTogether_10 rfl ?_
  refine ev_iload_n (pc := 11) 2 dX4_powerTogether_11 rfl ?_
  refine ev_iload_n (pc := 12) 3 dX4_powerTogether_12 rfl ?_
  refine ev_iconst (pc := 13) 0 k_iconst_0 dX4_powerTogether_13 ?_
  refine ev_callVV (pc := 14) (d := d + 2) (As := [.int a2, .int a2, .int a3, .int 0]) (st := []) cv_X4_addMeeting rfl w_222 rfl (Nat.le_of_ble_eq_true rfl) (ok_X4_addMeeting N (d + 1) a2 a2 a3 0 I2 L3) dX4_powerTogether_14 (fun I5 L6 => ?_)
  refine ev_aload_n (pc := 17) 0 dX4_powerTogether_17 rfl ?_
  refine ev_callVI (pc := 18) (d := d + 2) (As := []) (st := []) cv_X4_power rfl w_226 rfl (Nat.le_of_ble_eq_true rfl) (ok_X4_power N (d + 2) I5 L6) dX4_powerTogether_18 (fun x7 I8 L9 => ?_)
  exact ev_iret (pc := 21) rfl dX4_powerTogether_21
def F_X4_sideTogether_11 (N : Nat) : Nat → Int32 → Int32 → Int32 → Int32 → PI → PL → RES
  | 0, _, _, _, _, _, _ => none
  | n + 1, v1, v2, v3, v4, I, L => bI (f_X3_lengthOf N v1 I L) (fun x4 I5 L6 => (if x4 ≤ v4 then some (some (.int v3), I5, L6) else bI (f_X4_powerTogether N v1 v2 v4 I5 L6) (fun x7 I8 L9 => nmI (jmax v3 x7) (fun x10 => (F_X4_sideTogether_11 N n) v1 v2 x10 (v4 + 1) I8 L9))))
set_option maxRecDepth 100000 in
theorem E_X4_sideTogether_11 (N d : Nat) : ∀ (n : Nat) (v1 : Int32) (v2 : Int32) (v3 : Int32) (v4 : Int32) (I : PI) (L : PL), EvW M_X4_sideTogether (d + 7) 11 [(0, .ref 4), (1, .int v1), (2, .int v2), (3, .int v3), (4, .int v4)] [] I L (F_X4_sideTogether_11 N n v1 v2 v3 v4 I L) := by
  intro n
  induction n with
  | zero =>
    intro v1 v2 v3 v4 I L
    exact EvW.none
  | succ n hr_11 =>
    intro v1 v2 v3 v4 I L
    rw [F_X4_sideTogether_11]
    refine ev_iload (pc := 11) 4 dX4_sideTogether_11 rfl ?_
    refine ev_aload_n (pc := 13) 0 dX4_sideTogether_13 rfl ?_
    refine gf_X4_9 (pc := 14) rfl dX4_sideTogether_14 ?_
    refine ev_iload_n (pc := 17) 1 dX4_sideTogether_17 rfl ?_
    refine ev_callVI (pc := 18) (d := d + 6) (As := [.int v1]) (st := [.int v4]) cv_X3_lengthOf rfl w_162 rfl (Nat.le_of_ble_eq_true rfl) (ok_X3_lengthOf N (d + 6) v1 I L) dX4_sideTogether_18 (fun x4 I5 L6 => ?_)
    refine ev_icmp_ge (pc := 21) 43 (by decide) dX4_sideTogether_21 ?_ ?_
    · refine ev_iload_n (pc := 43) 3 dX4_sideTogether_43 rfl ?_
      exact ev_iret (pc := 44) rfl dX4_sideTogether_44
    · refine ev_iload_n (pc := 24) 3 dX4_sideTogether_24 rfl ?_
      refine ev_aload_n (pc := 25) 0 dX4_sideTogether_25 rfl ?_
      refine ev_iload_n (pc := 26) 1 dX4_sideTogether_26 rfl ?_
      refine ev_iload_n (pc := 27) 2 dX4_sideTogether_27 rfl ?_
      refine ev_iload (pc := 28) 4 dX4_sideTogether_28 rfl ?_
      refine ev_callVI (pc := 30) (d := d + 6) (As := [.int v1, .int v2, .int v4]) (st := [.int v3]) cv_X4_powerTogether rfl w_613 rfl (Nat.le_of_ble_eq_true rfl) (ok_X4_powerTogether N (d + 3) v1 v2 v4 I5 L6) dX4_sideTogether_30 (fun x7 I8 L9 => ?_)
      refine ev_mmax (pc := 33) (d := d + 6) w_217 w_130 w_131 w_132 (Nat.le_of_ble_eq_true rfl) dX4_sideTogether_33 ?_
      refine ev_nmI (fun x10 => ?_)
      refine ev_istore_n (pc := 36) (lv' := [(3, .int x10), (0, .ref 4), (1, .int v1), (2, .int v2), (4, .int v4)]) dX4_sideTogether_36 rfl rfl rfl ?_
      refine ev_iinc (pc := 37) (lv' := [(4, .int (v4 + 1)), (3, .int x10), (0, .ref 4), (1, .int v1), (2, .int v2)]) dX4_sideTogether_37 4 rfl rfl 1 k_iconst_1 rfl ?_
      refine ev_goto (pc := 40) 11 (by decide) dX4_sideTogether_40 ?_
      refine EvW.sub [2, 3, 4, 1, 0] rfl ?_
      exact hr_11 v1 v2 x10 (v4 + 1) I8 L9
def f_X4_sideTogether (N : Nat) (a1 : Int32) (a2 : Int32) (I : PI) (L : PL) : RES := bV (f_X4_weigh N a1 (-1 : Int32) I L) (fun I2 L3 => F_X4_sideTogether_11 N N a1 a2 0 1 I2 L3)
set_option maxRecDepth 100000 in
theorem ok_X4_sideTogether (N d : Nat) (a1 : Int32) (a2 : Int32) (I : PI) (L : PL) : MOk M_X4_sideTogether (d + 7) [.ref 4, .int a1, .int a2] I L (f_X4_sideTogether N a1 a2 I L) := by
  refine MOk.of (by decide +kernel) (Nat.le_of_ble_eq_true rfl) ?_
  show EvW _ _ 0 [(0, .ref 4), (1, .int a1), (2, .int a2)] [] I L _
  rw [f_X4_sideTogether]
  refine ev_iconst (pc := 0) 0 k_iconst_0 dX4_sideTogether_0 ?_
  refine ev_istore_n (pc := 1) (lv' := [(3, .int 0), (0, .ref 4), (1, .int a1), (2, .int a2)]) dX4_sideTogether_1 rfl rfl rfl ?_
  refine ev_aload_n (pc := 2) 1 dX4_sideTogether_2 rfl ?_
  refine ev_iload_n (pc := 3) 2 dX4_sideTogether_3 rfl ?_
  refine ev_iconst (pc := 4) (-1 : Int32) k_iconst_m1 dX4_sideTogether_4 ?_
  refine ev_callVV (pc := 5) (d := d + 6) (As := [.int a1, .int (-1 : Int32)]) (st := []) cv_X4_weigh rfl w_214 rfl (Nat.le_of_ble_eq_true rfl) (ok_X4_weigh N (d) a1 (-1 : Int32) I L) dX4_sideTogether_5 (fun I2 L3 => ?_)
  refine ev_iconst (pc := 8) 1 k_iconst_1 dX4_sideTogether_8 ?_
  refine ev_istore (pc := 9) (lv' := [(4, .int 1), (3, .int 0), (0, .ref 4), (1, .int a1), (2, .int a2)]) dX4_sideTogether_9 rfl rfl ?_
  refine EvW.sub [2, 3, 4, 1, 0] rfl ?_
  exact E_X4_sideTogether_11 N d N a1 a2 0 1 I2 L3
def f_X11_partners (N : Nat) (a1 : Int32) (a2 : Int32) (I : PI) (L : PL) : RES := bI (f_X3_has N a1 I L) (fun x1 I2 L3 => (if x1 = 0 then some (some (.int (-1 : Int32)), I2, L3) else bI (f_X3_has N a2 I2 L3) (fun x4 I5 L6 => (if x4 = 0 then some (some (.int (-1 : Int32)), I5, L6) else bI (f_X3_lengthOf N a1 I5 L6) (fun x7 I8 L9 => bI (f_X3_lengthOf N a2 I8 L9) (fun x10 I11 L12 => (if x7 = x10 then bI (f_X4_sideTogether N a1 a2 I11 L12) (fun x13 I14 L15 => some (some (.int x13), I14, L15)) else some (some (.int (-1 : Int32)), I11, L12))))))))
set_option maxRecDepth 100000 in
theorem ok_X11_partners (N d : Nat) (a1 : Int32) (a2 : Int32) (I : PI) (L : PL) : MOk M_X11_partners (d + 8) [.ref 11, .int a1, .int a2] I L (f_X11_partners N a1 a2 I L) := by
  refine MOk.of (by decide +kernel) (Nat.le_of_ble_eq_true rfl) ?_
  show EvW _ _ 0 [(0, .ref 11), (1, .int a1), (2, .int a2)] [] I L _
  rw [f_X11_partners]
  refine ev_aload_n (pc := 0) 0 dX11_partners_0 rfl ?_
  refine gf_X11_23 (pc := 1) rfl dX11_partners_1 ?_
  refine ev_iload_n (pc := 4) 1 dX11_partners_4 rfl ?_
  refine ev_callVI (pc := 5) (d := d + 7) (As := [.int a1]) (st := []) cv_X3_has rfl w_266 rfl (Nat.le_of_ble_eq_true rfl) (ok_X3_has N (d + 7) a1 I L) dX11_partners_5 (fun x1 I2 L3 => ?_)
  refine ev_if_eq (pc := 8) 41 (by decide) dX11_partners_8 ?_ ?_
  · refine ev_iconst (pc := 41) (-1 : Int32) k_iconst_m1 dX11_partners_41 ?_
    exact ev_iret (pc := 42) rfl dX11_partners_42
  · refine ev_aload_n (pc := 11) 0 dX11_partners_11 rfl ?_
    refine gf_X11_23 (pc := 12) rfl dX11_partners_12 ?_
    refine ev_iload_n (pc := 15) 2 dX11_partners_15 rfl ?_
    refine ev_callVI (pc := 16) (d := d + 7) (As := [.int a2]) (st := []) cv_X3_has rfl w_266 rfl (Nat.le_of_ble_eq_true rfl) (ok_X3_has N (d + 7) a2 I2 L3) dX11_partners_16 (fun x4 I5 L6 => ?_)
    refine ev_if_eq (pc := 19) 41 (by decide) dX11_partners_19 ?_ ?_
    · refine ev_iconst (pc := 41) (-1 : Int32) k_iconst_m1 dX11_partners_41 ?_
      exact ev_iret (pc := 42) rfl dX11_partners_42
    · refine ev_aload_n (pc := 22) 0 dX11_partners_22 rfl ?_
      refine gf_X11_23 (pc := 23) rfl dX11_partners_23 ?_
      refine ev_iload_n (pc := 26) 1 dX11_partners_26 rfl ?_
      refine ev_callVI (pc := 27) (d := d + 7) (As := [.int a1]) (st := []) cv_X3_lengthOf rfl w_272 rfl (Nat.le_of_ble_eq_true rfl) (ok_X3_lengthOf N (d + 7) a1 I5 L6) dX11_partners_27 (fun x7 I8 L9 => ?_)
      refine ev_aload_n (pc := 30) 0 dX11_partners_30 rfl ?_
      refine gf_X11_23 (pc := 31) rfl dX11_partners_31 ?_
      refine ev_iload_n (pc := 34) 2 dX11_partners_34 rfl ?_
      refine ev_callVI (pc := 35) (d := d + 7) (As := [.int a2]) (st := [.int x7]) cv_X3_lengthOf rfl w_272 rfl (Nat.le_of_ble_eq_true rfl) (ok_X3_lengthOf N (d + 7) a2 I8 L9) dX11_partners_35 (fun x10 I11 L12 => ?_)
      refine ev_icmp_eq (pc := 38) 43 (by decide) dX11_partners_38 ?_ ?_
      · refine ev_aload_n (pc := 43) 0 dX11_partners_43 rfl ?_
        refine gf_X11_48 (pc := 44) rfl dX11_partners_44 ?_
        refine ev_iload_n (pc := 47) 1 dX11_partners_47 rfl ?_
        refine ev_iload_n (pc := 48) 2 dX11_partners_48 rfl ?_
        refine ev_callVI (pc := 49) (d := d + 7) (As := [.int a1, .int a2]) (st := []) cv_X4_sideTogether rfl w_617 rfl (Nat.le_of_ble_eq_true rfl) (ok_X4_sideTogether N (d) a1 a2 I11 L12) dX11_partners_49 (fun x13 I14 L15 => ?_)
        exact ev_iret (pc := 52) rfl dX11_partners_52
      · refine ev_iconst (pc := 41) (-1 : Int32) k_iconst_m1 dX11_partners_41 ?_
        exact ev_iret (pc := 42) rfl dX11_partners_42
def f_X11_cancel (N : Nat) (a1 : Int32) (a2 : Int32) (I : PI) (L : PL) : RES := bI (f_X11_within N a1 1 8 I L) (fun x1 I2 L3 => (if x1 = 0 then some (some (.int (-1 : Int32)), I2, L3) else bI (f_X11_within N a2 0 3 I2 L3) (fun x4 I5 L6 => (if x4 = 0 then some (some (.int (-1 : Int32)), I5, L6) else (if a2 = 0 then some (some (.int 0), I5, L6) else (if a2 = 2 then some (some (.int ((1 : Int32) <<< ((2 * a1) &&& 31))), I5, L6) else some (some (.int ((1 : Int32) <<< (a1 &&& 31))), I5, L6)))))))
set_option maxRecDepth 100000 in
theorem ok_X11_cancel (N d : Nat) (a1 : Int32) (a2 : Int32) (I : PI) (L : PL) : MOk M_X11_cancel (d + 1) [.ref 11, .int a1, .int a2] I L (f_X11_cancel N a1 a2 I L) := by
  refine MOk.of (by decide +kernel) (Nat.le_of_ble_eq_true rfl) ?_
  show EvW _ _ 0 [(0, .ref 11), (1, .int a1), (2, .int a2)] [] I L _
  rw [f_X11_cancel]
  refine ev_iload_n (pc := 0) 1 dX11_cancel_0 rfl ?_
  refine ev_iconst (pc := 1) 1 k_iconst_1 dX11_cancel_1 ?_
  refine ev_bipush (pc := 2) 8 k_bipush_8 dX11_cancel_2 ?_
  refine ev_callSI (pc := 4) (d := d) (As := [.int a1, .int 1, .int 8]) (st := []) cv_X11_within rfl w_18 rfl (Nat.le_of_ble_eq_true rfl) (ok_X11_within N (d) a1 1 8 I L) dX11_cancel_4 (fun x1 I2 L3 => ?_)
  refine ev_if_eq (pc := 7) 19 (by decide) dX11_cancel_7 ?_ ?_
  · refine ev_iconst (pc := 19) (-1 : Int32) k_iconst_m1 dX11_cancel_19 ?_
    exact ev_iret (pc := 20) rfl dX11_cancel_20
  · refine ev_iload_n (pc := 10) 2 dX11_cancel_10 rfl ?_
    refine ev_iconst (pc := 11) 0 k_iconst_0 dX11_cancel_11 ?_
    refine ev_iconst (pc := 12) 3 k_iconst_3 dX11_cancel_12 ?_
    refine ev_callSI (pc := 13) (d := d) (As := [.int a2, .int 0, .int 3]) (st := []) cv_X11_within rfl w_18 rfl (Nat.le_of_ble_eq_true rfl) (ok_X11_within N (d) a2 0 3 I2 L3) dX11_cancel_13 (fun x4 I5 L6 => ?_)
    refine ev_if_ne (pc := 16) 21 (by decide) dX11_cancel_16 ?_ ?_
    · refine ev_iload_n (pc := 21) 2 dX11_cancel_21 rfl ?_
      refine ev_if_ne (pc := 22) 27 (by decide) dX11_cancel_22 ?_ ?_
      · refine ev_iload_n (pc := 27) 2 dX11_cancel_27 rfl ?_
        refine ev_iconst (pc := 28) 2 k_iconst_2 dX11_cancel_28 ?_
        refine ev_icmp_ne (pc := 29) 40 (by decide) dX11_cancel_29 ?_ ?_
        · refine ev_iconst (pc := 40) 1 k_iconst_1 dX11_cancel_40 ?_
          refine ev_iload_n (pc := 41) 1 dX11_cancel_41 rfl ?_
          refine ev_ishl (pc := 42) dX11_cancel_42 ?_
          exact ev_iret (pc := 43) rfl dX11_cancel_43
        · refine ev_iconst (pc := 32) 1 k_iconst_1 dX11_cancel_32 ?_
          refine ev_iconst (pc := 33) 2 k_iconst_2 dX11_cancel_33 ?_
          refine ev_iload_n (pc := 34) 1 dX11_cancel_34 rfl ?_
          refine ev_imul (pc := 35) dX11_cancel_35 ?_
          refine ev_ishl (pc := 36) dX11_cancel_36 ?_
          refine ev_goto (pc := 37) 43 (by decide) dX11_cancel_37 ?_
          exact ev_iret (pc := 43) rfl dX11_cancel_43
      · refine ev_iconst (pc := 25) 0 k_iconst_0 dX11_cancel_25 ?_
        exact ev_iret (pc := 26) rfl dX11_cancel_26
    · refine ev_iconst (pc := 19) (-1 : Int32) k_iconst_m1 dX11_cancel_19 ?_
      exact ev_iret (pc := 20) rfl dX11_cancel_20
def F_J7_fill_d0a16_r29_6 (N : Nat) : Nat → Int64 → Int32 → Int32 → PI → PL → RES
  | 0, _, _, _, _, _ => none
  | n + 1, v1, v3, v4, I, L => (if v4 ≤ v3 then some (none, I, L) else gd (inb v3 155) (nmY (uL L 29 (Int32.toNatClampNeg v3) v1) (fun L1 => (F_J7_fill_d0a16_r29_6 N n) v1 (v3 + 1) v4 I L1)))
set_option maxRecDepth 100000 in
theorem E_J7_fill_d0a16_r29_6 (N d : Nat) : ∀ (n : Nat) (v1 : Int64) (v3 : Int32) (v4 : Int32) (I : PI) (L : PL), EvW M_J7_fill_d0a16 (d) 6 [(0, .ref 29), (1, .long v1), (3, .int v3), (4, .int v4)] [] I L (F_J7_fill_d0a16_r29_6 N n v1 v3 v4 I L) := by
  intro n
  induction n with
  | zero =>
    intro v1 v3 v4 I L
    exact EvW.none
  | succ n hr_6 =>
    intro v1 v3 v4 I L
    rw [F_J7_fill_d0a16_r29_6]
    refine ev_iload_n (pc := 6) 2 dJ7_fill_d0a16_6 rfl ?_
    refine ev_iload (pc := 7) 3 dJ7_fill_d0a16_7 rfl ?_
    refine ev_icmp_ge (pc := 9) 22 (by decide) dJ7_fill_d0a16_9 ?_ ?_
    · exact ev_vret (pc := 22) rfl dJ7_fill_d0a16_22
    · refine ev_aload_n (pc := 12) 0 dJ7_fill_d0a16_12 rfl ?_
      refine ev_iload_n (pc := 13) 2 dJ7_fill_d0a16_13 rfl ?_
      refine ev_lload_n (pc := 14) 1 dJ7_fill_d0a16_14 rfl ?_
      refine ev_last (pc := 15) kK_29 dJ7_fill_d0a16_15 ?_
      refine ev_nmY (fun L1 => ?_)
      refine ev_iinc (pc := 16) (lv' := [(3, .int (v3 + 1)), (0, .ref 29), (1, .long v1), (4, .int v4)]) dJ7_fill_d0a16_16 2 rfl rfl 1 k_iconst_1 rfl ?_
      refine ev_goto (pc := 19) 6 (by decide) dJ7_fill_d0a16_19 ?_
      refine EvW.sub [1, 2, 0, 3] rfl ?_
      exact hr_6 v1 (v3 + 1) v4 I L1
def f_J7_fill_d0a16_r29 (N : Nat) (a1 : Int64) (I : PI) (L : PL) : RES := F_J7_fill_d0a16_r29_6 N N a1 0 155 I L
set_option maxRecDepth 100000 in
theorem ok_J7_fill_d0a16_r29 (N d : Nat) (a1 : Int64) (I : PI) (L : PL) : MOk M_J7_fill_d0a16 (d) [.ref 29, .long a1] I L (f_J7_fill_d0a16_r29 N a1 I L) := by
  refine MOk.of (by decide +kernel) (Nat.le_of_ble_eq_true rfl) ?_
  show EvW _ _ 0 [(0, .ref 29), (1, .long a1)] [] I L _
  rw [f_J7_fill_d0a16_r29]
  refine ev_iconst (pc := 0) 0 k_iconst_0 dJ7_fill_d0a16_0 ?_
  refine ev_istore_n (pc := 1) (lv' := [(3, .int 0), (0, .ref 29), (1, .long a1)]) dJ7_fill_d0a16_1 rfl rfl rfl ?_
  refine ev_aload_n (pc := 2) 1 dJ7_fill_d0a16_2 rfl ?_
  refine ev_alenL (pc := 3) 155 (by decide +kernel) kK_29 dJ7_fill_d0a16_3 ?_
  refine ev_istore (pc := 4) (lv' := [(4, .int 155), (3, .int 0), (0, .ref 29), (1, .long a1)]) dJ7_fill_d0a16_4 rfl rfl ?_
  refine EvW.sub [2, 3, 1, 0] rfl ?_
  exact E_J7_fill_d0a16_r29_6 N d N a1 0 155 I L
def F_X8_tellSeenWays_31 (N : Nat) (r_15 : Int32 → Int32 → Int32 → PI → PL → RES) : Nat → Int32 → Int32 → Int32 → Int32 → PI → PL → RES
  | 0, _, _, _, _, _, _ => none
  | n + 1, v2, v3, v4, v5, I, L => (if v3 < v5 then r_15 v2 v3 (v4 + 1) I L else (if 300 < v5 then r_15 v2 v3 (v4 + 1) I L else bI (f_X8_isSeenBy N v4 v5 I L) (fun x5 I6 L7 => (if x5 = 0 then (F_X8_tellSeenWays_31 N r_15 n) v2 v3 v4 (v5 + 1) I6 L7 else gd (inb ((v4 * 5) + (v5 >>> ((6 : Int32) &&& 31))) 155) (gd (inb ((v4 * 5) + (v5 >>> ((6 : Int32) &&& 31))) 155) (nmY (uL L7 29 (Int32.toNatClampNeg ((v4 * 5) + (v5 >>> ((6 : Int32) &&& 31)))) ((L7 29 (Int32.toNatClampNeg ((v4 * 5) + (v5 >>> ((6 : Int32) &&& 31))))) ||| (jlshl 1 (v5 &&& 63)))) (fun L8 => (F_X8_tellSeenWays_31 N r_15 n) v2 v3 v4 (v5 + 1) I6 L8)))))))
set_option maxRecDepth 100000 in
theorem E_X8_tellSeenWays_31 (N d : Nat) (r_15 : Int32 → Int32 → Int32 → PI → PL → RES) (hr_15 : ∀ (v2 : Int32) (v3 : Int32) (v4 : Int32) (I : PI) (L : PL), EvW M_X8_tellSeenWays (d + 2) 15 [(0, .ref 8), (2, .int v2), (3, .int v3), (4, .int v4)] [] I L (r_15 v2 v3 v4 I L)) : ∀ (n : Nat) (v2 : Int32) (v3 : Int32) (v4 : Int32) (v5 : Int32) (I : PI) (L : PL), EvW M_X8_tellSeenWays (d + 2) 31 [(0, .ref 8), (2, .int v2), (3, .int v3), (4, .int v4), (5, .int v5)] [] I L (F_X8_tellSeenWays_31 N r_15 n v2 v3 v4 v5 I L) := by
  intro n
  induction n with
  | zero =>
    intro v2 v3 v4 v5 I L
    exact EvW.none
  | succ n hr_31 =>
    intro v2 v3 v4 v5 I L
    rw [F_X8_tellSeenWays_31]
    refine ev_iload (pc := 31) 4 dX8_tellSeenWays_31 rfl ?_
    refine ev_iload_n (pc := 33) 2 dX8_tellSeenWays_33 rfl ?_
    refine ev_icmp_gt (pc := 34) 87 (by decide) dX8_tellSeenWays_34 ?_ ?_
    · refine ev_iinc (pc := 87) (lv' := [(4, .int (v4 + 1)), (0, .ref 8), (2, .int v2), (3, .int v3), (5, .int v5)]) dX8_tellSeenWays_87 3 rfl rfl 1 k_iconst_1 rfl ?_
      refine ev_goto (pc := 90) 15 (by decide) dX8_tellSeenWays_90 ?_
      refine EvW.sub [1, 2, 3, 0] rfl ?_
      exact hr_15 v2 v3 (v4 + 1) I L
    · refine ev_iload (pc := 37) 4 dX8_tellSeenWays_37 rfl ?_
      refine ev_sipush (pc := 39) 300 k_sipush_300 dX8_tellSeenWays_39 ?_
      refine ev_icmp_gt (pc := 42) 87 (by decide) dX8_tellSeenWays_42 ?_ ?_
      · refine ev_iinc (pc := 87) (lv' := [(4, .int (v4 + 1)), (0, .ref 8), (2, .int v2), (3, .int v3), (5, .int v5)]) dX8_tellSeenWays_87 3 rfl rfl 1 k_iconst_1 rfl ?_
        refine ev_goto (pc := 90) 15 (by decide) dX8_tellSeenWays_90 ?_
        refine EvW.sub [1, 2, 3, 0] rfl ?_
        exact hr_15 v2 v3 (v4 + 1) I L
      · refine ev_aload_n (pc := 45) 0 dX8_tellSeenWays_45 rfl ?_
        refine ev_iload (pc := 46) 3 dX8_tellSeenWays_46 rfl ?_
        refine ev_iload (pc := 48) 4 dX8_tellSeenWays_48 rfl ?_
        refine ev_callVI (pc := 50) (d := d + 1) (As := [.int v4, .int v5]) (st := []) cv_X8_isSeenBy rfl w_380 rfl (Nat.le_of_ble_eq_true rfl) (ok_X8_isSeenBy N (d) v4 v5 I L) dX8_tellSeenWays_50 (fun x5 I6 L7 => ?_)
        refine ev_if_eq (pc := 53) 81 (by decide) dX8_tellSeenWays_53 ?_ ?_
        · refine ev_iinc (pc := 81) (lv' := [(5, .int (v5 + 1)), (0, .ref 8), (2, .int v2), (3, .int v3), (4, .int v4)]) dX8_tellSeenWays_81 4 rfl rfl 1 k_iconst_1 rfl ?_
          refine ev_goto (pc := 84) 31 (by decide) dX8_tellSeenWays_84 ?_
          refine EvW.sub [1, 2, 3, 4, 0] rfl ?_
          exact hr_31 v2 v3 v4 (v5 + 1) I6 L7
        · refine ev_aload_n (pc := 56) 0 dX8_tellSeenWays_56 rfl ?_
          refine gf_X8_27 (pc := 57) rfl dX8_tellSeenWays_57 ?_
          refine ev_iload (pc := 60) 3 dX8_tellSeenWays_60 rfl ?_
          refine ev_iconst (pc := 62) 5 k_iconst_5 dX8_tellSeenWays_62 ?_
          refine ev_imul (pc := 63) dX8_tellSeenWays_63 ?_
          refine ev_iload (pc := 64) 4 dX8_tellSeenWays_64 rfl ?_
          refine ev_bipush (pc := 66) 6 k_bipush_6 dX8_tellSeenWays_66 ?_
          refine ev_ishr (pc := 68) dX8_tellSeenWays_68 ?_
          refine ev_iadd (pc := 69) dX8_tellSeenWays_69 ?_
          refine ev_dup2 (pc := 70) rfl rfl dX8_tellSeenWays_70 ?_
          refine ev_lald (pc := 71) kK_29 dX8_tellSeenWays_71 ?_
          refine ev_lconst (pc := 72) 1 rfl dX8_tellSeenWays_72 ?_
          refine ev_iload (pc := 73) 4 dX8_tellSeenWays_73 rfl ?_
          refine ev_bipush (pc := 75) 63 k_bipush_63 dX8_tellSeenWays_75 ?_
          refine ev_iand (pc := 77) dX8_tellSeenWays_77 ?_
          refine ev_lshl (pc := 78) dX8_tellSeenWays_78 ?_
          refine ev_lor (pc := 79) dX8_tellSeenWays_79 ?_
          refine ev_last (pc := 80) kK_29 dX8_tellSeenWays_80 ?_
          refine ev_nmY (fun L8 => ?_)
          refine ev_iinc (pc := 81) (lv' := [(5, .int (v5 + 1)), (0, .ref 8), (2, .int v2), (3, .int v3), (4, .int v4)]) dX8_tellSeenWays_81 4 rfl rfl 1 k_iconst_1 rfl ?_
          refine ev_goto (pc := 84) 31 (by decide) dX8_tellSeenWays_84 ?_
          refine EvW.sub [1, 2, 3, 4, 0] rfl ?_
          exact hr_31 v2 v3 v4 (v5 + 1) I6 L8
def F_X8_tellSeenWays_15 (N : Nat) : Nat → Int32 → Int32 → Int32 → PI → PL → RES
  | 0, _, _, _, _, _ => none
  | n + 1, v2, v3, v4, I, L => (if v2 < v4 then some (none, I, L) else (if 30 < v4 then some (none, I, L) else F_X8_tellSeenWays_31 N (F_X8_tellSeenWays_15 N n) N v2 v3 v4 1 I L))
set_option maxRecDepth 100000 in
theorem E_X8_tellSeenWays_15 (N d : Nat) : ∀ (n : Nat) (v2 : Int32) (v3 : Int32) (v4 : Int32) (I : PI) (L : PL), EvW M_X8_tellSeenWays (d + 2) 15 [(0, .ref 8), (2, .int v2), (3, .int v3), (4, .int v4)] [] I L (F_X8_tellSeenWays_15 N n v2 v3 v4 I L) := by
  intro n
  induction n with
  | zero =>
    intro v2 v3 v4 I L
    exact EvW.none
  | succ n hr_15 =>
    intro v2 v3 v4 I L
    rw [F_X8_tellSeenWays_15]
    refine ev_iload (pc := 15) 3 dX8_tellSeenWays_15 rfl ?_
    refine ev_iload_n (pc := 17) 1 dX8_tellSeenWays_17 rfl ?_
    refine ev_icmp_gt (pc := 18) 93 (by decide) dX8_tellSeenWays_18 ?_ ?_
    · exact ev_vret (pc := 93) rfl dX8_tellSeenWays_93
    · refine ev_iload (pc := 21) 3 dX8_tellSeenWays_21 rfl ?_
      refine ev_bipush (pc := 23) 30 k_bipush_30 dX8_tellSeenWays_23 ?_
      refine ev_icmp_gt (pc := 25) 93 (by decide) dX8_tellSeenWays_25 ?_ ?_
      · exact ev_vret (pc := 93) rfl dX8_tellSeenWays_93
      · refine ev_iconst (pc := 28) 1 k_iconst_1 dX8_tellSeenWays_28 ?_
        refine ev_istore (pc := 29) (lv' := [(5, .int 1), (0, .ref 8), (2, .int v2), (3, .int v3), (4, .int v4)]) dX8_tellSeenWays_29 rfl rfl ?_
        refine EvW.sub [1, 2, 3, 4, 0] rfl ?_
        exact E_X8_tellSeenWays_31 N d (F_X8_tellSeenWays_15 N n) hr_15 N v2 v3 v4 1 I L
def f_X8_tellSeenWays (N : Nat) (a1 : Int32) (a2 : Int32) (a3 : Int32) (I : PI) (L : PL) : RES := bV (f_J7_fill_d0a16_r29 N 0 I L) (fun I2 L3 => nmI (jmax a1 1) (fun x4 => F_X8_tellSeenWays_15 N N a2 a3 x4 I2 L3))
set_option maxRecDepth 100000 in
theorem ok_X8_tellSeenWays (N d : Nat) (a1 : Int32) (a2 : Int32) (a3 : Int32) (I : PI) (L : PL) : MOk M_X8_tellSeenWays (d + 2) [.ref 8, .int a1, .int a2, .int a3] I L (f_X8_tellSeenWays N a1 a2 a3 I L) := by
  refine MOk.of (by decide +kernel) (Nat.le_of_ble_eq_true rfl) ?_
  show EvW _ _ 0 [(0, .ref 8), (1, .int a1), (2, .int a2), (3, .int a3)] [] I L _
  rw [f_X8_tellSeenWays]
  refine ev_aload_n (pc := 0) 0 dX8_tellSeenWays_0 rfl ?_
  refine gf_X8_27 (pc := 1) rfl dX8_tellSeenWays_1 ?_
  refine ev_lconst (pc := 4) 0 rfl dX8_tellSeenWays_4 ?_
  refine ev_callSV (pc := 5) (d := d + 1) (As := [.ref 29, .long 0]) (st := []) cv_J7_fill_d0a16 rfl w_621 rfl (Nat.le_of_ble_eq_true rfl) (ok_J7_fill_d0a16_r29 N (d + 1) 0 I L) dX8_tellSeenWays_5 (fun I2 L3 => ?_)
  refine ev_iload_n (pc := 8) 1 dX8_tellSeenWays_8 rfl ?_
  refine ev_iconst (pc := 9) 1 k_iconst_1 dX8_tellSeenWays_9 ?_
  refine ev_mmax (pc := 10) (d := d + 1) w_622 w_130 w_131 w_132 (Nat.le_of_ble_eq_true rfl) dX8_tellSeenWays_10 ?_
  refine ev_nmI (fun x4 => ?_)
  refine ev_istore (pc := 13) (lv' := [(4, .int x4), (0, .ref 8), (1, .int a1), (2, .int a2), (3, .int a3)]) dX8_tellSeenWays_13 rfl rfl ?_
  refine EvW.sub [1, 3, 4, 0] rfl ?_
  exact E_X8_tellSeenWays_15 N d N a2 a3 x4 I2 L3
def f_X8_waysOf (N : Nat) (a1 : Int32) (a2 : Int32) (I : PI) (L : PL) : RES := nmI ((a1 * 5) + a2) (fun x1 => (if x1 < 0 then some (some (.long 0), I, L) else (if 155 ≤ x1 then some (some (.long 0), I, L) else gd (inb x1 155) (some (some (.long (L 29 (Int32.toNatClampNeg x1))), I, L)))))
set_option maxRecDepth 100000 in
theorem ok_X8_waysOf (N d : Nat) (a1 : Int32) (a2 : Int32) (I : PI) (L : PL) : MOk M_X8_waysOf (d) [.ref 8, .int a1, .int a2] I L (f_X8_waysOf N a1 a2 I L) := by
  refine MOk.of (by decide +kernel) (Nat.le_of_ble_eq_true rfl) ?_
  show EvW _ _ 0 [(0, .ref 8), (1, .int a1), (2, .int a2)] [] I L _
  rw [f_X8_waysOf]
  refine ev_iload_n (pc := 0) 1 dX8_waysOf_0 rfl ?_
  refine ev_iconst (pc := 1) 5 k_iconst_5 dX8_waysOf_1 ?_
  refine ev_imul (pc := 2) dX8_waysOf_2 ?_
  refine ev_iload_n (pc := 3) 2 dX8_waysOf_3 rfl ?_
  refine ev_iadd (pc := 4) dX8_waysOf_4 ?_
  refine ev_nmI (fun x1 => ?_)
  refine ev_istore_n (pc := 5) (lv' := [(3, .int x1), (0, .ref 8), (1, .int a1), (2, .int a2)]) dX8_waysOf_5 rfl rfl rfl ?_
  refine ev_iload_n (pc := 6) 0 dX8_waysOf_6 rfl ?_
  refine ev_if_lt (pc := 7) 28 (by decide) dX8_waysOf_7 ?_ ?_
  · refine ev_lconst (pc := 28) 0 rfl dX8_waysOf_28 ?_
    exact ev_lret (pc := 29) rfl dX8_waysOf_29
  · refine ev_iload_n (pc := 10) 0 dX8_waysOf_10 rfl ?_
    refine ev_aload_n (pc := 11) 1 dX8_waysOf_11 rfl ?_
    refine gf_X8_27 (pc := 12) rfl dX8_waysOf_12 ?_
    refine ev_alenL (pc := 15) 155 (by decide +kernel) kK_29 dX8_waysOf_15 ?_
    refine ev_icmp_ge (pc := 16) 28 (by decide) dX8_waysOf_16 ?_ ?_
    · refine ev_lconst (pc := 28) 0 rfl dX8_waysOf_28 ?_
      exact ev_lret (pc := 29) rfl dX8_waysOf_29
    · refine ev_aload_n (pc := 19) 1 dX8_waysOf_19 rfl ?_
      refine gf_X8_27 (pc := 20) rfl dX8_waysOf_20 ?_
      refine ev_iload_n (pc := 23) 0 dX8_waysOf_23 rfl ?_
      refine ev_lald (pc := 24) kK_29 dX8_waysOf_24 ?_
      refine ev_goto (pc := 25) 29 (by decide) dX8_waysOf_25 ?_
      exact ev_lret (pc := 29) rfl dX8_waysOf_29
def f_J13_bitCount_95d88 (N : Nat) (a1 : Int64) (I : PI) (L : PL) : RES := nmJ (a1 - ((jlushr a1 1) &&& 6148914691236517205)) (fun x1 => nmJ ((x1 &&& 3689348814741910323) + ((jlushr x1 2) &&& 3689348814741910323)) (fun x2 => nmJ ((x2 + (jlushr x2 4)) &&& 1085102592571150095) (fun x3 => nmJ (x3 + (jlushr x3 8)) (fun x4 => nmJ (x4 + (jlushr x4 16)) (fun x5 => nmJ (x5 + (jlushr x5 32)) (fun x6 => some (some (.int ((Int64.toInt32 x6) &&& 127)), I, L)))))))
set_option maxRecDepth 100000 in
theorem ok_J13_bitCount_95d88 (N d : Nat) (a1 : Int64) (I : PI) (L : PL) : MOk M_J13_bitCount_95d88 (d) [.long a1] I L (f_J13_bitCount_95d88 N a1 I L) := by
  refine MOk.of (by decide +kernel) (Nat.le_of_ble_eq_true rfl) ?_
  show EvW _ _ 0 [(0, .long a1)] [] I L _
  rw [f_J13_bitCount_95d88]
  refine ev_lload_n (pc := 0) 0 dJ13_bitCount_95d88_0 rfl ?_
  refine ev_lload_n (pc := 1) 0 dJ13_bitCount_95d88_1 rfl ?_
  refine ev_iconst (pc := 2) 1 k_iconst_1 dJ13_bitCount_95d88_2 ?_
  refine ev_lushr (pc := 3) dJ13_bitCount_95d88_3 ?_
  refine ev_ldc2 (pc := 4) w_631 dJ13_bitCount_95d88_4 ?_
  refine ev_land (pc := 7) dJ13_bitCount_95d88_7 ?_
  refine ev_lsub (pc := 8) dJ13_bitCount_95d88_8 ?_
  refine ev_nmJ (fun x1 => ?_)
  refine ev_lstore_n (pc := 9) (lv' := [(0, .long x1)]) dJ13_bitCount_95d88_9 rfl rfl rfl ?_
  refine ev_lload_n (pc := 10) 0 dJ13_bitCount_95d88_10 rfl ?_
  refine ev_ldc2 (pc := 11) w_632 dJ13_bitCount_95d88_11 ?_
  refine ev_land (pc := 14) dJ13_bitCount_95d88_14 ?_
  refine ev_lload_n (pc := 15) 0 dJ13_bitCount_95d88_15 rfl ?_
  refine ev_iconst (pc := 16) 2 k_iconst_2 dJ13_bitCount_95d88_16 ?_
  refine ev_lushr (pc := 17) dJ13_bitCount_95d88_17 ?_
  refine ev_ldc2 (pc := 18) w_632 dJ13_bitCount_95d88_18 ?_
  refine ev_land (pc := 21) dJ13_bitCount_95d88_21 ?_
  refine ev_ladd (pc := 22) dJ13_bitCount_95d88_22 ?_
  refine ev_nmJ (fun x2 => ?_)
  refine ev_lstore_n (pc := 23) (lv' := [(0, .long x2)]) dJ13_bitCount_95d88_23 rfl rfl rfl ?_
  refine ev_lload_n (pc := 24) 0 dJ13_bitCount_95d88_24 rfl ?_
  refine ev_lload_n (pc := 25) 0 dJ13_bitCount_95d88_25 rfl ?_
  refine ev_iconst (pc := 26) 4 k_iconst_4 dJ13_bitCount_95d88_26 ?_
  refine ev_lushr (pc := 27) dJ13_bitCount_95d88_27 ?_
  refine ev_ladd (pc := 28) dJ13_bitCount_95d88_28 ?_
  refine ev_ldc2 (pc := 29) w_633 dJ13_bitCount_95d88_29 ?_
  refine ev_land (pc := 32) dJ13_bitCount_95d88_32 ?_
  refine ev_nmJ (fun x3 => ?_)
  refine ev_lstore_n (pc := 33) (lv' := [(0, .long x3)]) dJ13_bitCount_95d88_33 rfl rfl rfl ?_
  refine ev_lload_n (pc := 34) 0 dJ13_bitCount_95d88_34 rfl ?_
  refine ev_lload_n (pc := 35) 0 dJ13_bitCount_95d88_35 rfl ?_
  refine ev_bipush (pc := 36) 8 k_bipush_8 dJ13_bitCount_95d88_36 ?_
  refine ev_lushr (pc := 38) dJ13_bitCount_95d88_38 ?_
  refine ev_ladd (pc := 39) dJ13_bitCount_95d88_39 ?_
  refine ev_nmJ (fun x4 => ?_)
  refine ev_lstore_n (pc := 40) (lv' := [(0, .long x4)]) dJ13_bitCount_95d88_40 rfl rfl rfl ?_
  refine ev_lload_n (pc := 41) 0 dJ13_bitCount_95d88_41 rfl ?_
  refine ev_lload_n (pc := 42) 0 dJ13_bitCount_95d88_42 rfl ?_
  refine ev_bipush (pc := 43) 16 k_bipush_16 dJ13_bitCount_95d88_43 ?_
  refine ev_lushr (pc := 45) dJ13_bitCount_95d88_45 ?_
  refine ev_ladd (pc := 46) dJ13_bitCount_95d88_46 ?_
  refine ev_nmJ (fun x5 => ?_)
  refine ev_lstore_n (pc := 47) (lv' := [(0, .long x5)]) dJ13_bitCount_95d88_47 rfl rfl rfl ?_
  refine ev_lload_n (pc := 48) 0 dJ13_bitCount_95d88_48 rfl ?_
  refine ev_lload_n (pc := 49) 0 dJ13_bitCount_95d88_49 rfl ?_
  refine ev_bipush (pc := 50) 32 k_bipush_32 dJ13_bitCount_95d88_50 ?_
  refine ev_lushr (pc := 52) dJ13_bitCount_95d88_52 ?_
  refine ev_ladd (pc := 53) dJ13_bitCount_95d88_53 ?_
  refine ev_nmJ (fun x6 => ?_)
  refine ev_lstore_n (pc := 54) (lv' := [(0, .long x6)]) dJ13_bitCount_95d88_54 rfl rfl rfl ?_
  refine ev_lload_n (pc := 55) 0 dJ13_bitCount_95d88_55 rfl ?_
  refine ev_l2i (pc := 56) dJ13_bitCount_95d88_56 ?_
  refine ev_bipush (pc := 57) 127 k_bipush_127 dJ13_bitCount_95d88_57 ?_
  refine ev_iand (pc := 59) dJ13_bitCount_95d88_59 ?_
  exact ev_iret (pc := 60) rfl dJ13_bitCount_95d88_60
def F_X8_seenByThree_6 (N : Nat) : Nat → Int32 → Int32 → Int32 → Int32 → Int32 → PI → PL → RES
  | 0, _, _, _, _, _, _, _ => none
  | n + 1, v1, v2, v3, v4, v5, I, L => (if 5 ≤ v5 then some (some (.int v4), I, L) else bJ (f_X8_waysOf N v1 v5 I L) (fun x1 I2 L3 => bJ (f_X8_waysOf N v2 v5 I2 L3) (fun x4 I5 L6 => bJ (f_X8_waysOf N v3 v5 I5 L6) (fun x7 I8 L9 => gd (inb 1 6) ((if (I8 13 (Int32.toNatClampNeg 1)) = 1 then bI (f_J13_bitCount_95d88 N ((x1 ||| x4) ||| x7) I8 L9) (fun x18 I19 L20 => nmI (v4 + x18) (fun x21 => (F_X8_seenByThree_6 N n) v1 v2 v3 x21 (v5 + 1) I19 L20)) else gd (inb 1 6) ((if (I8 13 (Int32.toNatClampNeg 1)) = 2 then bI (f_J13_bitCount_95d88 N (((x1 &&& x4) ||| (x1 &&& x7)) ||| (x4 &&& x7)) I8 L9) (fun x14 I15 L16 => nmI (v4 + x14) (fun x17 => (F_X8_seenByThree_6 N n) v1 v2 v3 x17 (v5 + 1) I15 L16)) else gd (inb 1 6) ((if (I8 13 (Int32.toNatClampNeg 1)) = 3 then bI (f_J13_bitCount_95d88 N ((x1 &&& x4) &&& x7) I8 L9) (fun x10 I11 L12 => nmI (v4 + x10) (fun x13 => (F_X8_seenByThree_6 N n) v1 v2 v3 x13 (v5 + 1) I11 L12)) else (F_X8_seenByThree_6 N n) v1 v2 v3 v4 (v5 + 1) I8 L9))))))))))
set_option maxRecDepth 100000 in
theorem E_X8_seenByThree_6 (N d : Nat) : ∀ (n : Nat) (v1 : Int32) (v2 : Int32) (v3 : Int32) (v4 : Int32) (v5 : Int32) (I : PI) (L : PL), EvW M_X8_seenByThree (d + 1) 6 [(0, .ref 8), (1, .int v1), (2, .int v2), (3, .int v3), (4, .int v4), (5, .int v5)] [] I L (F_X8_seenByThree_6 N n v1 v2 v3 v4 v5 I L) := by
  intro n
  induction n with
  | zero =>
    intro v1 v2 v3 v4 v5 I L
    exact EvW.none
  | succ n hr_6 =>
    intro v1 v2 v3 v4 v5 I L
    rw [F_X8_seenByThree_6]
    refine ev_iload (pc := 6) 5 dX8_seenByThree_6 rfl ?_
    refine ev_iconst (pc := 8) 5 k_iconst_5 dX8_seenByThree_8 ?_
    refine ev_icmp_ge (pc := 9) 138 (by decide) dX8_seenByThree_9 ?_ ?_
    · refine ev_iload (pc := 138) 4 dX8_seenByThree_138 rfl ?_
      exact ev_iret (pc := 140) rfl dX8_seenByThree_140
    · refine ev_aload_n (pc := 12) 0 dX8_seenByThree_12 rfl ?_
      refine ev_iload_n (pc := 13) 1 dX8_seenByThree_13 rfl ?_
      refine ev_iload (pc := 14) 5 dX8_seenByThree_14 rfl ?_
      refine ev_callVJ (pc := 16) (d := d) (As := [.int v1, .int v5]) (st := []) cv_X8_waysOf rfl w_630 rfl (Nat.le_of_ble_eq_true rfl) (ok_X8_waysOf N (d) v1 v5 I L) dX8_seenByThree_16 (fun x1 I2 L3 => ?_)
      refine ev_lstore (pc := 19) (lv' := [(6, .long x1), (0, .ref 8), (1, .int v1), (2, .int v2), (3, .int v3), (4, .int v4), (5, .int v5)]) dX8_seenByThree_19 rfl rfl ?_
      refine ev_aload_n (pc := 21) 1 dX8_seenByThree_21 rfl ?_
      refine ev_iload_n (pc := 22) 3 dX8_seenByThree_22 rfl ?_
      refine ev_iload (pc := 23) 6 dX8_seenByThree_23 rfl ?_
      refine ev_callVJ (pc := 25) (d := d) (As := [.int v2, .int v5]) (st := []) cv_X8_waysOf rfl w_630 rfl (Nat.le_of_ble_eq_true rfl) (ok_X8_waysOf N (d) v2 v5 I2 L3) dX8_seenByThree_25 (fun x4 I5 L6 => ?_)
      refine ev_lstore (pc := 28) (lv' := [(8, .long x4), (6, .long x1), (0, .ref 8), (1, .int v1), (2, .int v2), (3, .int v3), (4, .int v4), (5, .int v5)]) dX8_seenByThree_28 rfl rfl ?_
      refine ev_aload_n (pc := 30) 2 dX8_seenByThree_30 rfl ?_
      refine ev_iload_n (pc := 31) 5 dX8_seenByThree_31 rfl ?_
      refine ev_iload (pc := 32) 7 dX8_seenByThree_32 rfl ?_
      refine ev_callVJ (pc := 34) (d := d) (As := [.int v3, .int v5]) (st := []) cv_X8_waysOf rfl w_630 rfl (Nat.le_of_ble_eq_true rfl) (ok_X8_waysOf N (d) v3 v5 I5 L6) dX8_seenByThree_34 (fun x7 I8 L9 => ?_)
      refine ev_lstore (pc := 37) (lv' := [(10, .long x7), (8, .long x4), (6, .long x1), (0, .ref 8), (1, .int v1), (2, .int v2), (3, .int v3), (4, .int v4), (5, .int v5)]) dX8_seenByThree_37 rfl rfl ?_
      refine ev_aload_n (pc := 39) 3 dX8_seenByThree_39 rfl ?_
      refine gf_X8_9 (pc := 40) rfl dX8_seenByThree_40 ?_
      refine ev_iconst (pc := 43) 1 k_iconst_1 dX8_seenByThree_43 ?_
      refine ev_iald (pc := 44) kK_13 dX8_seenByThree_44 ?_
      refine ev_iconst (pc := 45) 1 k_iconst_1 dX8_seenByThree_45 ?_
      refine ev_icmp_ne (pc := 46) 68 (by decide) dX8_seenByThree_46 ?_ ?_
      · refine ev_aload_n (pc := 68) 3 dX8_seenByThree_68 rfl ?_
        refine gf_X8_9 (pc := 69) rfl dX8_seenByThree_69 ?_
        refine ev_iconst (pc := 72) 1 k_iconst_1 dX8_seenByThree_72 ?_
        refine ev_iald (pc := 73) kK_13 dX8_seenByThree_73 ?_
        refine ev_iconst (pc := 74) 2 k_iconst_2 dX8_seenByThree_74 ?_
        refine ev_icmp_ne (pc := 75) 106 (by decide) dX8_seenByThree_75 ?_ ?_
        · refine ev_aload_n (pc := 106) 3 dX8_seenByThree_106 rfl ?_
          refine gf_X8_9 (pc := 107) rfl dX8_seenByThree_107 ?_
          refine ev_iconst (pc := 110) 1 k_iconst_1 dX8_seenByThree_110 ?_
          refine ev_iald (pc := 111) kK_13 dX8_seenByThree_111 ?_
          refine ev_iconst (pc := 112) 3 k_iconst_3 dX8_seenByThree_112 ?_
          refine ev_icmp_ne (pc := 113) 132 (by decide) dX8_seenByThree_113 ?_ ?_
          · refine ev_iinc (pc := 132) (lv' := [(5, .int (v5 + 1)), (10, .long x7), (8, .long x4), (6, .long x1), (0, .ref 8), (1, .int v1), (2, .int v2), (3, .int v3), (4, .int v4)]) dX8_seenByThree_132 8 rfl rfl 1 k_iconst_1 rfl ?_
            refine ev_goto (pc := 135) 6 (by decide) dX8_seenByThree_135 ?_
            refine EvW.sub [4, 5, 6, 7, 8, 0] rfl ?_
            exact hr_6 v1 v2 v3 v4 (v5 + 1) I8 L9
          · refine ev_iload (pc := 116) 7 dX8_seenByThree_116 rfl ?_
            refine ev_lload (pc := 118) 2 dX8_seenByThree_118 rfl ?_
            refine ev_lload (pc := 120) 1 dX8_seenByThree_120 rfl ?_
            refine ev_land (pc := 122) dX8_seenByThree_122 ?_
            refine ev_lload (pc := 123) 0 dX8_seenByThree_123 rfl ?_
            refine ev_land (pc := 125) dX8_seenByThree_125 ?_
            refine ev_callSI (pc := 126) (d := d) (As := [.long ((x1 &&& x4) &&& x7)]) (st := [.int v4]) cv_J13_bitCount_95d88 rfl w_637 rfl (Nat.le_of_ble_eq_true rfl) (ok_J13_bitCount_95d88 N (d) ((x1 &&& x4) &&& x7) I8 L9) dX8_seenByThree_126 (fun x10 I11 L12 => ?_)
            refine ev_iadd (pc := 129) dX8_seenByThree_129 ?_
            refine ev_nmI (fun x13 => ?_)
            refine ev_istore (pc := 130) (lv' := [(4, .int x13), (10, .long x7), (8, .long x4), (6, .long x1), (0, .ref 8), (1, .int v1), (2, .int v2), (3, .int v3), (5, .int v5)]) dX8_seenByThree_130 rfl rfl ?_
            refine ev_iinc (pc := 132) (lv' := [(5, .int (v5 + 1)), (4, .int x13), (10, .long x7), (8, .long x4), (6, .long x1), (0, .ref 8), (1, .int v1), (2, .int v2), (3, .int v3)]) dX8_seenByThree_132 8 rfl rfl 1 k_iconst_1 rfl ?_
            refine ev_goto (pc := 135) 6 (by decide) dX8_seenByThree_135 ?_
            refine EvW.sub [5, 6, 7, 8, 1, 0] rfl ?_
            exact hr_6 v1 v2 v3 x13 (v5 + 1) I11 L12
        · refine ev_iload (pc := 78) 7 dX8_seenByThree_78 rfl ?_
          refine ev_lload (pc := 80) 2 dX8_seenByThree_80 rfl ?_
          refine ev_lload (pc := 82) 1 dX8_seenByThree_82 rfl ?_
          refine ev_land (pc := 84) dX8_seenByThree_84 ?_
          refine ev_lload (pc := 85) 2 dX8_seenByThree_85 rfl ?_
          refine ev_lload (pc := 87) 0 dX8_seenByThree_87 rfl ?_
          refine ev_land (pc := 89) dX8_seenByThree_89 ?_
          refine ev_lor (pc := 90) dX8_seenByThree_90 ?_
          refine ev_lload (pc := 91) 1 dX8_seenByThree_91 rfl ?_
          refine ev_lload (pc := 93) 0 dX8_seenByThree_93 rfl ?_
          refine ev_land (pc := 95) dX8_seenByThree_95 ?_
          refine ev_lor (pc := 96) dX8_seenByThree_96 ?_
          refine ev_callSI (pc := 97) (d := d) (As := [.long (((x1 &&& x4) ||| (x1 &&& x7)) ||| (x4 &&& x7))]) (st := [.int v4]) cv_J13_bitCount_95d88 rfl w_637 rfl (Nat.le_of_ble_eq_true rfl) (ok_J13_bitCount_95d88 N (d) (((x1 &&& x4) ||| (x1 &&& x7)) ||| (x4 &&& x7)) I8 L9) dX8_seenByThree_97 (fun x14 I15 L16 => ?_)
          refine ev_iadd (pc := 100) dX8_seenByThree_100 ?_
          refine ev_nmI (fun x17 => ?_)
          refine ev_istore (pc := 101) (lv' := [(4, .int x17), (10, .long x7), (8, .long x4), (6, .long x1), (0, .ref 8), (1, .int v1), (2, .int v2), (3, .int v3), (5, .int v5)]) dX8_seenByThree_101 rfl rfl ?_
          refine ev_goto (pc := 103) 132 (by decide) dX8_seenByThree_103 ?_
          refine ev_iinc (pc := 132) (lv' := [(5, .int (v5 + 1)), (4, .int x17), (10, .long x7), (8, .long x4), (6, .long x1), (0, .ref 8), (1, .int v1), (2, .int v2), (3, .int v3)]) dX8_seenByThree_132 8 rfl rfl 1 k_iconst_1 rfl ?_
          refine ev_goto (pc := 135) 6 (by decide) dX8_seenByThree_135 ?_
          refine EvW.sub [5, 6, 7, 8, 1, 0] rfl ?_
          exact hr_6 v1 v2 v3 x17 (v5 + 1) I15 L16
      · refine ev_iload (pc := 49) 7 dX8_seenByThree_49 rfl ?_
        refine ev_lload (pc := 51) 2 dX8_seenByThree_51 rfl ?_
        refine ev_lload (pc := 53) 1 dX8_seenByThree_53 rfl ?_
        refine ev_lor (pc := 55) dX8_seenByThree_55 ?_
        refine ev_lload (pc := 56) 0 dX8_seenByThree_56 rfl ?_
        refine ev_lor (pc := 58) dX8_seenByThree_58 ?_
        refine ev_callSI (pc := 59) (d := d) (As := [.long ((x1 ||| x4) ||| x7)]) (st := [.int v4]) cv_J13_bitCount_95d88 rfl w_637 rfl (Nat.le_of_ble_eq_true rfl) (ok_J13_bitCount_95d88 N (d) ((x1 ||| x4) ||| x7) I8 L9) dX8_seenByThree_59 (fun x18 I19 L20 => ?_)
        refine ev_iadd (pc := 62) dX8_seenByThree_62 ?_
        refine ev_nmI (fun x21 => ?_)
        refine ev_istore (pc := 63) (lv' := [(4, .int x21), (10, .long x7), (8, .long x4), (6, .long x1), (0, .ref 8), (1, .int v1), (2, .int v2), (3, .int v3), (5, .int v5)]) dX8_seenByThree_63 rfl rfl ?_
        refine ev_goto (pc := 65) 132 (by decide) dX8_seenByThree_65 ?_
        refine ev_iinc (pc := 132) (lv' := [(5, .int (v5 + 1)), (4, .int x21), (10, .long x7), (8, .long x4), (6, .long x1), (0, .ref 8), (1, .int v1), (2, .int v2), (3, .int v3)]) dX8_seenByThree_132 8 rfl rfl 1 k_iconst_1 rfl ?_
        refine ev_goto (pc := 135) 6 (by decide) dX8_seenByThree_135 ?_
        refine EvW.sub [5, 6, 7, 8, 1, 0] rfl ?_
        exact hr_6 v1 v2 v3 x21 (v5 + 1) I19 L20
def f_X8_seenByThree (N : Nat) (a1 : Int32) (a2 : Int32) (a3 : Int32) (I : PI) (L : PL) : RES := F_X8_seenByThree_6 N N a1 a2 a3 0 0 I L
set_option maxRecDepth 100000 in
theorem ok_X8_seenByThree (N d : Nat) (a1 : Int32) (a2 : Int32) (a3 : Int32) (I : PI) (L : PL) : MOk M_X8_seenByThree (d + 1) [.ref 8, .int a1, .int a2, .int a3] I L (f_X8_seenByThree N a1 a2 a3 I L) := by
  refine MOk.of (by decide +kernel) (Nat.le_of_ble_eq_true rfl) ?_
  show EvW _ _ 0 [(0, .ref 8), (1, .int a1), (2, .int a2), (3, .int a3)] [] I L _
  rw [f_X8_seenByThree]
  refine ev_iconst (pc := 0) 0 k_iconst_0 dX8_seenByThree_0 ?_
  refine ev_istore (pc := 1) (lv' := [(4, .int 0), (0, .ref 8), (1, .int a1), (2, .int a2), (3, .int a3)]) dX8_seenByThree_1 rfl rfl ?_
  refine ev_iconst (pc := 3) 0 k_iconst_0 dX8_seenByThree_3 ?_
  refine ev_istore (pc := 4) (lv' := [(5, .int 0), (4, .int 0), (0, .ref 8), (1, .int a1), (2, .int a2), (3, .int a3)]) dX8_seenByThree_4 rfl rfl ?_
  refine EvW.sub [2, 3, 4, 5, 1, 0] rfl ?_
  exact E_X8_seenByThree_6 N d N a1 a2 a3 0 0 I L
