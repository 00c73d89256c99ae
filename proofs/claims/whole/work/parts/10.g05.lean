def F_X8_staggerBehind_48 (N : Nat) (r_5 : Int32 → Int32 → Int32 → Int32 → PI → PL → RES) : Nat → Int32 → Int32 → Int32 → Int32 → Int32 → Int32 → PI → PL → RES
  | 0, _, _, _, _, _, _, _, _ => none
  | n + 1, v1, v2, v3, v4, v5, v6, I, L => (if v3 < v6 then r_5 v1 v2 v3 (v4 + 1) I L else bI (f_X8_seenByThree N v1 v4 v6 I L) (fun x4 I5 L6 => bV (f_X8_prefer N ((v5 * 100) + v6) x4 I5 L6) (fun I8 L9 => (F_X8_staggerBehind_48 N r_5 n) v1 v2 v3 v4 v5 (v6 + 1) I8 L9)))
set_option maxRecDepth 100000 in
theorem E_X8_staggerBehind_48 (N d : Nat) (r_5 : Int32 → Int32 → Int32 → Int32 → PI → PL → RES) (hr_5 : ∀ (v1 : Int32) (v2 : Int32) (v3 : Int32) (v4 : Int32) (I : PI) (L : PL), EvW M_X8_staggerBehind (d + 2) 5 [(0, .ref 8), (1, .int v1), (2, .int v2), (3, .int v3), (4, .int v4)] [] I L (r_5 v1 v2 v3 v4 I L)) : ∀ (n : Nat) (v1 : Int32) (v2 : Int32) (v3 : Int32) (v4 : Int32) (v5 : Int32) (v6 : Int32) (I : PI) (L : PL), EvW M_X8_staggerBehind (d + 2) 48 [(0, .ref 8), (1, .int v1), (2, .int v2), (3, .int v3), (4, .int v4), (5, .int v5), (6, .int v6)] [] I L (F_X8_staggerBehind_48 N r_5 n v1 v2 v3 v4 v5 v6 I L) := by
  intro n
  induction n with
  | zero =>
    intro v1 v2 v3 v4 v5 v6 I L
    exact EvW.none
  | succ n hr_48 =>
    intro v1 v2 v3 v4 v5 v6 I L
    rw [F_X8_staggerBehind_48]
    refine ev_iload (pc := 48) 6 dX8_staggerBehind_48 rfl ?_
    refine ev_iload_n (pc := 50) 3 dX8_staggerBehind_50 rfl ?_
    refine ev_icmp_gt (pc := 51) 81 (by decide) dX8_staggerBehind_51 ?_ ?_
    · refine ev_iinc (pc := 81) (lv' := [(4, .int (v4 + 1)), (0, .ref 8), (1, .int v1), (2, .int v2), (3, .int v3), (5, .int v5), (6, .int v6)]) dX8_staggerBehind_81 4 rfl rfl 1 k_iconst_1 rfl ?_
      refine ev_goto (pc := 84) 5 (by decide) dX8_staggerBehind_84 ?_
      refine EvW.sub [1, 2, 3, 4, 0] rfl ?_
      exact hr_5 v1 v2 v3 (v4 + 1) I L
    · refine ev_aload_n (pc := 54) 0 dX8_staggerBehind_54 rfl ?_
      refine ev_iload (pc := 55) 5 dX8_staggerBehind_55 rfl ?_
      refine ev_bipush (pc := 57) 100 k_bipush_100 dX8_staggerBehind_57 ?_
      refine ev_imul (pc := 59) dX8_staggerBehind_59 ?_
      refine ev_iload (pc := 60) 6 dX8_staggerBehind_60 rfl ?_
      refine ev_iadd (pc := 62) dX8_staggerBehind_62 ?_
      refine ev_aload_n (pc := 63) 0 dX8_staggerBehind_63 rfl ?_
      refine ev_iload_n (pc := 64) 1 dX8_staggerBehind_64 rfl ?_
      refine ev_iload (pc := 65) 4 dX8_staggerBehind_65 rfl ?_
      refine ev_iload (pc := 67) 6 dX8_staggerBehind_67 rfl ?_
      refine ev_callVI (pc := 69) (d := d + 1) (As := [.int v1, .int v4, .int v6]) (st := [.int ((v5 * 100) + v6), .ref 8]) cv_X8_seenByThree rfl w_641 rfl (Nat.le_of_ble_eq_true rfl) (ok_X8_seenByThree N (d) v1 v4 v6 I L) dX8_staggerBehind_69 (fun x4 I5 L6 => ?_)
      refine ev_callVV (pc := 72) (d := d + 1) (As := [.int ((v5 * 100) + v6), .int x4]) (st := []) cv_X8_prefer rfl w_413 rfl (Nat.le_of_ble_eq_true rfl) (ok_X8_prefer N (d + 1) ((v5 * 100) + v6) x4 I5 L6) dX8_staggerBehind_72 (fun I8 L9 => ?_)
      refine ev_iinc (pc := 75) (lv' := [(6, .int (v6 + 1)), (0, .ref 8), (1, .int v1), (2, .int v2), (3, .int v3), (4, .int v4), (5, .int v5)]) dX8_staggerBehind_75 6 rfl rfl 1 k_iconst_1 rfl ?_
      refine ev_goto (pc := 78) 48 (by decide) dX8_staggerBehind_78 ?_
      refine EvW.sub [1, 2, 3, 4, 5, 6, 0] rfl ?_
      exact hr_48 v1 v2 v3 v4 v5 (v6 + 1) I8 L9
def F_X8_staggerBehind_5 (N : Nat) : Nat → Int32 → Int32 → Int32 → Int32 → PI → PL → RES
  | 0, _, _, _, _, _, _ => none
  | n + 1, v1, v2, v3, v4, I, L => (if v3 < v4 then some (none, I, L) else nmI ((v1 * 100) + v4) (fun x2 => (if v2 = 2 then bI (f_X8_seenByThree N v1 v4 0 I L) (fun x10 I11 L12 => bV (f_X8_prefer N x2 x10 I11 L12) (fun I14 L15 => (F_X8_staggerBehind_5 N n) v1 v2 v3 (v4 + 1) I14 L15)) else nmI (v4 + 1) (fun x3 => F_X8_staggerBehind_48 N (F_X8_staggerBehind_5 N n) N v1 v2 v3 v4 x2 x3 I L))))
set_option maxRecDepth 100000 in
theorem E_X8_staggerBehind_5 (N d : Nat) : ∀ (n : Nat) (v1 : Int32) (v2 : Int32) (v3 : Int32) (v4 : Int32) (I : PI) (L : PL), EvW M_X8_staggerBehind (d + 2) 5 [(0, .ref 8), (1, .int v1), (2, .int v2), (3, .int v3), (4, .int v4)] [] I L (F_X8_staggerBehind_5 N n v1 v2 v3 v4 I L) := by
  intro n
  induction n with
  | zero =>
    intro v1 v2 v3 v4 I L
    exact EvW.none
  | succ n hr_5 =>
    intro v1 v2 v3 v4 I L
    rw [F_X8_staggerBehind_5]
    refine ev_iload (pc := 5) 4 dX8_staggerBehind_5 rfl ?_
    refine ev_iload_n (pc := 7) 3 dX8_staggerBehind_7 rfl ?_
    refine ev_icmp_gt (pc := 8) 87 (by decide) dX8_staggerBehind_8 ?_ ?_
    · exact ev_vret (pc := 87) rfl dX8_staggerBehind_87
    · refine ev_iload_n (pc := 11) 1 dX8_staggerBehind_11 rfl ?_
      refine ev_bipush (pc := 12) 100 k_bipush_100 dX8_staggerBehind_12 ?_
      refine ev_imul (pc := 14) dX8_staggerBehind_14 ?_
      refine ev_iload (pc := 15) 4 dX8_staggerBehind_15 rfl ?_
      refine ev_iadd (pc := 17) dX8_staggerBehind_17 ?_
      refine ev_nmI (fun x2 => ?_)
      refine ev_istore (pc := 18) (lv' := [(5, .int x2), (0, .ref 8), (1, .int v1), (2, .int v2), (3, .int v3), (4, .int v4)]) dX8_staggerBehind_18 rfl rfl ?_
      refine ev_iload_n (pc := 20) 3 dX8_staggerBehind_20 rfl ?_
      refine ev_iconst (pc := 21) 2 k_iconst_2 dX8_staggerBehind_21 ?_
      refine ev_icmp_ne (pc := 22) 42 (by decide) dX8_staggerBehind_22 ?_ ?_
      · refine ev_iload (pc := 42) 5 dX8_staggerBehind_42 rfl ?_
        refine ev_iconst (pc := 44) 1 k_iconst_1 dX8_staggerBehind_44 ?_
        refine ev_iadd (pc := 45) dX8_staggerBehind_45 ?_
        refine ev_nmI (fun x3 => ?_)
        refine ev_istore (pc := 46) (lv' := [(6, .int x3), (5, .int x2), (0, .ref 8), (1, .int v1), (2, .int v2), (3, .int v3), (4, .int v4)]) dX8_staggerBehind_46 rfl rfl ?_
        refine EvW.sub [2, 3, 4, 5, 6, 1, 0] rfl ?_
        exact E_X8_staggerBehind_48 N d (F_X8_staggerBehind_5 N n) hr_5 N v1 v2 v3 v4 x2 x3 I L
      · refine ev_aload_n (pc := 25) 1 dX8_staggerBehind_25 rfl ?_
        refine ev_iload (pc := 26) 0 dX8_staggerBehind_26 rfl ?_
        refine ev_aload_n (pc := 28) 1 dX8_staggerBehind_28 rfl ?_
        refine ev_iload_n (pc := 29) 2 dX8_staggerBehind_29 rfl ?_
        refine ev_iload (pc := 30) 5 dX8_staggerBehind_30 rfl ?_
        refine ev_iconst (pc := 32) 0 k_iconst_0 dX8_staggerBehind_32 ?_
        refine ev_callVI (pc := 33) (d := d + 1) (As := [.int v1, .int v4, .int 0]) (st := [.int x2, .ref 8]) cv_X8_seenByThree rfl w_641 rfl (Nat.le_of_ble_eq_true rfl) (ok_X8_seenByThree N (d) v1 v4 0 I L) dX8_staggerBehind_33 (fun x10 I11 L12 => ?_)
        refine ev_callVV (pc := 36) (d := d + 1) (As := [.int x2, .int x10]) (st := []) cv_X8_prefer rfl w_413 rfl (Nat.le_of_ble_eq_true rfl) (ok_X8_prefer N (d + 1) x2 x10 I11 L12) dX8_staggerBehind_36 (fun I14 L15 => ?_)
        refine ev_goto (pc := 39) 81 (by decide) dX8_staggerBehind_39 ?_
        refine ev_iinc (pc := 81) (lv' := [(4, .int (v4 + 1)), (5, .int x2), (0, .ref 8), (1, .int v1), (2, .int v2), (3, .int v3)]) dX8_staggerBehind_81 5 rfl rfl 1 k_iconst_1 rfl ?_
        refine ev_goto (pc := 84) 5 (by decide) dX8_staggerBehind_84 ?_
        refine EvW.sub [2, 3, 4, 5, 0] rfl ?_
        exact hr_5 v1 v2 v3 (v4 + 1) I14 L15
def f_X8_staggerBehind (N : Nat) (a1 : Int32) (a2 : Int32) (a3 : Int32) (I : PI) (L : PL) : RES := nmI (a1 + 1) (fun x1 => F_X8_staggerBehind_5 N N a1 a2 a3 x1 I L)
set_option maxRecDepth 100000 in
theorem ok_X8_staggerBehind (N d : Nat) (a1 : Int32) (a2 : Int32) (a3 : Int32) (I : PI) (L : PL) : MOk M_X8_staggerBehind (d + 2) [.ref 8, .int a1, .int a2, .int a3] I L (f_X8_staggerBehind N a1 a2 a3 I L) := by
  refine MOk.of (by decide +kernel) (Nat.le_of_ble_eq_true rfl) ?_
  show EvW _ _ 0 [(0, .ref 8), (1, .int a1), (2, .int a2), (3, .int a3)] [] I L _
  rw [f_X8_staggerBehind]
  refine ev_iload_n (pc := 0) 1 dX8_staggerBehind_0 rfl ?_
  refine ev_iconst (pc := 1) 1 k_iconst_1 dX8_staggerBehind_1 ?_
  refine ev_iadd (pc := 2) dX8_staggerBehind_2 ?_
  refine ev_nmI (fun x1 => ?_)
  refine ev_istore (pc := 3) (lv' := [(4, .int x1), (0, .ref 8), (1, .int a1), (2, .int a2), (3, .int a3)]) dX8_staggerBehind_3 rfl rfl ?_
  refine EvW.sub [1, 2, 3, 4, 0] rfl ?_
  exact E_X8_staggerBehind_5 N d N a1 a2 a3 x1 I L
def F_X8_staggerBest_21 (N : Nat) : Nat → Int32 → Int32 → Int32 → PI → PL → RES
  | 0, _, _, _, _, _ => none
  | n + 1, v1, v3, v5, I, L => (if v3 < v5 then some (none, I, L) else (if v1 = 1 then bI (f_X8_seenByThree N v5 0 0 I L) (fun x9 I10 L11 => bV (f_X8_prefer N v5 x9 I10 L11) (fun I13 L14 => (F_X8_staggerBest_21 N n) v1 v3 (v5 + 1) I13 L14)) else bV (f_X8_staggerBehind N v5 v1 v3 I L) (fun I7 L8 => (F_X8_staggerBest_21 N n) v1 v3 (v5 + 1) I7 L8)))
set_option maxRecDepth 100000 in
theorem E_X8_staggerBest_21 (N d : Nat) : ∀ (n : Nat) (v1 : Int32) (v3 : Int32) (v5 : Int32) (I : PI) (L : PL), EvW M_X8_staggerBest (d + 3) 21 [(0, .ref 8), (1, .int v1), (3, .int v3), (5, .int v5)] [] I L (F_X8_staggerBest_21 N n v1 v3 v5 I L) := by
  intro n
  induction n with
  | zero =>
    intro v1 v3 v5 I L
    exact EvW.none
  | succ n hr_21 =>
    intro v1 v3 v5 I L
    rw [F_X8_staggerBest_21]
    refine ev_iload (pc := 21) 3 dX8_staggerBest_21 rfl ?_
    refine ev_iload_n (pc := 23) 2 dX8_staggerBest_23 rfl ?_
    refine ev_icmp_gt (pc := 24) 63 (by decide) dX8_staggerBest_24 ?_ ?_
    · exact ev_vret (pc := 63) rfl dX8_staggerBest_63
    · refine ev_iload_n (pc := 27) 1 dX8_staggerBest_27 rfl ?_
      refine ev_iconst (pc := 28) 1 k_iconst_1 dX8_staggerBest_28 ?_
      refine ev_icmp_ne (pc := 29) 49 (by decide) dX8_staggerBest_29 ?_ ?_
      · refine ev_aload_n (pc := 49) 0 dX8_staggerBest_49 rfl ?_
        refine ev_iload (pc := 50) 3 dX8_staggerBest_50 rfl ?_
        refine ev_iload_n (pc := 52) 1 dX8_staggerBest_52 rfl ?_
        refine ev_iload_n (pc := 53) 2 dX8_staggerBest_53 rfl ?_
        refine ev_callVV (pc := 54) (d := d + 2) (As := [.int v5, .int v1, .int v3]) (st := []) cv_X8_staggerBehind rfl w_645 rfl (Nat.le_of_ble_eq_true rfl) (ok_X8_staggerBehind N (d) v5 v1 v3 I L) dX8_staggerBest_54 (fun I7 L8 => ?_)
        refine ev_iinc (pc := 57) (lv' := [(5, .int (v5 + 1)), (0, .ref 8), (1, .int v1), (3, .int v3)]) dX8_staggerBest_57 3 rfl rfl 1 k_iconst_1 rfl ?_
        refine ev_goto (pc := 60) 21 (by decide) dX8_staggerBest_60 ?_
        refine EvW.sub [1, 2, 3, 0] rfl ?_
        exact hr_21 v1 v3 (v5 + 1) I7 L8
      · refine ev_aload_n (pc := 32) 0 dX8_staggerBest_32 rfl ?_
        refine ev_iload (pc := 33) 3 dX8_staggerBest_33 rfl ?_
        refine ev_aload_n (pc := 35) 0 dX8_staggerBest_35 rfl ?_
        refine ev_iload (pc := 36) 3 dX8_staggerBest_36 rfl ?_
        refine ev_iconst (pc := 38) 0 k_iconst_0 dX8_staggerBest_38 ?_
        refine ev_iconst (pc := 39) 0 k_iconst_0 dX8_staggerBest_39 ?_
        refine ev_callVI (pc := 40) (d := d + 2) (As := [.int v5, .int 0, .int 0]) (st := [.int v5, .ref 8]) cv_X8_seenByThree rfl w_641 rfl (Nat.le_of_ble_eq_true rfl) (ok_X8_seenByThree N (d + 1) v5 0 0 I L) dX8_staggerBest_40 (fun x9 I10 L11 => ?_)
        refine ev_callVV (pc := 43) (d := d + 2) (As := [.int v5, .int x9]) (st := []) cv_X8_prefer rfl w_413 rfl (Nat.le_of_ble_eq_true rfl) (ok_X8_prefer N (d + 2) v5 x9 I10 L11) dX8_staggerBest_43 (fun I13 L14 => ?_)
        refine ev_goto (pc := 46) 57 (by decide) dX8_staggerBest_46 ?_
        refine ev_iinc (pc := 57) (lv' := [(5, .int (v5 + 1)), (0, .ref 8), (1, .int v1), (3, .int v3)]) dX8_staggerBest_57 3 rfl rfl 1 k_iconst_1 rfl ?_
        refine ev_goto (pc := 60) 21 (by decide) dX8_staggerBest_60 ?_
        refine EvW.sub [1, 2, 3, 0] rfl ?_
        exact hr_21 v1 v3 (v5 + 1) I13 L14
def f_X8_staggerBest (N : Nat) (a1 : Int32) (a2 : Int32) (a3 : Int32) (a4 : Int32) (I : PI) (L : PL) : RES := bV (f_X8_tellSeenWays N a2 a3 a4 I L) (fun I2 L3 => nmW (uI I2 8 7 (-1 : Int32)) (fun I4 => nmW (uI I4 8 8 (-1 : Int32)) (fun I5 => F_X8_staggerBest_21 N N a1 a3 a2 I5 L3)))
set_option maxRecDepth 100000 in
theorem ok_X8_staggerBest (N d : Nat) (a1 : Int32) (a2 : Int32) (a3 : Int32) (a4 : Int32) (I : PI) (L : PL) : MOk M_X8_staggerBest (d + 3) [.ref 8, .int a1, .int a2, .int a3, .int a4] I L (f_X8_staggerBest N a1 a2 a3 a4 I L) := by
  refine MOk.of (by decide +kernel) (Nat.le_of_ble_eq_true rfl) ?_
  show EvW _ _ 0 [(0, .ref 8), (1, .int a1), (2, .int a2), (3, .int a3), (4, .int a4)] [] I L _
  rw [f_X8_staggerBest]
  refine ev_aload_n (pc := 0) 0 dX8_staggerBest_0 rfl ?_
  refine ev_iload_n (pc := 1) 2 dX8_staggerBest_1 rfl ?_
  refine ev_iload_n (pc := 2) 3 dX8_staggerBest_2 rfl ?_
  refine ev_iload (pc := 3) 4 dX8_staggerBest_3 rfl ?_
  refine ev_callVV (pc := 5) (d := d + 2) (As := [.int a2, .int a3, .int a4]) (st := []) cv_X8_tellSeenWays rfl w_626 rfl (Nat.le_of_ble_eq_true rfl) (ok_X8_tellSeenWays N (d) a2 a3 a4 I L) dX8_staggerBest_5 (fun I2 L3 => ?_)
  refine ev_aload_n (pc := 8) 0 dX8_staggerBest_8 rfl ?_
  refine ev_iconst (pc := 9) (-1 : Int32) k_iconst_m1 dX8_staggerBest_9 ?_
  refine pf_X8_96 (pc := 10) rfl dX8_staggerBest_10 ?_
  refine ev_nmW (fun I4 => ?_)
  refine ev_aload_n (pc := 13) 0 dX8_staggerBest_13 rfl ?_
  refine ev_iconst (pc := 14) (-1 : Int32) k_iconst_m1 dX8_staggerBest_14 ?_
  refine pf_X8_99 (pc := 15) rfl dX8_staggerBest_15 ?_
  refine ev_nmW (fun I5 => ?_)
  refine ev_iload_n (pc := 18) 2 dX8_staggerBest_18 rfl ?_
  refine ev_istore (pc := 19) (lv' := [(5, .int a2), (0, .ref 8), (1, .int a1), (2, .int a2), (3, .int a3), (4, .int a4)]) dX8_staggerBest_19 rfl rfl ?_
  refine EvW.sub [1, 2, 4, 0] rfl ?_
  exact E_X8_staggerBest_21 N d N a1 a3 a2 I5 L3
def f_X11_stagger (N : Nat) (a1 : Int32) (a2 : Int32) (a3 : Int32) (a4 : Int32) (a5 : Int32) (I : PI) (L : PL) : RES := bI (f_X11_within N a1 1 3 I L) (fun x1 I2 L3 => (if x1 = 0 then some (some (.int (-1 : Int32)), I2, L3) else bI (f_X11_within N a2 2 30 I2 L3) (fun x4 I5 L6 => (if x4 = 0 then some (some (.int (-1 : Int32)), I5, L6) else bI (f_X11_within N a3 2 30 I5 L6) (fun x7 I8 L9 => (if x7 = 0 then some (some (.int (-1 : Int32)), I8, L9) else (if ((a3 - a2) + 1) < a1 then some (some (.int (-1 : Int32)), I8, L9) else bI (f_X11_within N a4 1 300 I8 L9) (fun x10 I11 L12 => (if x10 = 0 then some (some (.int (-1 : Int32)), I11, L12) else bI (f_X11_within N a5 0 1 I11 L12) (fun x13 I14 L15 => (if x13 = 0 then some (some (.int (-1 : Int32)), I14, L15) else bV (f_X8_staggerBest N a1 a2 a3 a4 I14 L15) (fun I17 L18 => (if a5 = 0 then some (some (.int (I17 8 7)), I17, L18) else some (some (.int (I17 8 8)), I17, L18))))))))))))))
set_option maxRecDepth 100000 in
theorem ok_X11_stagger (N d : Nat) (a1 : Int32) (a2 : Int32) (a3 : Int32) (a4 : Int32) (a5 : Int32) (I : PI) (L : PL) : MOk M_X11_stagger (d + 4) [.ref 11, .int a1, .int a2, .int a3, .int a4, .int a5] I L (f_X11_stagger N a1 a2 a3 a4 a5 I L) := by
  refine MOk.of (by decide +kernel) (Nat.le_of_ble_eq_true rfl) ?_
  show EvW _ _ 0 [(0, .ref 11), (1, .int a1), (2, .int a2), (3, .int a3), (4, .int a4), (5, .int a5)] [] I L _
  rw [f_X11_stagger]
  refine ev_iload_n (pc := 0) 1 dX11_stagger_0 rfl ?_
  refine ev_iconst (pc := 1) 1 k_iconst_1 dX11_stagger_1 ?_
  refine ev_iconst (pc := 2) 3 k_iconst_3 dX11_stagger_2 ?_
  refine ev_callSI (pc := 3) (d := d + 3) (As := [.int a1, .int 1, .int 3]) (st := []) cv_X11_within rfl w_18 rfl (Nat.le_of_ble_eq_true rfl) (ok_X11_within N (d + 3) a1 1 3 I L) dX11_stagger_3 (fun x1 I2 L3 => ?_)
  refine ev_if_eq (pc := 6) 60 (by decide) dX11_stagger_6 ?_ ?_
  · refine ev_iconst (pc := 60) (-1 : Int32) k_iconst_m1 dX11_stagger_60 ?_
    exact ev_iret (pc := 61) rfl dX11_stagger_61
  · refine ev_iload_n (pc := 9) 2 dX11_stagger_9 rfl ?_
    refine ev_iconst (pc := 10) 2 k_iconst_2 dX11_stagger_10 ?_
    refine ev_bipush (pc := 11) 30 k_bipush_30 dX11_stagger_11 ?_
    refine ev_callSI (pc := 13) (d := d + 3) (As := [.int a2, .int 2, .int 30]) (st := []) cv_X11_within rfl w_18 rfl (Nat.le_of_ble_eq_true rfl) (ok_X11_within N (d + 3) a2 2 30 I2 L3) dX11_stagger_13 (fun x4 I5 L6 => ?_)
    refine ev_if_eq (pc := 16) 60 (by decide) dX11_stagger_16 ?_ ?_
    · refine ev_iconst (pc := 60) (-1 : Int32) k_iconst_m1 dX11_stagger_60 ?_
      exact ev_iret (pc := 61) rfl dX11_stagger_61
    · refine ev_iload_n (pc := 19) 3 dX11_stagger_19 rfl ?_
      refine ev_iconst (pc := 20) 2 k_iconst_2 dX11_stagger_20 ?_
      refine ev_bipush (pc := 21) 30 k_bipush_30 dX11_stagger_21 ?_
      refine ev_callSI (pc := 23) (d := d + 3) (As := [.int a3, .int 2, .int 30]) (st := []) cv_X11_within rfl w_18 rfl (Nat.le_of_ble_eq_true rfl) (ok_X11_within N (d + 3) a3 2 30 I5 L6) dX11_stagger_23 (fun x7 I8 L9 => ?_)
      refine ev_if_eq (pc := 26) 60 (by decide) dX11_stagger_26 ?_ ?_
      · refine ev_iconst (pc := 60) (-1 : Int32) k_iconst_m1 dX11_stagger_60 ?_
        exact ev_iret (pc := 61) rfl dX11_stagger_61
      · refine ev_iload_n (pc := 29) 3 dX11_stagger_29 rfl ?_
        refine ev_iload_n (pc := 30) 2 dX11_stagger_30 rfl ?_
        refine ev_isub (pc := 31) dX11_stagger_31 ?_
        refine ev_iconst (pc := 32) 1 k_iconst_1 dX11_stagger_32 ?_
        refine ev_iadd (pc := 33) dX11_stagger_33 ?_
        refine ev_iload_n (pc := 34) 1 dX11_stagger_34 rfl ?_
        refine ev_icmp_lt (pc := 35) 60 (by decide) dX11_stagger_35 ?_ ?_
        · refine ev_iconst (pc := 60) (-1 : Int32) k_iconst_m1 dX11_stagger_60 ?_
          exact ev_iret (pc := 61) rfl dX11_stagger_61
        · refine ev_iload (pc := 38) 4 dX11_stagger_38 rfl ?_
          refine ev_iconst (pc := 40) 1 k_iconst_1 dX11_stagger_40 ?_
          refine ev_sipush (pc := 41) 300 k_sipush_300 dX11_stagger_41 ?_
          refine ev_callSI (pc := 44) (d := d + 3) (As := [.int a4, .int 1, .int 300]) (st := []) cv_X11_within rfl w_18 rfl (Nat.le_of_ble_eq_true rfl) (ok_X11_within N (d + 3) a4 1 300 I8 L9) dX11_stagger_44 (fun x10 I11 L12 => ?_)
          refine ev_if_eq (pc := 47) 60 (by decide) dX11_stagger_47 ?_ ?_
          · refine ev_iconst (pc := 60) (-1 : Int32) k_iconst_m1 dX11_stagger_60 ?_
            exact ev_iret (pc := 61) rfl dX11_stagger_61
          · refine ev_iload (pc := 50) 5 dX11_stagger_50 rfl ?_
            refine ev_iconst (pc := 52) 0 k_iconst_0 dX11_stagger_52 ?_
            refine ev_iconst (pc := 53) 1 k_iconst_1 dX11_stagger_53 ?_
            refine ev_callSI (pc := 54) (d := d + 3) (As := [.int a5, .int 0, .int 1]) (st := []) cv_X11_within rfl w_18 rfl (Nat.le_of_ble_eq_true rfl) (ok_X11_within N (d + 3) a5 0 1 I11 L12) dX11_stagger_54 (fun x13 I14 L15 => ?_)
            refine ev_if_ne (pc := 57) 62 (by decide) dX11_stagger_57 ?_ ?_
            · refine ev_aload_n (pc := 62) 0 dX11_stagger_62 rfl ?_
              refine gf_X11_66 (pc := 63) rfl dX11_stagger_63 ?_
              refine ev_iload_n (pc := 66) 1 dX11_stagger_66 rfl ?_
              refine ev_iload_n (pc := 67) 2 dX11_stagger_67 rfl ?_
              refine ev_iload_n (pc := 68) 3 dX11_stagger_68 rfl ?_
              refine ev_iload (pc := 69) 4 dX11_stagger_69 rfl ?_
              refine ev_callVV (pc := 71) (d := d + 3) (As := [.int a1, .int a2, .int a3, .int a4]) (st := []) cv_X8_staggerBest rfl w_649 rfl (Nat.le_of_ble_eq_true rfl) (ok_X8_staggerBest N (d) a1 a2 a3 a4 I14 L15) dX11_stagger_71 (fun I17 L18 => ?_)
              refine ev_iload (pc := 74) 5 dX11_stagger_74 rfl ?_
              refine ev_if_ne (pc := 76) 89 (by decide) dX11_stagger_76 ?_ ?_
              · refine ev_aload_n (pc := 89) 0 dX11_stagger_89 rfl ?_
                refine gf_X11_66 (pc := 90) rfl dX11_stagger_90 ?_
                refine gf_X11_239 (pc := 93) rfl dX11_stagger_93 ?_
                exact ev_iret (pc := 96) rfl dX11_stagger_96
              · refine ev_aload_n (pc := 79) 0 dX11_stagger_79 rfl ?_
                refine gf_X11_66 (pc := 80) rfl dX11_stagger_80 ?_
                refine gf_X11_236 (pc := 83) rfl dX11_stagger_83 ?_
                refine ev_goto (pc := 86) 96 (by decide) dX11_stagger_86 ?_
                exact ev_iret (pc := 96) rfl dX11_stagger_96
            · refine ev_iconst (pc := 60) (-1 : Int32) k_iconst_m1 dX11_stagger_60 ?_
              exact ev_iret (pc := 61) rfl dX11_stagger_61
def F_X9_leastFactor_2 (N : Nat) : Nat → Int32 → Int32 → PI → PL → RES
  | 0, _, _, _, _ => none
  | n + 1, v1, v2, I, L => (if 99 < v2 then some (some (.int (-1 : Int32)), I, L) else bJ (f_X9_partsAbove N v2 I L) (fun x1 I2 L3 => (if 0 < (lg_cmp x1 (Int32.toInt64 v1)) then (F_X9_leastFactor_2 N n) v1 (v2 + 1) I2 L3 else some (some (.int v2), I2, L3))))
set_option maxRecDepth 100000 in
theorem E_X9_leastFactor_2 (N d : Nat) : ∀ (n : Nat) (v1 : Int32) (v2 : Int32) (I : PI) (L : PL), EvW M_X9_leastFactor (d + 3) 2 [(0, .ref 9), (1, .int v1), (2, .int v2)] [] I L (F_X9_leastFactor_2 N n v1 v2 I L) := by
  intro n
  induction n with
  | zero =>
    intro v1 v2 I L
    exact EvW.none
  | succ n hr_2 =>
    intro v1 v2 I L
    rw [F_X9_leastFactor_2]
    refine ev_iload_n (pc := 2) 2 dX9_leastFactor_2 rfl ?_
    refine ev_bipush (pc := 3) 99 k_bipush_99 dX9_leastFactor_3 ?_
    refine ev_icmp_gt (pc := 5) 27 (by decide) dX9_leastFactor_5 ?_ ?_
    · refine ev_iconst (pc := 27) (-1 : Int32) k_iconst_m1 dX9_leastFactor_27 ?_
      exact ev_iret (pc := 28) rfl dX9_leastFactor_28
    · refine ev_aload_n (pc := 8) 0 dX9_leastFactor_8 rfl ?_
      refine ev_iload_n (pc := 9) 2 dX9_leastFactor_9 rfl ?_
      refine ev_callVJ (pc := 10) (d := d + 2) (As := [.int v2]) (st := []) cv_X9_partsAbove rfl w_651 rfl (Nat.le_of_ble_eq_true rfl) (ok_X9_partsAbove N (d) v2 I L) dX9_leastFactor_10 (fun x1 I2 L3 => ?_)
      refine ev_iload_n (pc := 13) 1 dX9_leastFactor_13 rfl ?_
      refine ev_i2l (pc := 14) dX9_leastFactor_14 ?_
      refine ev_lcmp (pc := 15) dX9_leastFactor_15 ?_
      refine ev_if_gt (pc := 16) 21 (by decide) dX9_leastFactor_16 ?_ ?_
      · refine ev_iinc (pc := 21) (lv' := [(2, .int (v2 + 1)), (0, .ref 9), (1, .int v1)]) dX9_leastFactor_21 2 rfl rfl 1 k_iconst_1 rfl ?_
        refine ev_goto (pc := 24) 2 (by decide) dX9_leastFactor_24 ?_
        refine EvW.sub [1, 2, 0] rfl ?_
        exact hr_2 v1 (v2 + 1) I2 L3
      · refine ev_iload_n (pc := 19) 2 dX9_leastFactor_19 rfl ?_
        exact ev_iret (pc := 20) rfl dX9_leastFactor_20
def f_X9_leastFactor (N : Nat) (a1 : Int32) (I : PI) (L : PL) : RES := F_X9_leastFactor_2 N N a1 0 I L
set_option maxRecDepth 100000 in
theorem ok_X9_leastFactor (N d : Nat) (a1 : Int32) (I : PI) (L : PL) : MOk M_X9_leastFactor (d + 3) [.ref 9, .int a1] I L (f_X9_leastFactor N a1 I L) := by
  refine MOk.of (by decide +kernel) (Nat.le_of_ble_eq_true rfl) ?_
  show EvW _ _ 0 [(0, .ref 9), (1, .int a1)] [] I L _
  rw [f_X9_leastFactor]
  refine ev_iconst (pc := 0) 0 k_iconst_0 dX9_leastFactor_0 ?_
  refine ev_istore_n (pc := 1) (lv' := [(2, .int 0), (0, .ref 9), (1, .int a1)]) dX9_leastFactor_1 rfl rfl rfl ?_
  refine EvW.sub [1, 2, 0] rfl ?_
  exact E_X9_leastFactor_2 N d N a1 0 I L
def f_X11_factor (N : Nat) (a1 : Int32) (a2 : Int32) (a3 : Int32) (a4 : Int32) (I : PI) (L : PL) : RES := bI (f_X9_areBounds N a1 a2 a3 I L) (fun x1 I2 L3 => (if x1 = 0 then some (some (.int (-1 : Int32)), I2, L3) else (if a4 < 0 then some (some (.int (-1 : Int32)), I2, L3) else (if (lg_cmp (Int32.toInt64 a4) 1000000) ≤ 0 then bV (f_X9_learn N a1 a2 a3 I2 L3) (fun I5 L6 => bI (f_X9_leastFactor N a4 I5 L6) (fun x7 I8 L9 => some (some (.int x7), I8, L9))) else some (some (.int (-1 : Int32)), I2, L3)))))
set_option maxRecDepth 100000 in
theorem ok_X11_factor (N d : Nat) (a1 : Int32) (a2 : Int32) (a3 : Int32) (a4 : Int32) (I : PI) (L : PL) : MOk M_X11_factor (d + 4) [.ref 11, .int a1, .int a2, .int a3, .int a4] I L (f_X11_factor N a1 a2 a3 a4 I L) := by
  refine MOk.of (by decide +kernel) (Nat.le_of_ble_eq_true rfl) ?_
  show EvW _ _ 0 [(0, .ref 11), (1, .int a1), (2, .int a2), (3, .int a3), (4, .int a4)] [] I L _
  rw [f_X11_factor]
  refine ev_iload_n (pc := 0) 1 dX11_factor_0 rfl ?_
  refine ev_iload_n (pc := 1) 2 dX11_factor_1 rfl ?_
  refine ev_iload_n (pc := 2) 3 dX11_factor_2 rfl ?_
  refine ev_callSI (pc := 3) (d := d + 3) (As := [.int a1, .int a2, .int a3]) (st := []) cv_X9_areBounds rfl w_536 rfl (Nat.le_of_ble_eq_true rfl) (ok_X9_areBounds N (d + 2) a1 a2 a3 I L) dX11_factor_3 (fun x1 I2 L3 => ?_)
  refine ev_if_eq (pc := 6) 24 (by decide) dX11_factor_6 ?_ ?_
  · refine ev_iconst (pc := 24) (-1 : Int32) k_iconst_m1 dX11_factor_24 ?_
    exact ev_iret (pc := 25) rfl dX11_factor_25
  · refine ev_iload (pc := 9) 4 dX11_factor_9 rfl ?_
    refine ev_if_lt (pc := 11) 24 (by decide) dX11_factor_11 ?_ ?_
    · refine ev_iconst (pc := 24) (-1 : Int32) k_iconst_m1 dX11_factor_24 ?_
      exact ev_iret (pc := 25) rfl dX11_factor_25
    · refine ev_iload (pc := 14) 4 dX11_factor_14 rfl ?_
      refine ev_i2l (pc := 16) dX11_factor_16 ?_
      refine ev_ldc2 (pc := 17) w_650 dX11_factor_17 ?_
      refine ev_lcmp (pc := 20) dX11_factor_20 ?_
      refine ev_if_le (pc := 21) 26 (by decide) dX11_factor_21 ?_ ?_
      · refine ev_aload_n (pc := 26) 0 dX11_factor_26 rfl ?_
        refine gf_X11_89 (pc := 27) rfl dX11_factor_27 ?_
        refine ev_iload_n (pc := 30) 1 dX11_factor_30 rfl ?_
        refine ev_iload_n (pc := 31) 2 dX11_factor_31 rfl ?_
        refine ev_iload_n (pc := 32) 3 dX11_factor_32 rfl ?_
        refine ev_callVV (pc := 33) (d := d + 3) (As := [.int a1, .int a2, .int a3]) (st := []) cv_X9_learn rfl w_556 rfl (Nat.le_of_ble_eq_true rfl) (ok_X9_learn N (d + 1) a1 a2 a3 I2 L3) dX11_factor_33 (fun I5 L6 => ?_)
        refine ev_aload_n (pc := 36) 0 dX11_factor_36 rfl ?_
        refine gf_X11_89 (pc := 37) rfl dX11_factor_37 ?_
        refine ev_iload (pc := 40) 4 dX11_factor_40 rfl ?_
        refine ev_callVI (pc := 42) (d := d + 3) (As := [.int a4]) (st := []) cv_X9_leastFactor rfl w_655 rfl (Nat.le_of_ble_eq_true rfl) (ok_X9_leastFactor N (d) a4 I5 L6) dX11_factor_42 (fun x7 I8 L9 => ?_)
        exact ev_iret (pc := 45) rfl dX11_factor_45
      · refine ev_iconst (pc := 24) (-1 : Int32) k_iconst_m1 dX11_factor_24 ?_
        exact ev_iret (pc := 25) rfl dX11_factor_25
def F_X5_heapsOf_54 (N : Nat) (r_13 : Int32 → Int32 → Int32 → Int32 → Int32 → Int32 → PI → PL → RES) (v1 : Int32) (v2 : Int32) (v3 : Int32) (v4 : Int32) (v5 : Int32) (v6 : Int32) (I : PI) (L : PL) : RES := (if v5 ≤ v3 then r_13 v1 v2 v3 v4 v5 (v6 + 1) I L else nmI ((v6 - v5) + 1) (fun x7 => r_13 v1 v2 v5 x7 v5 (v6 + 1) I L))
set_option maxRecDepth 100000 in
theorem E_X5_heapsOf_54 (N d : Nat) (r_13 : Int32 → Int32 → Int32 → Int32 → Int32 → Int32 → PI → PL → RES) (hr_13 : ∀ (v1 : Int32) (v2 : Int32) (v3 : Int32) (v4 : Int32) (v5 : Int32) (v6 : Int32) (I : PI) (L : PL), EvW M_X5_heapsOf (d + 5) 13 [(0, .ref 5), (1, .int v1), (2, .int v2), (3, .int v3), (4, .int v4), (5, .int v5), (6, .int v6)] [] I L (r_13 v1 v2 v3 v4 v5 v6 I L)) (v1 : Int32) (v2 : Int32) (v3 : Int32) (v4 : Int32) (v5 : Int32) (v6 : Int32) (I : PI) (L : PL) : EvW M_X5_heapsOf (d + 5) 54 [(0, .ref 5), (1, .int v1), (2, .int v2), (3, .int v3), (4, .int v4), (5, .int v5), (6, .int v6)] [] I L (F_X5_heapsOf_54 N r_13 v1 v2 v3 v4 v5 v6 I L) := by
  rw [F_X5_heapsOf_54]
  refine ev_iload (pc := 54) 5 dX5_heapsOf_54 rfl ?_
  refine ev_iload_n (pc := 56) 3 dX5_heapsOf_56 rfl ?_
  refine ev_icmp_le (pc := 57) 72 (by decide) dX5_heapsOf_57 ?_ ?_
  · refine ev_iinc (pc := 72) (lv' := [(6, .int (v6 + 1)), (0, .ref 5), (1, .int v1), (2, .int v2), (3, .int v3), (4, .int v4), (5, .int v5)]) dX5_heapsOf_72 6 rfl rfl 1 k_iconst_1 rfl ?_
    refine ev_goto (pc := 75) 13 (by decide) dX5_heapsOf_75 ?_
    refine EvW.sub [1, 2, 3, 4, 5, 6, 0] rfl ?_
    exact hr_13 v1 v2 v3 v4 v5 (v6 + 1) I L
  · refine ev_iload (pc := 60) 5 dX5_heapsOf_60 rfl ?_
    refine ev_istore_n (pc := 62) (lv' := [(3, .int v5), (0, .ref 5), (1, .int v1), (2, .int v2), (4, .int v4), (5, .int v5), (6, .int v6)]) dX5_heapsOf_62 rfl rfl rfl ?_
    refine ev_iload (pc := 63) 6 dX5_heapsOf_63 rfl ?_
    refine ev_iload (pc := 65) 5 dX5_heapsOf_65 rfl ?_
    refine ev_isub (pc := 67) dX5_heapsOf_67 ?_
    refine ev_iconst (pc := 68) 1 k_iconst_1 dX5_heapsOf_68 ?_
    refine ev_iadd (pc := 69) dX5_heapsOf_69 ?_
    refine ev_nmI (fun x7 => ?_)
    refine ev_istore (pc := 70) (lv' := [(4, .int x7), (3, .int v5), (0, .ref 5), (1, .int v1), (2, .int v2), (5, .int v5), (6, .int v6)]) dX5_heapsOf_70 rfl rfl ?_
    refine ev_iinc (pc := 72) (lv' := [(6, .int (v6 + 1)), (4, .int x7), (3, .int v5), (0, .ref 5), (1, .int v1), (2, .int v2), (5, .int v5)]) dX5_heapsOf_72 6 rfl rfl 1 k_iconst_1 rfl ?_
    refine ev_goto (pc := 75) 13 (by decide) dX5_heapsOf_75 ?_
    refine EvW.sub [3, 4, 5, 2, 1, 6, 0] rfl ?_
    exact hr_13 v1 v2 v5 x7 v5 (v6 + 1) I L
def F_X5_heapsOf_43 (N : Nat) (r_13 : Int32 → Int32 → Int32 → Int32 → Int32 → Int32 → PI → PL → RES) (v1 : Int32) (v2 : Int32) (v3 : Int32) (v4 : Int32) (v6 : Int32) (s0 : Int32) (I : PI) (L : PL) : RES := (if s0 = 1 then F_X5_heapsOf_54 N r_13 v1 (v2 + 1) v3 v4 s0 v6 I L else F_X5_heapsOf_54 N r_13 v1 v2 v3 v4 s0 v6 I L)
set_option maxRecDepth 100000 in
theorem E_X5_heapsOf_43 (N d : Nat) (r_13 : Int32 → Int32 → Int32 → Int32 → Int32 → Int32 → PI → PL → RES) (hr_13 : ∀ (v1 : Int32) (v2 : Int32) (v3 : Int32) (v4 : Int32) (v5 : Int32) (v6 : Int32) (I : PI) (L : PL), EvW M_X5_heapsOf (d + 5) 13 [(0, .ref 5), (1, .int v1), (2, .int v2), (3, .int v3), (4, .int v4), (5, .int v5), (6, .int v6)] [] I L (r_13 v1 v2 v3 v4 v5 v6 I L)) (v1 : Int32) (v2 : Int32) (v3 : Int32) (v4 : Int32) (v6 : Int32) (s0 : Int32) (I : PI) (L : PL) : EvW M_X5_heapsOf (d + 5) 43 [(0, .ref 5), (1, .int v1), (2, .int v2), (3, .int v3), (4, .int v4), (6, .int v6)] [.int s0] I L (F_X5_heapsOf_43 N r_13 v1 v2 v3 v4 v6 s0 I L) := by
  rw [F_X5_heapsOf_43]
  refine ev_istore (pc := 43) (lv' := [(5, .int s0), (0, .ref 5), (1, .int v1), (2, .int v2), (3, .int v3), (4, .int v4), (6, .int v6)]) dX5_heapsOf_43 rfl rfl ?_
  refine ev_iload (pc := 45) 0 dX5_heapsOf_45 rfl ?_
  refine ev_iconst (pc := 47) 1 k_iconst_1 dX5_heapsOf_47 ?_
  refine ev_icmp_ne (pc := 48) 54 (by decide) dX5_heapsOf_48 ?_ ?_
  · refine EvW.sub [1, 2, 3, 4, 5, 0, 6] rfl ?_
    exact E_X5_heapsOf_54 N d r_13 hr_13 v1 v2 v3 v4 s0 v6 I L
  · refine ev_iinc (pc := 51) (lv' := [(2, .int (v2 + 1)), (5, .int s0), (0, .ref 5), (1, .int v1), (3, .int v3), (4, .int v4), (6, .int v6)]) dX5_heapsOf_51 3 rfl rfl 1 k_iconst_1 rfl ?_
    refine EvW.sub [2, 3, 0, 4, 5, 1, 6] rfl ?_
    exact E_X5_heapsOf_54 N d r_13 hr_13 v1 (v2 + 1) v3 v4 s0 v6 I L
def F_X5_heapsOf_13 (N : Nat) : Nat → Int32 → Int32 → Int32 → Int32 → Int32 → Int32 → PI → PL → RES
  | 0, _, _, _, _, _, _, _, _ => none
  | n + 1, v1, v2, v3, v4, v5, v6, I, L => bI (f_X2_size N I L) (fun x1 I2 L3 => (if x1 ≤ v6 then (if v1 = 0 then some (some (.int v2), I2, L3) else (if v1 = 1 then some (some (.int v3), I2, L3) else some (some (.int v4), I2, L3))) else bI (f_X5_findingAt N v6 I2 L3) (fun x4 I5 L6 => (if x4 = 1 then F_X5_heapsOf_43 N (F_X5_heapsOf_13 N n) v1 v2 v3 v4 v6 (v5 + 1) I5 L6 else F_X5_heapsOf_43 N (F_X5_heapsOf_13 N n) v1 v2 v3 v4 v6 0 I5 L6))))
set_option maxRecDepth 100000 in
theorem E_X5_heapsOf_13 (N d : Nat) : ∀ (n : Nat) (v1 : Int32) (v2 : Int32) (v3 : Int32) (v4 : Int32) (v5 : Int32) (v6 : Int32) (I : PI) (L : PL), EvW M_X5_heapsOf (d + 5) 13 [(0, .ref 5), (1, .int v1), (2, .int v2), (3, .int v3), (4, .int v4), (5, .int v5), (6, .int v6)] [] I L (F_X5_heapsOf_13 N n v1 v2 v3 v4 v5 v6 I L) := by
  intro n
  induction n with
  | zero =>
    intro v1 v2 v3 v4 v5 v6 I L
    exact EvW.none
  | succ n hr_13 =>
    intro v1 v2 v3 v4 v5 v6 I L
    rw [F_X5_heapsOf_13]
    refine ev_iload (pc := 13) 6 dX5_heapsOf_13 rfl ?_
    refine ev_aload_n (pc := 15) 0 dX5_heapsOf_15 rfl ?_
    refine gf_X5_9 (pc := 16) rfl dX5_heapsOf_16 ?_
    refine ev_callVI (pc := 19) (d := d + 4) (As := []) (st := [.int v6]) cv_X2_size rfl w_527 rfl (Nat.le_of_ble_eq_true rfl) (ok_X2_size N (d + 4) I L) dX5_heapsOf_19 (fun x1 I2 L3 => ?_)
    refine ev_icmp_ge (pc := 22) 78 (by decide) dX5_heapsOf_22 ?_ ?_
    · refine ev_iload_n (pc := 78) 1 dX5_heapsOf_78 rfl ?_
      refine ev_if_ne (pc := 79) 84 (by decide) dX5_heapsOf_79 ?_ ?_
      · refine ev_iload_n (pc := 84) 1 dX5_heapsOf_84 rfl ?_
        refine ev_iconst (pc := 85) 1 k_iconst_1 dX5_heapsOf_85 ?_
        refine ev_icmp_ne (pc := 86) 93 (by decide) dX5_heapsOf_86 ?_ ?_
        · refine ev_iload (pc := 93) 4 dX5_heapsOf_93 rfl ?_
          exact ev_iret (pc := 95) rfl dX5_heapsOf_95
        · refine ev_iload_n (pc := 89) 3 dX5_heapsOf_89 rfl ?_
          refine ev_goto (pc := 90) 95 (by decide) dX5_heapsOf_90 ?_
          exact ev_iret (pc := 95) rfl dX5_heapsOf_95
      · refine ev_iload_n (pc := 82) 2 dX5_heapsOf_82 rfl ?_
        exact ev_iret (pc := 83) rfl dX5_heapsOf_83
    · refine ev_aload_n (pc := 25) 0 dX5_heapsOf_25 rfl ?_
      refine ev_iload (pc := 26) 6 dX5_heapsOf_26 rfl ?_
      refine ev_callVI (pc := 28) (d := d + 4) (As := [.int v6]) (st := []) cv_X5_findingAt rfl w_528 rfl (Nat.le_of_ble_eq_true rfl) (ok_X5_findingAt N (d) v6 I2 L3) dX5_heapsOf_28 (fun x4 I5 L6 => ?_)
      refine ev_iconst (pc := 31) 1 k_iconst_1 dX5_heapsOf_31 ?_
      refine ev_icmp_ne (pc := 32) 42 (by decide) dX5_heapsOf_32 ?_ ?_
      · refine ev_iconst (pc := 42) 0 k_iconst_0 dX5_heapsOf_42 ?_
        refine EvW.sub [0, 1, 2, 3, 4, 6] rfl ?_
        exact E_X5_heapsOf_43 N d (F_X5_heapsOf_13 N n) hr_13 v1 v2 v3 v4 v6 0 I5 L6
      · refine ev_iload (pc := 35) 5 dX5_heapsOf_35 rfl ?_
        refine ev_iconst (pc := 37) 1 k_iconst_1 dX5_heapsOf_37 ?_
        refine ev_iadd (pc := 38) dX5_heapsOf_38 ?_
        refine ev_goto (pc := 39) 43 (by decide) dX5_heapsOf_39 ?_
        refine EvW.sub [0, 1, 2, 3, 4, 6] rfl ?_
        exact E_X5_heapsOf_43 N d (F_X5_heapsOf_13 N n) hr_13 v1 v2 v3 v4 v6 (v5 + 1) I5 L6
def f_X5_heapsOf (N : Nat) (a1 : Int32) (I : PI) (L : PL) : RES := F_X5_heapsOf_13 N N a1 0 0 (-1 : Int32) 0 0 I L
set_option maxRecDepth 100000 in
theorem ok_X5_heapsOf (N d : Nat) (a1 : Int32) (I : PI) (L : PL) : MOk M_X5_heapsOf (d + 5) [.ref 5, .int a1] I L (f_X5_heapsOf N a1 I L) := by
  refine MOk.of (by decide +kernel) (Nat.le_of_ble_eq_true rfl) ?_
  show EvW _ _ 0 [(0, .ref 5), (1, .int a1)] [] I L _
  rw [f_X5_heapsOf]
  refine ev_iconst (pc := 0) 0 k_iconst_0 dX5_heapsOf_0 ?_
  refine ev_istore_n (pc := 1) (lv' := [(2, .int 0), (0, .ref 5), (1, .int a1)]) dX5_heapsOf_1 rfl rfl rfl ?_
  refine ev_iconst (pc := 2) 0 k_iconst_0 dX5_heapsOf_2 ?_
  refine ev_istore_n (pc := 3) (lv' := [(3, .int 0), (2, .int 0), (0, .ref 5), (1, .int a1)]) dX5_heapsOf_3 rfl rfl rfl ?_
  refine ev_iconst (pc := 4) (-1 : Int32) k_iconst_m1 dX5_heapsOf_4 ?_
  refine ev_istore (pc := 5) (lv' := [(4, .int (-1 : Int32)), (3, .int 0), (2, .int 0), (0, .ref 5), (1, .int a1)]) dX5_heapsOf_5 rfl rfl ?_
  refine ev_iconst (pc := 7) 0 k_iconst_0 dX5_heapsOf_7 ?_
  refine ev_istore (pc := 8) (lv' := [(5, .int 0), (4, .int (-1 : Int32)), (3, .int 0), (2, .int 0), (0, .ref 5), (1, .int a1)]) dX5_heapsOf_8 rfl rfl ?_
  refine ev_iconst (pc := 10) 0 k_iconst_0 dX5_heapsOf_10 ?_
  refine ev_istore (pc := 11) (lv' := [(6, .int 0), (5, .int 0), (4, .int (-1 : Int32)), (3, .int 0), (2, .int 0), (0, .ref 5), (1, .int a1)]) dX5_heapsOf_11 rfl rfl ?_
  refine EvW.sub [5, 6, 4, 3, 2, 1, 0] rfl ?_
  exact E_X5_heapsOf_13 N d N a1 0 0 (-1 : Int32) 0 0 I L
def f_X11_heaps (N : Nat) (a1 : Int32) (I : PI) (L : PL) : RES := bI (f_X11_within N a1 0 2 I L) (fun x1 I2 L3 => (if x1 = 0 then some (some (.int (-1000000 : Int32)), I2, L3) else bI (f_X5_heapsOf N a1 I2 L3) (fun x4 I5 L6 => some (some (.int x4), I5, L6))))
set_option maxRecDepth 100000 in
theorem ok_X11_heaps (N d : Nat) (a1 : Int32) (I : PI) (L : PL) : MOk M_X11_heaps (d + 6) [.ref 11, .int a1] I L (f_X11_heaps N a1 I L) := by
  refine MOk.of (by decide +kernel) (Nat.le_of_ble_eq_true rfl) ?_
  show EvW _ _ 0 [(0, .ref 11), (1, .int a1)] [] I L _
  rw [f_X11_heaps]
  refine ev_iload_n (pc := 0) 1 dX11_heaps_0 rfl ?_
  refine ev_iconst (pc := 1) 0 k_iconst_0 dX11_heaps_1 ?_
  refine ev_iconst (pc := 2) 2 k_iconst_2 dX11_heaps_2 ?_
  refine ev_callSI (pc := 3) (d := d + 5) (As := [.int a1, .int 0, .int 2]) (st := []) cv_X11_within rfl w_18 rfl (Nat.le_of_ble_eq_true rfl) (ok_X11_within N (d + 5) a1 0 2 I L) dX11_heaps_3 (fun x1 I2 L3 => ?_)
  refine ev_if_eq (pc := 6) 20 (by decide) dX11_heaps_6 ?_ ?_
  · refine ev_ldc (pc := 20) w_267 dX11_heaps_20 ?_
    exact ev_iret (pc := 22) rfl dX11_heaps_22
  · refine ev_aload_n (pc := 9) 0 dX11_heaps_9 rfl ?_
    refine gf_X11_82 (pc := 10) rfl dX11_heaps_10 ?_
    refine ev_iload_n (pc := 13) 1 dX11_heaps_13 rfl ?_
    refine ev_callVI (pc := 14) (d := d + 5) (As := [.int a1]) (st := []) cv_X5_heapsOf rfl w_659 rfl (Nat.le_of_ble_eq_true rfl) (ok_X5_heapsOf N (d) a1 I2 L3) dX11_heaps_14 (fun x4 I5 L6 => ?_)
    refine ev_goto (pc := 17) 22 (by decide) dX11_heaps_17 ?_
    exact ev_iret (pc := 22) rfl dX11_heaps_22
def F_X2_keepImage_10 (N : Nat) : Nat → Int32 → PI → PL → RES
  | 0, _, _, _ => none
  | n + 1, v1, I, L => (if (I 2 3) ≤ v1 then some (some (.int (I 2 3)), I, L) else (if 40 ≤ v1 then some (some (.int (I 2 3)), I, L) else bI (f_X2_value N v1 I L) (fun x5 I6 L7 => gd (inb v1 40) (nmW (uI I6 32 (Int32.toNatClampNeg v1) x5) (fun I8 => (F_X2_keepImage_10 N n) (v1 + 1) I8 L7)))))
set_option maxRecDepth 100000 in
theorem E_X2_keepImage_10 (N d : Nat) : ∀ (n : Nat) (v1 : Int32) (I : PI) (L : PL), EvW M_X2_keepImage (d + 2) 10 [(0, .ref 2), (1, .int v1)] [] I L (F_X2_keepImage_10 N n v1 I L) := by
  intro n
  induction n with
  | zero =>
    intro v1 I L
    exact EvW.none
  | succ n hr_10 =>
    intro v1 I L
    rw [F_X2_keepImage_10]
    refine ev_iload_n (pc := 10) 1 dX2_keepImage_10 rfl ?_
    refine ev_aload_n (pc := 11) 0 dX2_keepImage_11 rfl ?_
    refine gf_X2_21 (pc := 12) rfl dX2_keepImage_12 ?_
    refine ev_icmp_ge (pc := 15) 41 (by decide) dX2_keepImage_15 ?_ ?_
    · refine ev_aload_n (pc := 41) 0 dX2_keepImage_41 rfl ?_
      refine gf_X2_21 (pc := 42) rfl dX2_keepImage_42 ?_
      exact ev_iret (pc := 45) rfl dX2_keepImage_45
    · refine ev_iload_n (pc := 18) 1 dX2_keepImage_18 rfl ?_
      refine ev_bipush (pc := 19) 40 k_bipush_40 dX2_keepImage_19 ?_
      refine ev_icmp_ge (pc := 21) 41 (by decide) dX2_keepImage_21 ?_ ?_
      · refine ev_aload_n (pc := 41) 0 dX2_keepImage_41 rfl ?_
        refine gf_X2_21 (pc := 42) rfl dX2_keepImage_42 ?_
        exact ev_iret (pc := 45) rfl dX2_keepImage_45
      · refine ev_aload_n (pc := 24) 0 dX2_keepImage_24 rfl ?_
        refine gf_X2_18 (pc := 25) rfl dX2_keepImage_25 ?_
        refine ev_iload_n (pc := 28) 1 dX2_keepImage_28 rfl ?_
        refine ev_aload_n (pc := 29) 0 dX2_keepImage_29 rfl ?_
        refine ev_iload_n (pc := 30) 1 dX2_keepImage_30 rfl ?_
        refine ev_callVI (pc := 31) (d := d + 1) (As := [.int v1]) (st := [.int v1, .ref 32]) cv_X2_value rfl w_662 rfl (Nat.le_of_ble_eq_true rfl) (ok_X2_value N (d) v1 I L) dX2_keepImage_31 (fun x5 I6 L7 => ?_)
        refine ev_iast (pc := 34) kK_32 dX2_keepImage_34 ?_
        refine ev_nmW (fun I8 => ?_)
        refine ev_iinc (pc := 35) (lv' := [(1, .int (v1 + 1)), (0, .ref 2)]) dX2_keepImage_35 1 rfl rfl 1 k_iconst_1 rfl ?_
        refine ev_goto (pc := 38) 10 (by decide) dX2_keepImage_38 ?_
        refine EvW.sub [1, 0] rfl ?_
        exact hr_10 (v1 + 1) I8 L7
def f_X2_keepImage (N : Nat) (I : PI) (L : PL) : RES := bI (f_X2_size N I L) (fun x1 I2 L3 => nmW (uI I2 2 3 x1) (fun I4 => F_X2_keepImage_10 N N 0 I4 L3))
set_option maxRecDepth 100000 in
theorem ok_X2_keepImage (N d : Nat) (I : PI) (L : PL) : MOk M_X2_keepImage (d + 2) [.ref 2] I L (f_X2_keepImage N I L) := by
  refine MOk.of (by decide +kernel) (Nat.le_of_ble_eq_true rfl) ?_
  show EvW _ _ 0 [(0, .ref 2)] [] I L _
  rw [f_X2_keepImage]
  refine ev_aload_n (pc := 0) 0 dX2_keepImage_0 rfl ?_
  refine ev_aload_n (pc := 1) 0 dX2_keepImage_1 rfl ?_
  refine ev_callVI (pc := 2) (d := d + 1) (As := []) (st := [.ref 2]) cv_X2_size rfl w_458 rfl (Nat.le_of_ble_eq_true rfl) (ok_X2_size N (d + 1) I L) dX2_keepImage_2 (fun x1 I2 L3 => ?_)
  refine pf_X2_21 (pc := 5) rfl dX2_keepImage_5 ?_
  refine ev_nmW (fun I4 => ?_)
  refine ev_iconst (pc := 8) 0 k_iconst_0 dX2_keepImage_8 ?_
  refine ev_istore_n (pc := 9) (lv' := [(1, .int 0), (0, .ref 2)]) dX2_keepImage_9 rfl rfl rfl ?_
  refine EvW.sub [1, 0] rfl ?_
  exact E_X2_keepImage_10 N d N 0 I4 L3
def f_X11_image (N : Nat) (I : PI) (L : PL) : RES := bI (f_X2_keepImage N I L) (fun x1 I2 L3 => some (some (.int x1), I2, L3))
set_option maxRecDepth 100000 in
theorem ok_X11_image (N d : Nat) (I : PI) (L : PL) : MOk M_X11_image (d + 3) [.ref 11] I L (f_X11_image N I L) := by
  refine MOk.of (by decide +kernel) (Nat.le_of_ble_eq_true rfl) ?_
  show EvW _ _ 0 [(0, .ref 11)] [] I L _
  rw [f_X11_image]
  refine ev_aload_n (pc := 0) 0 dX11_image_0 rfl ?_
  refine gf_X11_73 (pc := 1) rfl dX11_image_1 ?_
  refine ev_callVI (pc := 4) (d := d + 2) (As := []) (st := []) cv_X2_keepImage rfl w_666 rfl (Nat.le_of_ble_eq_true rfl) (ok_X2_keepImage N (d) I L) dX11_image_4 (fun x1 I2 L3 => ?_)
  exact ev_iret (pc := 7) rfl dX11_image_7
def F_X2_putImageBack_24 (N : Nat) : Nat → Int32 → PI → PL → RES
  | 0, _, _, _ => none
  | n + 1, v1, I, L => (if (I 2 3) ≤ v1 then some (some (.int (I 2 3)), I, L) else (if 40 ≤ v1 then some (some (.int (I 2 3)), I, L) else gd (inb v1 40) (bV (f_X2_write N v1 (I 32 (Int32.toNatClampNeg v1)) I L) (fun I8 L9 => (F_X2_putImageBack_24 N n) (v1 + 1) I8 L9))))
set_option maxRecDepth 100000 in
theorem E_X2_putImageBack_24 (N d : Nat) : ∀ (n : Nat) (v1 : Int32) (I : PI) (L : PL), EvW M_X2_putImageBack (d + 3) 24 [(0, .ref 2), (1, .int v1)] [] I L (F_X2_putImageBack_24 N n v1 I L) := by
  intro n
  induction n with
  | zero =>
    intro v1 I L
    exact EvW.none
  | succ n hr_24 =>
    intro v1 I L
    rw [F_X2_putImageBack_24]
    refine ev_iload_n (pc := 24) 1 dX2_putImageBack_24 rfl ?_
    refine ev_aload_n (pc := 25) 0 dX2_putImageBack_25 rfl ?_
    refine gf_X2_21 (pc := 26) rfl dX2_putImageBack_26 ?_
    refine ev_icmp_ge (pc := 29) 55 (by decide) dX2_putImageBack_29 ?_ ?_
    · refine ev_aload_n (pc := 55) 0 dX2_putImageBack_55 rfl ?_
      refine gf_X2_21 (pc := 56) rfl dX2_putImageBack_56 ?_
      exact ev_iret (pc := 59) rfl dX2_putImageBack_59
    · refine ev_iload_n (pc := 32) 1 dX2_putImageBack_32 rfl ?_
      refine ev_bipush (pc := 33) 40 k_bipush_40 dX2_putImageBack_33 ?_
      refine ev_icmp_ge (pc := 35) 55 (by decide) dX2_putImageBack_35 ?_ ?_
      · refine ev_aload_n (pc := 55) 0 dX2_putImageBack_55 rfl ?_
        refine gf_X2_21 (pc := 56) rfl dX2_putImageBack_56 ?_
        exact ev_iret (pc := 59) rfl dX2_putImageBack_59
      · refine ev_aload_n (pc := 38) 0 dX2_putImageBack_38 rfl ?_
        refine ev_iload_n (pc := 39) 1 dX2_putImageBack_39 rfl ?_
        refine ev_aload_n (pc := 40) 0 dX2_putImageBack_40 rfl ?_
        refine gf_X2_18 (pc := 41) rfl dX2_putImageBack_41 ?_
        refine ev_iload_n (pc := 44) 1 dX2_putImageBack_44 rfl ?_
        refine ev_iald (pc := 45) kK_32 dX2_putImageBack_45 ?_
        refine ev_callVV (pc := 46) (d := d + 2) (As := [.int v1, .int (I 32 (Int32.toNatClampNeg v1))]) (st := []) cv_X2_write rfl w_470 rfl (Nat.le_of_ble_eq_true rfl) (ok_X2_write N (d + 1) v1 (I 32 (Int32.toNatClampNeg v1)) I L) dX2_putImageBack_46 (fun I8 L9 => ?_)
        refine ev_iinc (pc := 49) (lv' := [(1, .int (v1 + 1)), (0, .ref 2)]) dX2_putImageBack_49 1 rfl rfl 1 k_iconst_1 rfl ?_
        refine ev_goto (pc := 52) 24 (by decide) dX2_putImageBack_52 ?_
        refine EvW.sub [1, 0] rfl ?_
        exact hr_24 (v1 + 1) I8 L9
def f_X2_putImageBack (N : Nat) (I : PI) (L : PL) : RES := (if (I 2 3) = (-1 : Int32) then some (some (.int (-1 : Int32)), I, L) else bV (f_X2_startAct N I L) (fun I2 L3 => bV (f_X2_resize N (I2 2 3) I2 L3) (fun I5 L6 => F_X2_putImageBack_24 N N 0 I5 L6)))
set_option maxRecDepth 100000 in
theorem ok_X2_putImageBack (N d : Nat) (I : PI) (L : PL) : MOk M_X2_putImageBack (d + 3) [.ref 2] I L (f_X2_putImageBack N I L) := by
  refine MOk.of (by decide +kernel) (Nat.le_of_ble_eq_true rfl) ?_
  show EvW _ _ 0 [(0, .ref 2)] [] I L _
  rw [f_X2_putImageBack]
  refine ev_aload_n (pc := 0) 0 dX2_putImageBack_0 rfl ?_
  refine gf_X2_21 (pc := 1) rfl dX2_putImageBack_1 ?_
  refine ev_iconst (pc := 4) (-1 : Int32) k_iconst_m1 dX2_putImageBack_4 ?_
  refine ev_icmp_ne (pc := 5) 10 (by decide) dX2_putImageBack_5 ?_ ?_
  · refine ev_aload_n (pc := 10) 0 dX2_putImageBack_10 rfl ?_
    refine ev_callVV (pc := 11) (d := d + 2) (As := []) (st := []) cv_X2_startAct rfl w_474 rfl (Nat.le_of_ble_eq_true rfl) (ok_X2_startAct N (d) I L) dX2_putImageBack_11 (fun I2 L3 => ?_)
    refine ev_aload_n (pc := 14) 0 dX2_putImageBack_14 rfl ?_
    refine ev_aload_n (pc := 15) 0 dX2_putImageBack_15 rfl ?_
    refine gf_X2_21 (pc := 16) rfl dX2_putImageBack_16 ?_
    refine ev_callVV (pc := 19) (d := d + 2) (As := [.int (I2 2 3)]) (st := []) cv_X2_resize rfl w_462 rfl (Nat.le_of_ble_eq_true rfl) (ok_X2_resize N (d + 2) (I2 2 3) I2 L3) dX2_putImageBack_19 (fun I5 L6 => ?_)
    refine ev_iconst (pc := 22) 0 k_iconst_0 dX2_putImageBack_22 ?_
    refine ev_istore_n (pc := 23) (lv' := [(1, .int 0), (0, .ref 2)]) dX2_putImageBack_23 rfl rfl rfl ?_
    refine EvW.sub [1, 0] rfl ?_
    exact E_X2_putImageBack_24 N d N 0 I5 L6
  · refine ev_iconst (pc := 8) (-1 : Int32) k_iconst_m1 dX2_putImageBack_8 ?_
    exact ev_iret (pc := 9) rfl dX2_putImageBack_9
def f_X11_back (N : Nat) (I : PI) (L : PL) : RES := bI (f_X2_putImageBack N I L) (fun x1 I2 L3 => some (some (.int x1), I2, L3))
set_option maxRecDepth 100000 in
theorem ok_X11_back (N d : Nat) (I : PI) (L : PL) : MOk M_X11_back (d + 4) [.ref 11] I L (f_X11_back N I L) := by
  refine MOk.of (by decide +kernel) (Nat.le_of_ble_eq_true rfl) ?_
  show EvW _ _ 0 [(0, .ref 11)] [] I L _
  rw [f_X11_back]
  refine ev_aload_n (pc := 0) 0 dX11_back_0 rfl ?_
  refine gf_X11_73 (pc := 1) rfl dX11_back_1 ?_
  refine ev_callVI (pc := 4) (d := d + 3) (As := []) (st := []) cv_X2_putImageBack rfl w_670 rfl (Nat.le_of_ble_eq_true rfl) (ok_X2_putImageBack N (d) I L) dX11_back_4 (fun x1 I2 L3 => ?_)
  exact ev_iret (pc := 7) rfl dX11_back_7
def f_X11_count (N : Nat) (a1 : Int32) (I : PI) (L : PL) : RES := swT 0 [some (some (.int (I 3 2)), I, L), some (some (.int (I 7 4)), I, L), some (some (.int (I 8 6)), I, L), some (some (.int (I 10 1)), I, L), bI (f_X2_size N I L) (fun x1 I2 L3 => some (some (.int x1), I2, L3)), some (some (.int (I 0 4)), I, L), some (some (.int (I 2 5)), I, L), some (some (.int (I 2 6)), I, L)] (some (some (.int (-1000000 : Int32)), I, L)) a1
set_option maxRecDepth 100000 in
theorem ok_X11_count (N d : Nat) (a1 : Int32) (I : PI) (L : PL) : MOk M_X11_count (d + 1) [.ref 11, .int a1] I L (f_X11_count N a1 I L) := by
  refine MOk.of (by decide +kernel) (Nat.le_of_ble_eq_true rfl) ?_
  show EvW _ _ 0 [(0, .ref 11), (1, .int a1)] [] I L _
  rw [f_X11_count]
  refine ev_iload_n (pc := 0) 1 dX11_count_0 rfl ?_
  refine ev_table (pc := 1) 112 (by decide) rfl dX11_count_1 ⟨⟨48, by decide, ?_⟩, ⟨56, by decide, ?_⟩, ⟨64, by decide, ?_⟩, ⟨72, by decide, ?_⟩, ⟨80, by decide, ?_⟩, ⟨88, by decide, ?_⟩, ⟨96, by decide, ?_⟩, ⟨104, by decide, ?_⟩, trivial⟩ ?_
  · refine ev_aload_n (pc := 48) 0 dX11_count_48 rfl ?_
    refine gf_X11_23 (pc := 49) rfl dX11_count_49 ?_
    refine gf_X11_204 (pc := 52) rfl dX11_count_52 ?_
    exact ev_iret (pc := 55) rfl dX11_count_55
  · refine ev_aload_n (pc := 56) 0 dX11_count_56 rfl ?_
    refine gf_X11_39 (pc := 57) rfl dX11_count_57 ?_
    refine gf_X11_333 (pc := 60) rfl dX11_count_60 ?_
    exact ev_iret (pc := 63) rfl dX11_count_63
  · refine ev_aload_n (pc := 64) 0 dX11_count_64 rfl ?_
    refine gf_X11_66 (pc := 65) rfl dX11_count_65 ?_
    refine gf_X11_334 (pc := 68) rfl dX11_count_68 ?_
    exact ev_iret (pc := 71) rfl dX11_count_71
  · refine ev_aload_n (pc := 72) 0 dX11_count_72 rfl ?_
    refine gf_X11_16 (pc := 73) rfl dX11_count_73 ?_
    refine gf_X11_104 (pc := 76) rfl dX11_count_76 ?_
    exact ev_iret (pc := 79) rfl dX11_count_79
  · refine ev_aload_n (pc := 80) 0 dX11_count_80 rfl ?_
    refine gf_X11_73 (pc := 81) rfl dX11_count_81 ?_
    refine ev_callVI (pc := 84) (d := d) (As := []) (st := []) cv_X2_size rfl w_457 rfl (Nat.le_of_ble_eq_true rfl) (ok_X2_size N (d) I L) dX11_count_84 (fun x1 I2 L3 => ?_)
    exact ev_iret (pc := 87) rfl dX11_count_87
  · refine ev_aload_n (pc := 88) 0 dX11_count_88 rfl ?_
    refine gf_X11_96 (pc := 89) rfl dX11_count_89 ?_
    refine gf_X11_302 (pc := 92) rfl dX11_count_92 ?_
    exact ev_iret (pc := 95) rfl dX11_count_95
  · refine ev_aload_n (pc := 96) 0 dX11_count_96 rfl ?_
    refine gf_X11_73 (pc := 97) rfl dX11_count_97 ?_
    refine gf_X11_335 (pc := 100) rfl dX11_count_100 ?_
    exact ev_iret (pc := 103) rfl dX11_count_103
  · refine ev_aload_n (pc := 104) 0 dX11_count_104 rfl ?_
    refine gf_X11_73 (pc := 105) rfl dX11_count_105 ?_
    refine gf_X11_338 (pc := 108) rfl dX11_count_108 ?_
    exact ev_iret (pc := 111) rfl dX11_count_111
  · refine ev_ldc (pc := 112) w_267 dX11_count_112 ?_
    exact ev_iret (pc := 114) rfl dX11_count_114
def f_X12_thrown (N : Nat) (I : PI) (L : PL) : RES := some (some (.int (I 12 0)), I, L)
set_option maxRecDepth 100000 in
theorem ok_X12_thrown (N d : Nat) (I : PI) (L : PL) : MOk M_X12_thrown (d) [.ref 12] I L (f_X12_thrown N I L) := by
  refine MOk.of (by decide +kernel) (Nat.le_of_ble_eq_true rfl) ?_
  show EvW _ _ 0 [(0, .ref 12)] [] I L _
  rw [f_X12_thrown]
  refine ev_aload_n (pc := 0) 0 dX12_thrown_0 rfl ?_
  refine gf_X12_101 (pc := 1) rfl dX12_thrown_1 ?_
  exact ev_iret (pc := 4) rfl dX12_thrown_4
def F_X12_byteOf_45 (N : Nat) (v5 : Int32) (s0 : Int32) (I : PI) (L : PL) : RES := gd (decide (¬ 4 = 0)) (some (some (.int ((s0 >>> ((24 - (8 * (jirem v5 4))) &&& 31)) &&& 255)), I, L))
set_option maxRecDepth 100000 in
theorem E_X12_byteOf_45 (N d : Nat) (v5 : Int32) (s0 : Int32) (I : PI) (L : PL) : EvW M_X12_byteOf (d) 45 [(5, .int v5)] [.int s0] I L (F_X12_byteOf_45 N v5 s0 I L) := by
  rw [F_X12_byteOf_45]
  refine ev_istore (pc := 45) (lv' := [(6, .int s0), (5, .int v5)]) dX12_byteOf_45 rfl rfl ?_
  refine ev_iload (pc := 47) 0 dX12_byteOf_47 rfl ?_
  refine ev_bipush (pc := 49) 24 k_bipush_24 dX12_byteOf_49 ?_
  refine ev_bipush (pc := 51) 8 k_bipush_8 dX12_byteOf_51 ?_
  refine ev_iload (pc := 53) 1 dX12_byteOf_53 rfl ?_
  refine ev_iconst (pc := 55) 4 k_iconst_4 dX12_byteOf_55 ?_
  refine ev_irem (pc := 56) dX12_byteOf_56 ?_
  refine ev_imul (pc := 57) dX12_byteOf_57 ?_
  refine ev_isub (pc := 58) dX12_byteOf_58 ?_
  refine ev_ishr (pc := 59) dX12_byteOf_59 ?_
  refine ev_sipush (pc := 60) 255 k_sipush_255 dX12_byteOf_60 ?_
  refine ev_iand (pc := 63) dX12_byteOf_63 ?_
  exact ev_iret (pc := 64) rfl dX12_byteOf_64
def f_X12_byteOf (N : Nat) (a1 : Int32) (a2 : Int32) (a3 : Int32) (a4 : Int32) (a5 : Int32) (a6 : Int32) (I : PI) (L : PL) : RES := (if 4 ≤ a6 then (if 8 ≤ a6 then (if 12 ≤ a6 then (if 16 ≤ a6 then F_X12_byteOf_45 N a6 a5 I L else F_X12_byteOf_45 N a6 a4 I L) else F_X12_byteOf_45 N a6 a3 I L) else F_X12_byteOf_45 N a6 a2 I L) else F_X12_byteOf_45 N a6 a1 I L)
set_option maxRecDepth 100000 in
theorem ok_X12_byteOf (N d : Nat) (a1 : Int32) (a2 : Int32) (a3 : Int32) (a4 : Int32) (a5 : Int32) (a6 : Int32) (I : PI) (L : PL) : MOk M_X12_byteOf (d) [.int a1, .int a2, .int a3, .int a4, .int a5, .int a6] I L (f_X12_byteOf N a1 a2 a3 a4 a5 a6 I L) := by
  refine MOk.of (by decide +kernel) (Nat.le_of_ble_eq_true rfl) ?_
  show EvW _ _ 0 [(0, .int a1), (1, .int a2), (2, .int a3), (3, .int a4), (4, .int a5), (5, .int a6)] [] I L _
  rw [f_X12_byteOf]
  refine ev_iload (pc := 0) 5 dX12_byteOf_0 rfl ?_
  refine ev_iconst (pc := 2) 4 k_iconst_4 dX12_byteOf_2 ?_
  refine ev_icmp_ge (pc := 3) 10 (by decide) dX12_byteOf_3 ?_ ?_
  · refine ev_iload (pc := 10) 5 dX12_byteOf_10 rfl ?_
    refine ev_bipush (pc := 12) 8 k_bipush_8 dX12_byteOf_12 ?_
    refine ev_icmp_ge (pc := 14) 21 (by decide) dX12_byteOf_14 ?_ ?_
    · refine ev_iload (pc := 21) 5 dX12_byteOf_21 rfl ?_
      refine ev_bipush (pc := 23) 12 k_bipush_12 dX12_byteOf_23 ?_
      refine ev_icmp_ge (pc := 25) 32 (by decide) dX12_byteOf_25 ?_ ?_
      · refine ev_iload (pc := 32) 5 dX12_byteOf_32 rfl ?_
        refine ev_bipush (pc := 34) 16 k_bipush_16 dX12_byteOf_34 ?_
        refine ev_icmp_ge (pc := 36) 43 (by decide) dX12_byteOf_36 ?_ ?_
        · refine ev_iload (pc := 43) 4 dX12_byteOf_43 rfl ?_
          refine EvW.sub [5] rfl ?_
          exact E_X12_byteOf_45 N d a6 a5 I L
        · refine ev_iload_n (pc := 39) 3 dX12_byteOf_39 rfl ?_
          refine ev_goto (pc := 40) 45 (by decide) dX12_byteOf_40 ?_
          refine EvW.sub [5] rfl ?_
          exact E_X12_byteOf_45 N d a6 a4 I L
      · refine ev_iload_n (pc := 28) 2 dX12_byteOf_28 rfl ?_
        refine ev_goto (pc := 29) 45 (by decide) dX12_byteOf_29 ?_
        refine EvW.sub [5] rfl ?_
        exact E_X12_byteOf_45 N d a6 a3 I L
    · refine ev_iload_n (pc := 17) 1 dX12_byteOf_17 rfl ?_
      refine ev_goto (pc := 18) 45 (by decide) dX12_byteOf_18 ?_
      refine EvW.sub [5] rfl ?_
      exact E_X12_byteOf_45 N d a6 a2 I L
  · refine ev_iload_n (pc := 6) 0 dX12_byteOf_6 rfl ?_
    refine ev_goto (pc := 7) 45 (by decide) dX12_byteOf_7 ?_
    refine EvW.sub [5] rfl ?_
    exact E_X12_byteOf_45 N d a6 a1 I L
def F_X12_feed_61 (N : Nat) : Nat → Int32 → Int32 → Int32 → Int32 → Int32 → Int32 → PI → PL → RES
  | 0, _, _, _, _, _, _, _, _ => none
  | n + 1, v1, v2, v3, v4, v5, v7, I, L => (if 20 ≤ v7 then some (some (.int (I 12 2)), I, L) else bI (f_X12_byteOf N v1 v2 v3 v4 v5 v7 I L) (fun x1 I2 L3 => (if x1 = 0 then (F_X12_feed_61 N n) v1 v2 v3 v4 v5 (v7 + 1) I2 L3 else gd (inb (I2 12 2) 120) (nmW (uI I2 39 (Int32.toNatClampNeg (I2 12 2)) x1) (fun I4 => nmW (uI I4 12 2 ((I4 12 2) + 1)) (fun I5 => (F_X12_feed_61 N n) v1 v2 v3 v4 v5 (v7 + 1) I5 L3))))))
set_option maxRecDepth 100000 in
theorem E_X12_feed_61 (N d : Nat) : ∀ (n : Nat) (v1 : Int32) (v2 : Int32) (v3 : Int32) (v4 : Int32) (v5 : Int32) (v7 : Int32) (I : PI) (L : PL), EvW M_X12_feed (d + 1) 61 [(0, .ref 12), (1, .int v1), (2, .int v2), (3, .int v3), (4, .int v4), (5, .int v5), (7, .int v7)] [] I L (F_X12_feed_61 N n v1 v2 v3 v4 v5 v7 I L) := by
  intro n
  induction n with
  | zero =>
    intro v1 v2 v3 v4 v5 v7 I L
    exact EvW.none
  | succ n hr_61 =>
    intro v1 v2 v3 v4 v5 v7 I L
    rw [F_X12_feed_61]
    refine ev_iload (pc := 61) 6 dX12_feed_61 rfl ?_
    refine ev_bipush (pc := 63) 20 k_bipush_20 dX12_feed_63 ?_
    refine ev_icmp_ge (pc := 65) 114 (by decide) dX12_feed_65 ?_ ?_
    · refine ev_aload_n (pc := 114) 0 dX12_feed_114 rfl ?_
      refine gf_X12_108 (pc := 115) rfl dX12_feed_115 ?_
      exact ev_iret (pc := 118) rfl dX12_feed_118
    · refine ev_iload_n (pc := 68) 1 dX12_feed_68 rfl ?_
      refine ev_iload_n (pc := 69) 2 dX12_feed_69 rfl ?_
      refine ev_iload_n (pc := 70) 3 dX12_feed_70 rfl ?_
      refine ev_iload (pc := 71) 4 dX12_feed_71 rfl ?_
      refine ev_iload (pc := 73) 5 dX12_feed_73 rfl ?_
      refine ev_iload (pc := 75) 6 dX12_feed_75 rfl ?_
      refine ev_callSI (pc := 77) (d := d) (As := [.int v1, .int v2, .int v3, .int v4, .int v5, .int v7]) (st := []) cv_X12_byteOf rfl w_676 rfl (Nat.le_of_ble_eq_true rfl) (ok_X12_byteOf N (d) v1 v2 v3 v4 v5 v7 I L) dX12_feed_77 (fun x1 I2 L3 => ?_)
      refine ev_istore (pc := 80) (lv' := [(8, .int x1), (0, .ref 12), (1, .int v1), (2, .int v2), (3, .int v3), (4, .int v4), (5, .int v5), (7, .int v7)]) dX12_feed_80 rfl rfl ?_
      refine ev_iload (pc := 82) 0 dX12_feed_82 rfl ?_
      refine ev_if_eq (pc := 84) 108 (by decide) dX12_feed_84 ?_ ?_
      · refine ev_iinc (pc := 108) (lv' := [(7, .int (v7 + 1)), (8, .int x1), (0, .ref 12), (1, .int v1), (2, .int v2), (3, .int v3), (4, .int v4), (5, .int v5)]) dX12_feed_108 7 rfl rfl 1 k_iconst_1 rfl ?_
        refine ev_goto (pc := 111) 61 (by decide) dX12_feed_111 ?_
        refine EvW.sub [2, 3, 4, 5, 6, 7, 0] rfl ?_
        exact hr_61 v1 v2 v3 v4 v5 (v7 + 1) I2 L3
      · refine ev_aload_n (pc := 87) 1 dX12_feed_87 rfl ?_
        refine gf_X12_9 (pc := 88) rfl dX12_feed_88 ?_
        refine ev_aload_n (pc := 91) 1 dX12_feed_91 rfl ?_
        refine gf_X12_108 (pc := 92) rfl dX12_feed_92 ?_
        refine ev_iload (pc := 95) 0 dX12_feed_95 rfl ?_
        refine ev_iast (pc := 97) kK_39 dX12_feed_97 ?_
        refine ev_nmW (fun I4 => ?_)
        refine ev_aload_n (pc := 98) 1 dX12_feed_98 rfl ?_
        refine ev_dup (pc := 99) rfl dX12_feed_99 ?_
        refine gf_X12_108 (pc := 100) rfl dX12_feed_100 ?_
        refine ev_iconst (pc := 103) 1 k_iconst_1 dX12_feed_103 ?_
        refine ev_iadd (pc := 104) dX12_feed_104 ?_
        refine pf_X12_108 (pc := 105) rfl dX12_feed_105 ?_
        refine ev_nmW (fun I5 => ?_)
        refine ev_iinc (pc := 108) (lv' := [(7, .int (v7 + 1)), (8, .int x1), (0, .ref 12), (1, .int v1), (2, .int v2), (3, .int v3), (4, .int v4), (5, .int v5)]) dX12_feed_108 7 rfl rfl 1 k_iconst_1 rfl ?_
        refine ev_goto (pc := 111) 61 (by decide) dX12_feed_111 ?_
        refine EvW.sub [2, 3, 4, 5, 6, 7, 0] rfl ?_
        exact hr_61 v1 v2 v3 v4 v5 (v7 + 1) I5 L3
def F_X12_feed_6 (N : Nat) : Nat → Int32 → Int32 → Int32 → Int32 → Int32 → Int32 → Int32 → PI → PL → RES
  | 0, _, _, _, _, _, _, _, _, _ => none
  | n + 1, v1, v2, v3, v4, v5, v6, v7, I, L => (if 20 ≤ v7 then (if ((I 12 2) + v6) ≤ 120 then F_X12_feed_61 N N v1 v2 v3 v4 v5 0 I L else some (some (.int (-1 : Int32)), I, L)) else bI (f_X12_byteOf N v1 v2 v3 v4 v5 v7 I L) (fun x6 I7 L8 => (if x6 = 0 then nmI (v6 + 0) (fun x9 => (F_X12_feed_6 N n) v1 v2 v3 v4 v5 x9 (v7 + 1) I7 L8) else nmI (v6 + 1) (fun x10 => (F_X12_feed_6 N n) v1 v2 v3 v4 v5 x10 (v7 + 1) I7 L8))))
set_option maxRecDepth 100000 in
theorem E_X12_feed_6 (N d : Nat) : ∀ (n : Nat) (v1 : Int32) (v2 : Int32) (v3 : Int32) (v4 : Int32) (v5 : Int32) (v6 : Int32) (v7 : Int32) (I : PI) (L : PL), EvW M_X12_feed (d + 1) 6 [(0, .ref 12), (1, .int v1), (2, .int v2), (3, .int v3), (4, .int v4), (5, .int v5), (6, .int v6), (7, .int v7)] [] I L (F_X12_feed_6 N n v1 v2 v3 v4 v5 v6 v7 I L) := by
  intro n
  induction n with
  | zero =>
    intro v1 v2 v3 v4 v5 v6 v7 I L
    exact EvW.none
  | succ n hr_6 =>
    intro v1 v2 v3 v4 v5 v6 v7 I L
    rw [F_X12_feed_6]
    refine ev_iload (pc := 6) 7 dX12_feed_6 rfl ?_
    refine ev_bipush (pc := 8) 20 k_bipush_20 dX12_feed_8 ?_
    refine ev_icmp_ge (pc := 10) 44 (by decide) dX12_feed_10 ?_ ?_
    · refine ev_aload_n (pc := 44) 0 dX12_feed_44 rfl ?_
      refine gf_X12_108 (pc := 45) rfl dX12_feed_45 ?_
      refine ev_iload (pc := 48) 6 dX12_feed_48 rfl ?_
      refine ev_iadd (pc := 50) dX12_feed_50 ?_
      refine ev_bipush (pc := 51) 120 k_bipush_120 dX12_feed_51 ?_
      refine ev_icmp_le (pc := 53) 58 (by decide) dX12_feed_53 ?_ ?_
      · refine ev_iconst (pc := 58) 0 k_iconst_0 dX12_feed_58 ?_
        refine ev_istore (pc := 59) (lv' := [(7, .int 0), (0, .ref 12), (1, .int v1), (2, .int v2), (3, .int v3), (4, .int v4), (5, .int v5), (6, .int v6)]) dX12_feed_59 rfl rfl ?_
        refine EvW.sub [1, 2, 3, 4, 5, 6, 0] rfl ?_
        exact E_X12_feed_61 N d N v1 v2 v3 v4 v5 0 I L
      · refine ev_iconst (pc := 56) (-1 : Int32) k_iconst_m1 dX12_feed_56 ?_
        exact ev_iret (pc := 57) rfl dX12_feed_57
    · refine ev_iload (pc := 13) 6 dX12_feed_13 rfl ?_
      refine ev_iload_n (pc := 15) 1 dX12_feed_15 rfl ?_
      refine ev_iload_n (pc := 16) 2 dX12_feed_16 rfl ?_
      refine ev_iload_n (pc := 17) 3 dX12_feed_17 rfl ?_
      refine ev_iload (pc := 18) 4 dX12_feed_18 rfl ?_
      refine ev_iload (pc := 20) 5 dX12_feed_20 rfl ?_
      refine ev_iload (pc := 22) 7 dX12_feed_22 rfl ?_
      refine ev_callSI (pc := 24) (d := d) (As := [.int v1, .int v2, .int v3, .int v4, .int v5, .int v7]) (st := [.int v6]) cv_X12_byteOf rfl w_676 rfl (Nat.le_of_ble_eq_true rfl) (ok_X12_byteOf N (d) v1 v2 v3 v4 v5 v7 I L) dX12_feed_24 (fun x6 I7 L8 => ?_)
      refine ev_if_eq (pc := 27) 34 (by decide) dX12_feed_27 ?_ ?_
      · refine ev_iconst (pc := 34) 0 k_iconst_0 dX12_feed_34 ?_
        refine ev_iadd (pc := 35) dX12_feed_35 ?_
        refine ev_nmI (fun x9 => ?_)
        refine ev_istore (pc := 36) (lv' := [(6, .int x9), (0, .ref 12), (1, .int v1), (2, .int v2), (3, .int v3), (4, .int v4), (5, .int v5), (7, .int v7)]) dX12_feed_36 rfl rfl ?_
        refine ev_iinc (pc := 38) (lv' := [(7, .int (v7 + 1)), (6, .int x9), (0, .ref 12), (1, .int v1), (2, .int v2), (3, .int v3), (4, .int v4), (5, .int v5)]) dX12_feed_38 7 rfl rfl 1 k_iconst_1 rfl ?_
        refine ev_goto (pc := 41) 6 (by decide) dX12_feed_41 ?_
        refine EvW.sub [2, 3, 4, 5, 6, 7, 1, 0] rfl ?_
        exact hr_6 v1 v2 v3 v4 v5 x9 (v7 + 1) I7 L8
      · refine ev_iconst (pc := 30) 1 k_iconst_1 dX12_feed_30 ?_
        refine ev_goto (pc := 31) 35 (by decide) dX12_feed_31 ?_
        refine ev_iadd (pc := 35) dX12_feed_35 ?_
        refine ev_nmI (fun x10 => ?_)
        refine ev_istore (pc := 36) (lv' := [(6, .int x10), (0, .ref 12), (1, .int v1), (2, .int v2), (3, .int v3), (4, .int v4), (5, .int v5), (7, .int v7)]) dX12_feed_36 rfl rfl ?_
        refine ev_iinc (pc := 38) (lv' := [(7, .int (v7 + 1)), (6, .int x10), (0, .ref 12), (1, .int v1), (2, .int v2), (3, .int v3), (4, .int v4), (5, .int v5)]) dX12_feed_38 7 rfl rfl 1 k_iconst_1 rfl ?_
        refine ev_goto (pc := 41) 6 (by decide) dX12_feed_41 ?_
        refine EvW.sub [2, 3, 4, 5, 6, 7, 1, 0] rfl ?_
        exact hr_6 v1 v2 v3 v4 v5 x10 (v7 + 1) I7 L8
def f_X12_feed (N : Nat) (a1 : Int32) (a2 : Int32) (a3 : Int32) (a4 : Int32) (a5 : Int32) (I : PI) (L : PL) : RES := F_X12_feed_6 N N a1 a2 a3 a4 a5 0 0 I L
set_option maxRecDepth 100000 in
theorem ok_X12_feed (N d : Nat) (a1 : Int32) (a2 : Int32) (a3 : Int32) (a4 : Int32) (a5 : Int32) (I : PI) (L : PL) : MOk M_X12_feed (d + 1) [.ref 12, .int a1, .int a2, .int a3, .int a4, .int a5] I L (f_X12_feed N a1 a2 a3 a4 a5 I L) := by
  refine MOk.of (by decide +kernel) (Nat.le_of_ble_eq_true rfl) ?_
  show EvW _ _ 0 [(0, .ref 12), (1, .int a1), (2, .int a2), (3, .int a3), (4, .int a4), (5, .int a5)] [] I L _
  rw [f_X12_feed]
  refine ev_iconst (pc := 0) 0 k_iconst_0 dX12_feed_0 ?_
  refine ev_istore (pc := 1) (lv' := [(6, .int 0), (0, .ref 12), (1, .int a1), (2, .int a2), (3, .int a3), (4, .int a4), (5, .int a5)]) dX12_feed_1 rfl rfl ?_
  refine ev_iconst (pc := 3) 0 k_iconst_0 dX12_feed_3 ?_
  refine ev_istore (pc := 4) (lv' := [(7, .int 0), (6, .int 0), (0, .ref 12), (1, .int a1), (2, .int a2), (3, .int a3), (4, .int a4), (5, .int a5)]) dX12_feed_4 rfl rfl ?_
  refine EvW.sub [2, 3, 4, 5, 6, 7, 1, 0] rfl ?_
  exact E_X12_feed_6 N d N a1 a2 a3 a4 a5 0 0 I L
def f_X12_end (N : Nat) (a1 : Int32) (I : PI) (L : PL) : RES := (if a1 < 0 then gd (decide (0 &&& 1 = 0)) (some (some (.int 0), I, L)) else (if a1 ≤ (I 12 2) then nmW (uI I 12 2 a1) (fun I1 => gd (decide (1 &&& 1 = 1)) (some (some (.int 1), I1, L))) else gd (decide (0 &&& 1 = 0)) (some (some (.int 0), I, L))))
set_option maxRecDepth 100000 in
theorem ok_X12_end (N d : Nat) (a1 : Int32) (I : PI) (L : PL) : MOk M_X12_end (d) [.ref 12, .int a1] I L (f_X12_end N a1 I L) := by
  refine MOk.of (by decide +kernel) (Nat.le_of_ble_eq_true rfl) ?_
  show EvW _ _ 0 [(0, .ref 12), (1, .int a1)] [] I L _
  rw [f_X12_end]
  refine ev_iload_n (pc := 0) 1 dX12_end_0 rfl ?_
  refine ev_if_lt (pc := 1) 12 (by decide) dX12_end_1 ?_ ?_
  · refine ev_iconst (pc := 12) 0 k_iconst_0 dX12_end_12 ?_
    exact ev_zret (pc := 13) rfl dX12_end_13
  · refine ev_iload_n (pc := 4) 1 dX12_end_4 rfl ?_
    refine ev_aload_n (pc := 5) 0 dX12_end_5 rfl ?_
    refine gf_X12_108 (pc := 6) rfl dX12_end_6 ?_
    refine ev_icmp_le (pc := 9) 14 (by decide) dX12_end_9 ?_ ?_
    · refine ev_aload_n (pc := 14) 0 dX12_end_14 rfl ?_
      refine ev_iload_n (pc := 15) 1 dX12_end_15 rfl ?_
      refine pf_X12_108 (pc := 16) rfl dX12_end_16 ?_
      refine ev_nmW (fun I1 => ?_)
      refine ev_iconst (pc := 19) 1 k_iconst_1 dX12_end_19 ?_
      exact ev_zret (pc := 20) rfl dX12_end_20
    · refine ev_iconst (pc := 12) 0 k_iconst_0 dX12_end_12 ?_
      exact ev_zret (pc := 13) rfl dX12_end_13
def f_X12_here (N : Nat) (I : PI) (L : PL) : RES := (if (I 12 2) ≤ (I 12 3) then some (some (.int (-1 : Int32)), I, L) else gd (inb (I 12 3) 120) (some (some (.int (I 39 (Int32.toNatClampNeg (I 12 3)))), I, L)))
set_option maxRecDepth 100000 in
theorem ok_X12_here (N d : Nat) (I : PI) (L : PL) : MOk M_X12_here (d) [.ref 12] I L (f_X12_here N I L) := by
  refine MOk.of (by decide +kernel) (Nat.le_of_ble_eq_true rfl) ?_
  show EvW _ _ 0 [(0, .ref 12)] [] I L _
  rw [f_X12_here]
  refine ev_aload_n (pc := 0) 0 dX12_here_0 rfl ?_
  refine gf_X12_111 (pc := 1) rfl dX12_here_1 ?_
  refine ev_aload_n (pc := 4) 0 dX12_here_4 rfl ?_
  refine gf_X12_108 (pc := 5) rfl dX12_here_5 ?_
  refine ev_icmp_ge (pc := 8) 23 (by decide) dX12_here_8 ?_ ?_
  · refine ev_iconst (pc := 23) (-1 : Int32) k_iconst_m1 dX12_here_23 ?_
    exact ev_iret (pc := 24) rfl dX12_here_24
  · refine ev_aload_n (pc := 11) 0 dX12_here_11 rfl ?_
    refine gf_X12_9 (pc := 12) rfl dX12_here_12 ?_
    refine ev_aload_n (pc := 15) 0 dX12_here_15 rfl ?_
    refine gf_X12_111 (pc := 16) rfl dX12_here_16 ?_
    refine ev_iald (pc := 19) kK_39 dX12_here_19 ?_
    refine ev_goto (pc := 20) 24 (by decide) dX12_here_20 ?_
    exact ev_iret (pc := 24) rfl dX12_here_24
def F_X12_look_0 (N : Nat) : Nat → PI → PL → RES
  | 0, _, _ => none
  | n + 1, I, L => bI (f_X12_here N I L) (fun x1 I2 L3 => (if x1 = 32 then nmW (uI I2 12 3 ((I2 12 3) + 1)) (fun I7 => (F_X12_look_0 N n) I7 L3) else bI (f_X12_here N I2 L3) (fun x4 I5 L6 => some (some (.int x4), I5, L6))))
set_option maxRecDepth 100000 in
theorem E_X12_look_0 (N d : Nat) : ∀ (n : Nat) (I : PI) (L : PL), EvW M_X12_look (d + 1) 0 [(0, .ref 12)] [] I L (F_X12_look_0 N n I L) := by
  intro n
  induction n with
  | zero =>
    intro I L
    exact EvW.none
  | succ n hr_0 =>
    intro I L
    rw [F_X12_look_0]
    refine ev_aload_n (pc := 0) 0 dX12_look_0 rfl ?_
    refine ev_callVI (pc := 1) (d := d) (As := []) (st := []) cv_X12_here rfl w_684 rfl (Nat.le_of_ble_eq_true rfl) (ok_X12_here N (d) I L) dX12_look_1 (fun x1 I2 L3 => ?_)
    refine ev_bipush (pc := 4) 32 k_bipush_32 dX12_look_4 ?_
    refine ev_icmp_ne (pc := 6) 22 (by decide) dX12_look_6 ?_ ?_
    · refine ev_aload_n (pc := 22) 0 dX12_look_22 rfl ?_
      refine ev_callVI (pc := 23) (d := d) (As := []) (st := []) cv_X12_here rfl w_684 rfl (Nat.le_of_ble_eq_true rfl) (ok_X12_here N (d) I2 L3) dX12_look_23 (fun x4 I5 L6 => ?_)
      exact ev_iret (pc := 26) rfl dX12_look_26
    · refine ev_aload_n (pc := 9) 0 dX12_look_9 rfl ?_
      refine ev_dup (pc := 10) rfl dX12_look_10 ?_
      refine gf_X12_111 (pc := 11) rfl dX12_look_11 ?_
      refine ev_iconst (pc := 14) 1 k_iconst_1 dX12_look_14 ?_
      refine ev_iadd (pc := 15) dX12_look_15 ?_
      refine pf_X12_111 (pc := 16) rfl dX12_look_16 ?_
      refine ev_nmW (fun I7 => ?_)
      refine ev_goto (pc := 19) 0 (by decide) dX12_look_19 ?_
      exact hr_0 I7 L3
def f_X12_look (N : Nat) (I : PI) (L : PL) : RES := F_X12_look_0 N N I L
set_option maxRecDepth 100000 in
theorem ok_X12_look (N d : Nat) (I : PI) (L : PL) : MOk M_X12_look (d + 1) [.ref 12] I L (f_X12_look N I L) := by
  refine MOk.of (by decide +kernel) (Nat.le_of_ble_eq_true rfl) ?_
  show EvW _ _ 0 [(0, .ref 12)] [] I L _
  rw [f_X12_look]
  exact E_X12_look_0 N d N I L
def f_X12_bad (N : Nat) (I : PI) (L : PL) : RES := (if (I 12 4) = (-1 : Int32) then nmW (uI I 12 4 (I 12 3)) (fun I2 => some (none, I2, L)) else nmW (uI I 12 4 (I 12 4)) (fun I1 => some (none, I1, L)))
set_option maxRecDepth 100000 in
theorem ok_X12_bad (N d : Nat) (I : PI) (L : PL) : MOk M_X12_bad (d) [.ref 12] I L (f_X12_bad N I L) := by
  refine MOk.of (by decide +kernel) (Nat.le_of_ble_eq_true rfl) ?_
  show EvW _ _ 0 [(0, .ref 12)] [] I L _
  rw [f_X12_bad]
  refine ev_aload_n (pc := 0) 0 dX12_bad_0 rfl ?_
  refine ev_aload_n (pc := 1) 0 dX12_bad_1 rfl ?_
  refine gf_X12_118 (pc := 2) rfl dX12_bad_2 ?_
  refine ev_iconst (pc := 5) (-1 : Int32) k_iconst_m1 dX12_bad_5 ?_
  refine ev_icmp_ne (pc := 6) 16 (by decide) dX12_bad_6 ?_ ?_
  · refine ev_aload_n (pc := 16) 0 dX12_bad_16 rfl ?_
    refine gf_X12_118 (pc := 17) rfl dX12_bad_17 ?_
    refine pf_X12_118 (pc := 20) rfl dX12_bad_20 ?_
    refine ev_nmW (fun I1 => ?_)
    exact ev_vret (pc := 23) rfl dX12_bad_23
  · refine ev_aload_n (pc := 9) 0 dX12_bad_9 rfl ?_
    refine gf_X12_111 (pc := 10) rfl dX12_bad_10 ?_
    refine ev_goto (pc := 13) 20 (by decide) dX12_bad_13 ?_
    refine pf_X12_118 (pc := 20) rfl dX12_bad_20 ?_
    refine ev_nmW (fun I2 => ?_)
    exact ev_vret (pc := 23) rfl dX12_bad_23
def f_X12_atEnd (N : Nat) (I : PI) (L : PL) : RES := (if (I 12 4) = (-1 : Int32) then bI (f_X12_look N I L) (fun x1 I2 L3 => (if x1 = (-1 : Int32) then some (some (.int (I2 12 4)), I2, L3) else bV (f_X12_bad N I2 L3) (fun I5 L6 => some (some (.int (I5 12 4)), I5, L6)))) else some (some (.int (I 12 4)), I, L))
set_option maxRecDepth 100000 in
theorem ok_X12_atEnd (N d : Nat) (I : PI) (L : PL) : MOk M_X12_atEnd (d + 2) [.ref 12] I L (f_X12_atEnd N I L) := by
  refine MOk.of (by decide +kernel) (Nat.le_of_ble_eq_true rfl) ?_
  show EvW _ _ 0 [(0, .ref 12)] [] I L _
  rw [f_X12_atEnd]
  refine ev_aload_n (pc := 0) 0 dX12_atEnd_0 rfl ?_
  refine gf_X12_118 (pc := 1) rfl dX12_atEnd_1 ?_
  refine ev_iconst (pc := 4) (-1 : Int32) k_iconst_m1 dX12_atEnd_4 ?_
  refine ev_icmp_ne (pc := 5) 20 (by decide) dX12_atEnd_5 ?_ ?_
  · refine ev_aload_n (pc := 20) 0 dX12_atEnd_20 rfl ?_
    refine gf_X12_118 (pc := 21) rfl dX12_atEnd_21 ?_
    exact ev_iret (pc := 24) rfl dX12_atEnd_24
  · refine ev_aload_n (pc := 8) 0 dX12_atEnd_8 rfl ?_
    refine ev_callVI (pc := 9) (d := d + 1) (As := []) (st := []) cv_X12_look rfl w_688 rfl (Nat.le_of_ble_eq_true rfl) (ok_X12_look N (d) I L) dX12_atEnd_9 (fun x1 I2 L3 => ?_)
    refine ev_iconst (pc := 12) (-1 : Int32) k_iconst_m1 dX12_atEnd_12 ?_
    refine ev_icmp_eq (pc := 13) 20 (by decide) dX12_atEnd_13 ?_ ?_
    · refine ev_aload_n (pc := 20) 0 dX12_atEnd_20 rfl ?_
      refine gf_X12_118 (pc := 21) rfl dX12_atEnd_21 ?_
      exact ev_iret (pc := 24) rfl dX12_atEnd_24
    · refine ev_aload_n (pc := 16) 0 dX12_atEnd_16 rfl ?_
      refine ev_callVV (pc := 17) (d := d + 1) (As := []) (st := []) cv_X12_bad rfl w_692 rfl (Nat.le_of_ble_eq_true rfl) (ok_X12_bad N (d + 1) I2 L3) dX12_atEnd_17 (fun I5 L6 => ?_)
      refine ev_aload_n (pc := 20) 0 dX12_atEnd_20 rfl ?_
      refine gf_X12_118 (pc := 21) rfl dX12_atEnd_21 ?_
      exact ev_iret (pc := 24) rfl dX12_atEnd_24
def f_X12_isDigit (N : Nat) (a1 : Int32) (I : PI) (L : PL) : RES := (if a1 < 48 then gd (decide (0 &&& 1 = 0)) (some (some (.int 0), I, L)) else (if 57 < a1 then gd (decide (0 &&& 1 = 0)) (some (some (.int 0), I, L)) else gd (decide (1 &&& 1 = 1)) (some (some (.int 1), I, L))))
set_option maxRecDepth 100000 in
theorem ok_X12_isDigit (N d : Nat) (a1 : Int32) (I : PI) (L : PL) : MOk M_X12_isDigit (d) [.int a1] I L (f_X12_isDigit N a1 I L) := by
  refine MOk.of (by decide +kernel) (Nat.le_of_ble_eq_true rfl) ?_
  show EvW _ _ 0 [(0, .int a1)] [] I L _
  rw [f_X12_isDigit]
  refine ev_iload_n (pc := 0) 0 dX12_isDigit_0 rfl ?_
  refine ev_bipush (pc := 1) 48 k_bipush_48 dX12_isDigit_1 ?_
  refine ev_icmp_lt (pc := 3) 16 (by decide) dX12_isDigit_3 ?_ ?_
  · refine ev_iconst (pc := 16) 0 k_iconst_0 dX12_isDigit_16 ?_
    exact ev_zret (pc := 17) rfl dX12_isDigit_17
  · refine ev_iload_n (pc := 6) 0 dX12_isDigit_6 rfl ?_
    refine ev_bipush (pc := 7) 57 k_bipush_57 dX12_isDigit_7 ?_
    refine ev_icmp_gt (pc := 9) 16 (by decide) dX12_isDigit_9 ?_ ?_
    · refine ev_iconst (pc := 16) 0 k_iconst_0 dX12_isDigit_16 ?_
      exact ev_zret (pc := 17) rfl dX12_isDigit_17
    · refine ev_iconst (pc := 12) 1 k_iconst_1 dX12_isDigit_12 ?_
      refine ev_goto (pc := 13) 17 (by decide) dX12_isDigit_13 ?_
      exact ev_zret (pc := 17) rfl dX12_isDigit_17
def F_X12_number_95 (N : Nat) (v1 : Int32) (I : PI) (L : PL) : RES := (if 2 ≤ v1 then some (some (.int v1), I, L) else nmW (uI I 12 3 ((I 12 3) - 1)) (fun I24 => bV (f_X12_bad N I24 L) (fun I26 L27 => some (some (.int v1), I26, L27))))
set_option maxRecDepth 100000 in
theorem E_X12_number_95 (N d : Nat) (v1 : Int32) (I : PI) (L : PL) : EvW M_X12_number (d + 2) 95 [(0, .ref 12), (1, .int v1)] [] I L (F_X12_number_95 N v1 I L) := by
  rw [F_X12_number_95]
  refine ev_iload_n (pc := 95) 1 dX12_number_95 rfl ?_
  refine ev_iconst (pc := 96) 2 k_iconst_2 dX12_number_96 ?_
  refine ev_icmp_ge (pc := 97) 114 (by decide) dX12_number_97 ?_ ?_
  · refine ev_iload_n (pc := 114) 1 dX12_number_114 rfl ?_
    exact ev_iret (pc := 115) rfl dX12_number_115
  · refine ev_aload_n (pc := 100) 0 dX12_number_100 rfl ?_
    refine ev_dup (pc := 101) rfl dX12_number_101 ?_
    refine gf_X12_111 (pc := 102) rfl dX12_number_102 ?_
    refine ev_iconst (pc := 105) 1 k_iconst_1 dX12_number_105 ?_
    refine ev_isub (pc := 106) dX12_number_106 ?_
    refine pf_X12_111 (pc := 107) rfl dX12_number_107 ?_
    refine ev_nmW (fun I24 => ?_)
    refine ev_aload_n (pc := 110) 0 dX12_number_110 rfl ?_
    refine ev_callVV (pc := 111) (d := d + 1) (As := []) (st := []) cv_X12_bad rfl w_692 rfl (Nat.le_of_ble_eq_true rfl) (ok_X12_bad N (d + 1) I24 L) dX12_number_111 (fun I26 L27 => ?_)
    refine ev_iload_n (pc := 114) 1 dX12_number_114 rfl ?_
    exact ev_iret (pc := 115) rfl dX12_number_115
def F_X12_number_88 (N : Nat) (v1 : Int32) (I : PI) (L : PL) : RES := bV (f_X12_bad N I L) (fun I29 L30 => some (some (.int v1), I29, L30))
set_option maxRecDepth 100000 in
theorem E_X12_number_88 (N d : Nat) (v1 : Int32) (I : PI) (L : PL) : EvW M_X12_number (d + 2) 88 [(0, .ref 12), (1, .int v1)] [] I L (F_X12_number_88 N v1 I L) := by
  rw [F_X12_number_88]
  refine ev_aload_n (pc := 88) 0 dX12_number_88 rfl ?_
  refine ev_callVV (pc := 89) (d := d + 1) (As := []) (st := []) cv_X12_bad rfl w_692 rfl (Nat.le_of_ble_eq_true rfl) (ok_X12_bad N (d + 1) I L) dX12_number_89 (fun I29 L30 => ?_)
  refine ev_goto (pc := 92) 114 (by decide) dX12_number_92 ?_
  refine ev_iload_n (pc := 114) 1 dX12_number_114 rfl ?_
  exact ev_iret (pc := 115) rfl dX12_number_115
def F_X12_number_69 (N : Nat) (v1 : Int32) (v2 : Int32) (I : PI) (L : PL) : RES := bI (f_X12_here N I L) (fun x18 I19 L20 => bI (f_X12_isDigit N x18 I19 L20) (fun x21 I22 L23 => (if x21 = 0 then F_X12_number_95 N v1 I22 L23 else (if v2 = 0 then F_X12_number_88 N v1 I22 L23 else (if v1 < 2 then F_X12_number_95 N v1 I22 L23 else F_X12_number_88 N v1 I22 L23)))))
set_option maxRecDepth 100000 in
theorem E_X12_number_69 (N d : Nat) (v1 : Int32) (v2 : Int32) (I : PI) (L : PL) : EvW M_X12_number (d + 2) 69 [(0, .ref 12), (1, .int v1), (2, .int v2)] [] I L (F_X12_number_69 N v1 v2 I L) := by
  rw [F_X12_number_69]
  refine ev_aload_n (pc := 69) 0 dX12_number_69 rfl ?_
  refine ev_callVI (pc := 70) (d := d + 1) (As := []) (st := []) cv_X12_here rfl w_684 rfl (Nat.le_of_ble_eq_true rfl) (ok_X12_here N (d + 1) I L) dX12_number_70 (fun x18 I19 L20 => ?_)
  refine ev_callSI (pc := 73) (d := d + 1) (As := [.int x18]) (st := []) cv_X12_isDigit rfl w_700 rfl (Nat.le_of_ble_eq_true rfl) (ok_X12_isDigit N (d + 1) x18 I19 L20) dX12_number_73 (fun x21 I22 L23 => ?_)
  refine ev_if_eq (pc := 76) 95 (by decide) dX12_number_76 ?_ ?_
  · refine EvW.sub [0, 1] rfl ?_
    exact E_X12_number_95 N d v1 I22 L23
  · refine ev_iload_n (pc := 79) 2 dX12_number_79 rfl ?_
    refine ev_if_eq (pc := 80) 88 (by decide) dX12_number_80 ?_ ?_
    · refine EvW.sub [0, 1] rfl ?_
      exact E_X12_number_88 N d v1 I22 L23
    · refine ev_iload_n (pc := 83) 1 dX12_number_83 rfl ?_
      refine ev_iconst (pc := 84) 2 k_iconst_2 dX12_number_84 ?_
      refine ev_icmp_lt (pc := 85) 95 (by decide) dX12_number_85 ?_ ?_
      · refine EvW.sub [0, 1] rfl ?_
        exact E_X12_number_95 N d v1 I22 L23
      · refine EvW.sub [0, 1] rfl ?_
        exact E_X12_number_88 N d v1 I22 L23
def f_X12_number (N : Nat) (I : PI) (L : PL) : RES := bI (f_X12_look N I L) (fun x1 I2 L3 => bI (f_X12_isDigit N x1 I2 L3) (fun x4 I5 L6 => (if x4 = 0 then bV (f_X12_bad N I5 L6) (fun I37 L38 => some (some (.int 0), I37, L38)) else bI (f_X12_here N I5 L6) (fun x7 I8 L9 => nmI (x7 - 48) (fun x10 => nmW (uI I8 12 3 ((I8 12 3) + 1)) (fun I11 => bI (f_X12_here N I11 L9) (fun x12 I13 L14 => bI (f_X12_isDigit N x12 I13 L14) (fun x15 I16 L17 => (if x15 = 0 then F_X12_number_69 N x10 x15 I16 L17 else bI (f_X12_here N I16 L17) (fun x31 I32 L33 => nmI (((10 * x10) + x31) - 48) (fun x34 => nmW (uI I32 12 3 ((I32 12 3) + 1)) (fun I35 => F_X12_number_69 N x34 x15 I35 L33))))))))))))
set_option maxRecDepth 100000 in
theorem ok_X12_number (N d : Nat) (I : PI) (L : PL) : MOk M_X12_number (d + 2) [.ref 12] I L (f_X12_number N I L) := by
  refine MOk.of (by decide +kernel) (Nat.le_of_ble_eq_true rfl) ?_
  show EvW _ _ 0 [(0, .ref 12)] [] I L _
  rw [f_X12_number]
  refine ev_aload_n (pc := 0) 0 dX12_number_0 rfl ?_
  refine ev_callVI (pc := 1) (d := d + 1) (As := []) (st := []) cv_X12_look rfl w_688 rfl (Nat.le_of_ble_eq_true rfl) (ok_X12_look N (d) I L) dX12_number_1 (fun x1 I2 L3 => ?_)
  refine ev_callSI (pc := 4) (d := d + 1) (As := [.int x1]) (st := []) cv_X12_isDigit rfl w_700 rfl (Nat.le_of_ble_eq_true rfl) (ok_X12_isDigit N (d + 1) x1 I2 L3) dX12_number_4 (fun x4 I5 L6 => ?_)
  refine ev_if_ne (pc := 7) 16 (by decide) dX12_number_7 ?_ ?_
  · refine ev_aload_n (pc := 16) 0 dX12_number_16 rfl ?_
    refine ev_callVI (pc := 17) (d := d + 1) (As := []) (st := []) cv_X12_here rfl w_684 rfl (Nat.le_of_ble_eq_true rfl) (ok_X12_here N (d + 1) I5 L6) dX12_number_17 (fun x7 I8 L9 => ?_)
    refine ev_bipush (pc := 20) 48 k_bipush_48 dX12_number_20 ?_
    refine ev_isub (pc := 22) dX12_number_22 ?_
    refine ev_nmI (fun x10 => ?_)
    refine ev_istore_n (pc := 23) (lv' := [(1, .int x10), (0, .ref 12)]) dX12_number_23 rfl rfl rfl ?_
    refine ev_aload_n (pc := 24) 1 dX12_number_24 rfl ?_
    refine ev_dup (pc := 25) rfl dX12_number_25 ?_
    refine gf_X12_111 (pc := 26) rfl dX12_number_26 ?_
    refine ev_iconst (pc := 29) 1 k_iconst_1 dX12_number_29 ?_
    refine ev_iadd (pc := 30) dX12_number_30 ?_
    refine pf_X12_111 (pc := 31) rfl dX12_number_31 ?_
    refine ev_nmW (fun I11 => ?_)
    refine ev_aload_n (pc := 34) 1 dX12_number_34 rfl ?_
    refine ev_callVI (pc := 35) (d := d + 1) (As := []) (st := []) cv_X12_here rfl w_684 rfl (Nat.le_of_ble_eq_true rfl) (ok_X12_here N (d + 1) I11 L9) dX12_number_35 (fun x12 I13 L14 => ?_)
    refine ev_callSI (pc := 38) (d := d + 1) (As := [.int x12]) (st := []) cv_X12_isDigit rfl w_700 rfl (Nat.le_of_ble_eq_true rfl) (ok_X12_isDigit N (d + 1) x12 I13 L14) dX12_number_38 (fun x15 I16 L17 => ?_)
    refine ev_istore_n (pc := 41) (lv' := [(2, .int x15), (1, .int x10), (0, .ref 12)]) dX12_number_41 rfl rfl rfl ?_
    refine ev_iload_n (pc := 42) 0 dX12_number_42 rfl ?_
    refine ev_if_eq (pc := 43) 69 (by decide) dX12_number_43 ?_ ?_
    · refine EvW.sub [2, 1, 0] rfl ?_
      exact E_X12_number_69 N d x10 x15 I16 L17
    · refine ev_bipush (pc := 46) 10 k_bipush_10 dX12_number_46 ?_
      refine ev_iload_n (pc := 48) 1 dX12_number_48 rfl ?_
      refine ev_imul (pc := 49) dX12_number_49 ?_
      refine ev_aload_n (pc := 50) 2 dX12_number_50 rfl ?_
      refine ev_callVI (pc := 51) (d := d + 1) (As := []) (st := [.int (10 * x10)]) cv_X12_here rfl w_684 rfl (Nat.le_of_ble_eq_true rfl) (ok_X12_here N (d + 1) I16 L17) dX12_number_51 (fun x31 I32 L33 => ?_)
      refine ev_iadd (pc := 54) dX12_number_54 ?_
      refine ev_bipush (pc := 55) 48 k_bipush_48 dX12_number_55 ?_
      refine ev_isub (pc := 57) dX12_number_57 ?_
      refine ev_nmI (fun x34 => ?_)
      refine ev_istore_n (pc := 58) (lv' := [(1, .int x34), (2, .int x15), (0, .ref 12)]) dX12_number_58 rfl rfl rfl ?_
      refine ev_aload_n (pc := 59) 2 dX12_number_59 rfl ?_
      refine ev_dup (pc := 60) rfl dX12_number_60 ?_
      refine gf_X12_111 (pc := 61) rfl dX12_number_61 ?_
      refine ev_iconst (pc := 64) 1 k_iconst_1 dX12_number_64 ?_
      refine ev_iadd (pc := 65) dX12_number_65 ?_
      refine pf_X12_111 (pc := 66) rfl dX12_number_66 ?_
      refine ev_nmW (fun I35 => ?_)
      refine EvW.sub [2, 0, 1] rfl ?_
      exact E_X12_number_69 N d x34 x15 I35 L33
  · refine ev_aload_n (pc := 10) 0 dX12_number_10 rfl ?_
    refine ev_callVV (pc := 11) (d := d + 1) (As := []) (st := []) cv_X12_bad rfl w_692 rfl (Nat.le_of_ble_eq_true rfl) (ok_X12_bad N (d + 1) I5 L6) dX12_number_11 (fun I37 L38 => ?_)
    refine ev_iconst (pc := 14) 0 k_iconst_0 dX12_number_14 ?_
    exact ev_iret (pc := 15) rfl dX12_number_15
def F_X12_readRests_116 (N : Nat) (I : PI) (L : PL) : RES := bI (f_X12_atEnd N I L) (fun x4 I5 L6 => some (some (.int x4), I5, L6))
set_option maxRecDepth 100000 in
theorem E_X12_readRests_116 (N d : Nat) (I : PI) (L : PL) : EvW M_X12_readRests (d + 3) 116 [(0, .ref 12)] [] I L (F_X12_readRests_116 N I L) := by
  rw [F_X12_readRests_116]
  refine ev_aload_n (pc := 116) 0 dX12_readRests_116 rfl ?_
  refine ev_callVI (pc := 117) (d := d + 2) (As := []) (st := []) cv_X12_atEnd rfl w_696 rfl (Nat.le_of_ble_eq_true rfl) (ok_X12_atEnd N (d) I L) dX12_readRests_117 (fun x4 I5 L6 => ?_)
  exact ev_iret (pc := 120) rfl dX12_readRests_120
def F_X12_readRests_94 (N : Nat) (r_19 : Int32 → Int32 → PI → PL → RES) (v1 : Int32) (s0 : Int32) (I : PI) (L : PL) : RES := (if s0 = 0 then nmW (uI I 12 3 ((I 12 3) + 0)) (fun I12 => r_19 v1 s0 I12 L) else nmW (uI I 12 3 ((I 12 3) + 1)) (fun I13 => r_19 v1 s0 I13 L))
set_option maxRecDepth 100000 in
theorem E_X12_readRests_94 (N d : Nat) (r_19 : Int32 → Int32 → PI → PL → RES) (hr_19 : ∀ (v1 : Int32) (v2 : Int32) (I : PI) (L : PL), EvW M_X12_readRests (d + 3) 19 [(0, .ref 12), (1, .int v1), (2, .int v2)] [] I L (r_19 v1 v2 I L)) (v1 : Int32) (s0 : Int32) (I : PI) (L : PL) : EvW M_X12_readRests (d + 3) 94 [(0, .ref 12), (1, .int v1)] [.int s0] I L (F_X12_readRests_94 N r_19 v1 s0 I L) := by
  rw [F_X12_readRests_94]
  refine ev_istore_n (pc := 94) (lv' := [(2, .int s0), (0, .ref 12), (1, .int v1)]) dX12_readRests_94 rfl rfl rfl ?_
  refine ev_aload_n (pc := 95) 1 dX12_readRests_95 rfl ?_
  refine ev_dup (pc := 96) rfl dX12_readRests_96 ?_
  refine gf_X12_111 (pc := 97) rfl dX12_readRests_97 ?_
  refine ev_iload_n (pc := 100) 0 dX12_readRests_100 rfl ?_
  refine ev_if_eq (pc := 101) 108 (by decide) dX12_readRests_101 ?_ ?_
  · refine ev_iconst (pc := 108) 0 k_iconst_0 dX12_readRests_108 ?_
    refine ev_iadd (pc := 109) dX12_readRests_109 ?_
    refine pf_X12_111 (pc := 110) rfl dX12_readRests_110 ?_
    refine ev_nmW (fun I12 => ?_)
    refine ev_goto (pc := 113) 19 (by decide) dX12_readRests_113 ?_
    refine EvW.sub [1, 2, 0] rfl ?_
    exact hr_19 v1 s0 I12 L
  · refine ev_iconst (pc := 104) 1 k_iconst_1 dX12_readRests_104 ?_
    refine ev_goto (pc := 105) 109 (by decide) dX12_readRests_105 ?_
    refine ev_iadd (pc := 109) dX12_readRests_109 ?_
    refine pf_X12_111 (pc := 110) rfl dX12_readRests_110 ?_
    refine ev_nmW (fun I13 => ?_)
    refine ev_goto (pc := 113) 19 (by decide) dX12_readRests_113 ?_
    refine EvW.sub [1, 2, 0] rfl ?_
    exact hr_19 v1 s0 I13 L
def F_X12_readRests_93 (N : Nat) (r_19 : Int32 → Int32 → PI → PL → RES) (v1 : Int32) (I : PI) (L : PL) : RES := F_X12_readRests_94 N r_19 v1 0 I L
set_option maxRecDepth 100000 in
theorem E_X12_readRests_93 (N d : Nat) (r_19 : Int32 → Int32 → PI → PL → RES) (hr_19 : ∀ (v1 : Int32) (v2 : Int32) (I : PI) (L : PL), EvW M_X12_readRests (d + 3) 19 [(0, .ref 12), (1, .int v1), (2, .int v2)] [] I L (r_19 v1 v2 I L)) (v1 : Int32) (I : PI) (L : PL) : EvW M_X12_readRests (d + 3) 93 [(0, .ref 12), (1, .int v1)] [] I L (F_X12_readRests_93 N r_19 v1 I L) := by
  rw [F_X12_readRests_93]
  refine ev_iconst (pc := 93) 0 k_iconst_0 dX12_readRests_93 ?_
  exact E_X12_readRests_94 N d r_19 hr_19 v1 0 I L
def F_X12_readRests_19 (N : Nat) : Nat → Int32 → Int32 → PI → PL → RES
  | 0, _, _, _, _ => none
  | n + 1, v1, v2, I, L => (if v2 = 0 then F_X12_readRests_116 N I L else (if (I 12 4) = (-1 : Int32) then gd (inb v1 7) (bI (f_X12_number N I L) (fun x7 I8 L9 => gd (inb ((8 * v1) + (I 52 (Int32.toNatClampNeg v1))) 56) (nmW (uI I8 51 (Int32.toNatClampNeg ((8 * v1) + (I 52 (Int32.toNatClampNeg v1)))) x7) (fun I10 => gd (inb v1 7) (gd (inb v1 7) (nmW (uI I10 52 (Int32.toNatClampNeg v1) ((I10 52 (Int32.toNatClampNeg v1)) + 1)) (fun I11 => (if (I11 12 4) = (-1 : Int32) then bI (f_X12_look N I11 L9) (fun x14 I15 L16 => (if x14 = 44 then gd (inb v1 7) ((if 8 ≤ (I15 52 (Int32.toNatClampNeg v1)) then F_X12_readRests_93 N (F_X12_readRests_19 N n) v1 I15 L16 else F_X12_readRests_94 N (F_X12_readRests_19 N n) v1 1 I15 L16)) else F_X12_readRests_93 N (F_X12_readRests_19 N n) v1 I15 L16)) else F_X12_readRests_93 N (F_X12_readRests_19 N n) v1 I11 L9)))))))) else F_X12_readRests_116 N I L))
set_option maxRecDepth 100000 in
theorem E_X12_readRests_19 (N d : Nat) : ∀ (n : Nat) (v1 : Int32) (v2 : Int32) (I : PI) (L : PL), EvW M_X12_readRests (d + 3) 19 [(0, .ref 12), (1, .int v1), (2, .int v2)] [] I L (F_X12_readRests_19 N n v1 v2 I L) := by
  intro n
  induction n with
  | zero =>
    intro v1 v2 I L
    exact EvW.none
  | succ n hr_19 =>
    intro v1 v2 I L
    rw [F_X12_readRests_19]
    refine ev_iload_n (pc := 19) 2 dX12_readRests_19 rfl ?_
    refine ev_if_eq (pc := 20) 116 (by decide) dX12_readRests_20 ?_ ?_
    · refine EvW.sub [0] rfl ?_
      exact E_X12_readRests_116 N d I L
    · refine ev_aload_n (pc := 23) 0 dX12_readRests_23 rfl ?_
      refine gf_X12_118 (pc := 24) rfl dX12_readRests_24 ?_
      refine ev_iconst (pc := 27) (-1 : Int32) k_iconst_m1 dX12_readRests_27 ?_
      refine ev_icmp_ne (pc := 28) 116 (by decide) dX12_readRests_28 ?_ ?_
      · refine EvW.sub [0] rfl ?_
        exact E_X12_readRests_116 N d I L
      · refine ev_aload_n (pc := 31) 0 dX12_readRests_31 rfl ?_
        refine gf_X12_46 (pc := 32) rfl dX12_readRests_32 ?_
        refine ev_bipush (pc := 35) 8 k_bipush_8 dX12_readRests_35 ?_
        refine ev_iload_n (pc := 37) 1 dX12_readRests_37 rfl ?_
        refine ev_imul (pc := 38) dX12_readRests_38 ?_
        refine ev_aload_n (pc := 39) 0 dX12_readRests_39 rfl ?_
        refine gf_X12_49 (pc := 40) rfl dX12_readRests_40 ?_
        refine ev_iload_n (pc := 43) 1 dX12_readRests_43 rfl ?_
        refine ev_iald (pc := 44) kK_52 dX12_readRests_44 ?_
        refine ev_iadd (pc := 45) dX12_readRests_45 ?_
        refine ev_aload_n (pc := 46) 0 dX12_readRests_46 rfl ?_
        refine ev_callVI (pc := 47) (d := d + 2) (As := []) (st := [.int ((8 * v1) + (I 52 (Int32.toNatClampNeg v1))), .ref 51]) cv_X12_number rfl w_704 rfl (Nat.le_of_ble_eq_true rfl) (ok_X12_number N (d) I L) dX12_readRests_47 (fun x7 I8 L9 => ?_)
        refine ev_iast (pc := 50) kK_51 dX12_readRests_50 ?_
        refine ev_nmW (fun I10 => ?_)
        refine ev_aload_n (pc := 51) 0 dX12_readRests_51 rfl ?_
        refine gf_X12_49 (pc := 52) rfl dX12_readRests_52 ?_
        refine ev_iload_n (pc := 55) 1 dX12_readRests_55 rfl ?_
        refine ev_dup2 (pc := 56) rfl rfl dX12_readRests_56 ?_
        refine ev_iald (pc := 57) kK_52 dX12_readRests_57 ?_
        refine ev_iconst (pc := 58) 1 k_iconst_1 dX12_readRests_58 ?_
        refine ev_iadd (pc := 59) dX12_readRests_59 ?_
        refine ev_iast (pc := 60) kK_52 dX12_readRests_60 ?_
        refine ev_nmW (fun I11 => ?_)
        refine ev_aload_n (pc := 61) 0 dX12_readRests_61 rfl ?_
        refine gf_X12_118 (pc := 62) rfl dX12_readRests_62 ?_
        refine ev_iconst (pc := 65) (-1 : Int32) k_iconst_m1 dX12_readRests_65 ?_
        refine ev_icmp_ne (pc := 66) 93 (by decide) dX12_readRests_66 ?_ ?_
        · refine EvW.sub [0, 1] rfl ?_
          exact E_X12_readRests_93 N d (F_X12_readRests_19 N n) hr_19 v1 I11 L9
        · refine ev_aload_n (pc := 69) 0 dX12_readRests_69 rfl ?_
          refine ev_callVI (pc := 70) (d := d + 2) (As := []) (st := []) cv_X12_look rfl w_688 rfl (Nat.le_of_ble_eq_true rfl) (ok_X12_look N (d + 1) I11 L9) dX12_readRests_70 (fun x14 I15 L16 => ?_)
          refine ev_bipush (pc := 73) 44 k_bipush_44 dX12_readRests_73 ?_
          refine ev_icmp_ne (pc := 75) 93 (by decide) dX12_readRests_75 ?_ ?_
          · refine EvW.sub [0, 1] rfl ?_
            exact E_X12_readRests_93 N d (F_X12_readRests_19 N n) hr_19 v1 I15 L16
          · refine ev_aload_n (pc := 78) 0 dX12_readRests_78 rfl ?_
            refine gf_X12_49 (pc := 79) rfl dX12_readRests_79 ?_
            refine ev_iload_n (pc := 82) 1 dX12_readRests_82 rfl ?_
            refine ev_iald (pc := 83) kK_52 dX12_readRests_83 ?_
            refine ev_bipush (pc := 84) 8 k_bipush_8 dX12_readRests_84 ?_
            refine ev_icmp_ge (pc := 86) 93 (by decide) dX12_readRests_86 ?_ ?_
            · refine EvW.sub [0, 1] rfl ?_
              exact E_X12_readRests_93 N d (F_X12_readRests_19 N n) hr_19 v1 I15 L16
            · refine ev_iconst (pc := 89) 1 k_iconst_1 dX12_readRests_89 ?_
              refine ev_goto (pc := 90) 94 (by decide) dX12_readRests_90 ?_
              refine EvW.sub [0, 1] rfl ?_
              exact E_X12_readRests_94 N d (F_X12_readRests_19 N n) hr_19 v1 1 I15 L16
def f_X12_readRests (N : Nat) (a1 : Int32) (I : PI) (L : PL) : RES := nmW (uI I 12 3 0) (fun I1 => nmW (uI I1 12 4 (-1 : Int32)) (fun I2 => gd (inb a1 7) (nmW (uI I2 52 (Int32.toNatClampNeg a1) 0) (fun I3 => F_X12_readRests_19 N N a1 1 I3 L))))
set_option maxRecDepth 100000 in
theorem ok_X12_readRests (N d : Nat) (a1 : Int32) (I : PI) (L : PL) : MOk M_X12_readRests (d + 3) [.ref 12, .int a1] I L (f_X12_readRests N a1 I L) := by
  refine MOk.of (by decide +kernel) (Nat.le_of_ble_eq_true rfl) ?_
  show EvW _ _ 0 [(0, .ref 12), (1, .int a1)] [] I L _
  rw [f_X12_readRests]
  refine ev_aload_n (pc := 0) 0 dX12_readRests_0 rfl ?_
  refine ev_iconst (pc := 1) 0 k_iconst_0 dX12_readRests_1 ?_
  refine pf_X12_111 (pc := 2) rfl dX12_readRests_2 ?_
  refine ev_nmW (fun I1 => ?_)
  refine ev_aload_n (pc := 5) 0 dX12_readRests_5 rfl ?_
  refine ev_iconst (pc := 6) (-1 : Int32) k_iconst_m1 dX12_readRests_6 ?_
  refine pf_X12_118 (pc := 7) rfl dX12_readRests_7 ?_
  refine ev_nmW (fun I2 => ?_)
  refine ev_aload_n (pc := 10) 0 dX12_readRests_10 rfl ?_
  refine gf_X12_49 (pc := 11) rfl dX12_readRests_11 ?_
  refine ev_iload_n (pc := 14) 1 dX12_readRests_14 rfl ?_
  refine ev_iconst (pc := 15) 0 k_iconst_0 dX12_readRests_15 ?_
  refine ev_iast (pc := 16) kK_52 dX12_readRests_16 ?_
  refine ev_nmW (fun I3 => ?_)
  refine ev_iconst (pc := 17) 1 k_iconst_1 dX12_readRests_17 ?_
  refine ev_istore_n (pc := 18) (lv' := [(2, .int 1), (0, .ref 12), (1, .int a1)]) dX12_readRests_18 rfl rfl rfl ?_
  refine EvW.sub [1, 2, 0] rfl ?_
  exact E_X12_readRests_19 N d N a1 1 I3 L
def f_X12_open (N : Nat) (a1 : Int32) (I : PI) (L : PL) : RES := nmW (uI I 12 14 a1) (fun I1 => nmW (uI I1 12 3 0) (fun I2 => nmW (uI I2 12 4 (-1 : Int32)) (fun I3 => nmW (uI I3 12 5 0) (fun I4 => gd (inb a1 7) (nmW (uI I4 42 (Int32.toNatClampNeg a1) 0) (fun I5 => gd (inb a1 7) (nmW (uI I5 43 (Int32.toNatClampNeg a1) 0) (fun I6 => some (none, I6, L)))))))))
set_option maxRecDepth 100000 in
theorem ok_X12_open (N d : Nat) (a1 : Int32) (I : PI) (L : PL) : MOk M_X12_open (d) [.ref 12, .int a1] I L (f_X12_open N a1 I L) := by
  refine MOk.of (by decide +kernel) (Nat.le_of_ble_eq_true rfl) ?_
  show EvW _ _ 0 [(0, .ref 12), (1, .int a1)] [] I L _
  rw [f_X12_open]
  refine ev_aload_n (pc := 0) 0 dX12_open_0 rfl ?_
  refine ev_iload_n (pc := 1) 1 dX12_open_1 rfl ?_
  refine pf_X12_121 (pc := 2) rfl dX12_open_2 ?_
  refine ev_nmW (fun I1 => ?_)
  refine ev_aload_n (pc := 5) 0 dX12_open_5 rfl ?_
  refine ev_iconst (pc := 6) 0 k_iconst_0 dX12_open_6 ?_
  refine pf_X12_111 (pc := 7) rfl dX12_open_7 ?_
  refine ev_nmW (fun I2 => ?_)
  refine ev_aload_n (pc := 10) 0 dX12_open_10 rfl ?_
  refine ev_iconst (pc := 11) (-1 : Int32) k_iconst_m1 dX12_open_11 ?_
  refine pf_X12_118 (pc := 12) rfl dX12_open_12 ?_
  refine ev_nmW (fun I3 => ?_)
  refine ev_aload_n (pc := 15) 0 dX12_open_15 rfl ?_
  refine ev_iconst (pc := 16) 0 k_iconst_0 dX12_open_16 ?_
  refine pf_X12_124 (pc := 17) rfl dX12_open_17 ?_
  refine ev_nmW (fun I4 => ?_)
  refine ev_aload_n (pc := 20) 0 dX12_open_20 rfl ?_
  refine gf_X12_19 (pc := 21) rfl dX12_open_21 ?_
  refine ev_iload_n (pc := 24) 1 dX12_open_24 rfl ?_
  refine ev_iconst (pc := 25) 0 k_iconst_0 dX12_open_25 ?_
  refine ev_iast (pc := 26) kK_42 dX12_open_26 ?_
  refine ev_nmW (fun I5 => ?_)
  refine ev_aload_n (pc := 27) 0 dX12_open_27 rfl ?_
  refine gf_X12_22 (pc := 28) rfl dX12_open_28 ?_
  refine ev_iload_n (pc := 31) 1 dX12_open_31 rfl ?_
  refine ev_iconst (pc := 32) 0 k_iconst_0 dX12_open_32 ?_
  refine ev_iast (pc := 33) kK_43 dX12_open_33 ?_
  refine ev_nmW (fun I6 => ?_)
  exact ev_vret (pc := 34) rfl dX12_open_34
def f_X12_letterOf (N : Nat) (a1 : Int32) (I : PI) (L : PL) : RES := (if a1 = 107 then some (some (.int 0), I, L) else (if a1 = 110 then some (some (.int 1), I, L) else (if a1 = 97 then some (some (.int 2), I, L) else (if a1 = 98 then some (some (.int 3), I, L) else some (some (.int (-1 : Int32)), I, L)))))
set_option maxRecDepth 100000 in
theorem ok_X12_letterOf (N d : Nat) (a1 : Int32) (I : PI) (L : PL) : MOk M_X12_letterOf (d) [.int a1] I L (f_X12_letterOf N a1 I L) := by
  refine MOk.of (by decide +kernel) (Nat.le_of_ble_eq_true rfl) ?_
  show EvW _ _ 0 [(0, .int a1)] [] I L _
  rw [f_X12_letterOf]
  refine ev_iload_n (pc := 0) 0 dX12_letterOf_0 rfl ?_
  refine ev_bipush (pc := 1) 107 k_bipush_107 dX12_letterOf_1 ?_
  refine ev_icmp_ne (pc := 3) 10 (by decide) dX12_letterOf_3 ?_ ?_
  · refine ev_iload_n (pc := 10) 0 dX12_letterOf_10 rfl ?_
    refine ev_bipush (pc := 11) 110 k_bipush_110 dX12_letterOf_11 ?_
    refine ev_icmp_ne (pc := 13) 20 (by decide) dX12_letterOf_13 ?_ ?_
    · refine ev_iload_n (pc := 20) 0 dX12_letterOf_20 rfl ?_
      refine ev_bipush (pc := 21) 97 k_bipush_97 dX12_letterOf_21 ?_
      refine ev_icmp_ne (pc := 23) 30 (by decide) dX12_letterOf_23 ?_ ?_
      · refine ev_iload_n (pc := 30) 0 dX12_letterOf_30 rfl ?_
        refine ev_bipush (pc := 31) 98 k_bipush_98 dX12_letterOf_31 ?_
        refine ev_icmp_ne (pc := 33) 40 (by decide) dX12_letterOf_33 ?_ ?_
        · refine ev_iconst (pc := 40) (-1 : Int32) k_iconst_m1 dX12_letterOf_40 ?_
          exact ev_iret (pc := 41) rfl dX12_letterOf_41
        · refine ev_iconst (pc := 36) 3 k_iconst_3 dX12_letterOf_36 ?_
          refine ev_goto (pc := 37) 41 (by decide) dX12_letterOf_37 ?_
          exact ev_iret (pc := 41) rfl dX12_letterOf_41
      · refine ev_iconst (pc := 26) 2 k_iconst_2 dX12_letterOf_26 ?_
        refine ev_goto (pc := 27) 41 (by decide) dX12_letterOf_27 ?_
        exact ev_iret (pc := 41) rfl dX12_letterOf_41
    · refine ev_iconst (pc := 16) 1 k_iconst_1 dX12_letterOf_16 ?_
      refine ev_goto (pc := 17) 41 (by decide) dX12_letterOf_17 ?_
      exact ev_iret (pc := 41) rfl dX12_letterOf_41
  · refine ev_iconst (pc := 6) 0 k_iconst_0 dX12_letterOf_6 ?_
    refine ev_goto (pc := 7) 41 (by decide) dX12_letterOf_7 ?_
    exact ev_iret (pc := 41) rfl dX12_letterOf_41
def F_X12_opens_13 (N : Nat) (I : PI) (L : PL) : RES := nmW (uI I 12 5 ((I 12 5) + 1)) (fun I1 => nmW (uI I1 12 3 ((I1 12 3) + 1)) (fun I2 => some (none, I2, L)))
set_option maxRecDepth 100000 in
theorem E_X12_opens_13 (N d : Nat) (I : PI) (L : PL) : EvW M_X12_opens (d + 1) 13 [(0, .ref 12)] [] I L (F_X12_opens_13 N I L) := by
  rw [F_X12_opens_13]
  refine ev_aload_n (pc := 13) 0 dX12_opens_13 rfl ?_
  refine ev_dup (pc := 14) rfl dX12_opens_14 ?_
  refine gf_X12_124 (pc := 15) rfl dX12_opens_15 ?_
  refine ev_iconst (pc := 18) 1 k_iconst_1 dX12_opens_18 ?_
  refine ev_iadd (pc := 19) dX12_opens_19 ?_
  refine pf_X12_124 (pc := 20) rfl dX12_opens_20 ?_
  refine ev_nmW (fun I1 => ?_)
  refine ev_aload_n (pc := 23) 0 dX12_opens_23 rfl ?_
  refine ev_dup (pc := 24) rfl dX12_opens_24 ?_
  refine gf_X12_111 (pc := 25) rfl dX12_opens_25 ?_
  refine ev_iconst (pc := 28) 1 k_iconst_1 dX12_opens_28 ?_
  refine ev_iadd (pc := 29) dX12_opens_29 ?_
  refine pf_X12_111 (pc := 30) rfl dX12_opens_30 ?_
  refine ev_nmW (fun I2 => ?_)
  exact ev_vret (pc := 33) rfl dX12_opens_33
def f_X12_opens (N : Nat) (I : PI) (L : PL) : RES := (if (I 12 5) = 6 then bV (f_X12_bad N I L) (fun I4 L5 => F_X12_opens_13 N I4 L5) else F_X12_opens_13 N I L)
set_option maxRecDepth 100000 in
theorem ok_X12_opens (N d : Nat) (I : PI) (L : PL) : MOk M_X12_opens (d + 1) [.ref 12] I L (f_X12_opens N I L) := by
  refine MOk.of (by decide +kernel) (Nat.le_of_ble_eq_true rfl) ?_
  show EvW _ _ 0 [(0, .ref 12)] [] I L _
  rw [f_X12_opens]
  refine ev_aload_n (pc := 0) 0 dX12_opens_0 rfl ?_
  refine gf_X12_124 (pc := 1) rfl dX12_opens_1 ?_
  refine ev_bipush (pc := 4) 6 k_bipush_6 dX12_opens_4 ?_
  refine ev_icmp_ne (pc := 6) 13 (by decide) dX12_opens_6 ?_ ?_
  · exact E_X12_opens_13 N d I L
  · refine ev_aload_n (pc := 9) 0 dX12_opens_9 rfl ?_
    refine ev_callVV (pc := 10) (d := d) (As := []) (st := []) cv_X12_bad rfl w_692 rfl (Nat.le_of_ble_eq_true rfl) (ok_X12_bad N (d) I L) dX12_opens_10 (fun I4 L5 => ?_)
    exact E_X12_opens_13 N d I4 L5
def F_X12_closes_20 (N : Nat) (I : PI) (L : PL) : RES := nmW (uI I 12 3 ((I 12 3) + 1)) (fun I1 => nmW (uI I1 12 5 ((I1 12 5) - 1)) (fun I2 => some (none, I2, L)))
set_option maxRecDepth 100000 in
theorem E_X12_closes_20 (N d : Nat) (I : PI) (L : PL) : EvW M_X12_closes (d + 2) 20 [(0, .ref 12)] [] I L (F_X12_closes_20 N I L) := by
  rw [F_X12_closes_20]
  refine ev_aload_n (pc := 20) 0 dX12_closes_20 rfl ?_
  refine ev_dup (pc := 21) rfl dX12_closes_21 ?_
  refine gf_X12_111 (pc := 22) rfl dX12_closes_22 ?_
  refine ev_iconst (pc := 25) 1 k_iconst_1 dX12_closes_25 ?_
  refine ev_iadd (pc := 26) dX12_closes_26 ?_
  refine pf_X12_111 (pc := 27) rfl dX12_closes_27 ?_
  refine ev_nmW (fun I1 => ?_)
  refine ev_aload_n (pc := 30) 0 dX12_closes_30 rfl ?_
  refine ev_dup (pc := 31) rfl dX12_closes_31 ?_
  refine gf_X12_124 (pc := 32) rfl dX12_closes_32 ?_
  refine ev_iconst (pc := 35) 1 k_iconst_1 dX12_closes_35 ?_
  refine ev_isub (pc := 36) dX12_closes_36 ?_
  refine pf_X12_124 (pc := 37) rfl dX12_closes_37 ?_
  refine ev_nmW (fun I2 => ?_)
  exact ev_vret (pc := 40) rfl dX12_closes_40
def f_X12_closes (N : Nat) (a1 : Int32) (I : PI) (L : PL) : RES := (if (I 12 4) = (-1 : Int32) then bI (f_X12_look N I L) (fun x3 I4 L5 => (if x3 = a1 then F_X12_closes_20 N I4 L5 else bV (f_X12_bad N I4 L5) (fun I7 L8 => F_X12_closes_20 N I7 L8))) else F_X12_closes_20 N I L)
set_option maxRecDepth 100000 in
theorem ok_X12_closes (N d : Nat) (a1 : Int32) (I : PI) (L : PL) : MOk M_X12_closes (d + 2) [.ref 12, .int a1] I L (f_X12_closes N a1 I L) := by
  refine MOk.of (by decide +kernel) (Nat.le_of_ble_eq_true rfl) ?_
  show EvW _ _ 0 [(0, .ref 12), (1, .int a1)] [] I L _
  rw [f_X12_closes]
  refine ev_aload_n (pc := 0) 0 dX12_closes_0 rfl ?_
  refine gf_X12_118 (pc := 1) rfl dX12_closes_1 ?_
  refine ev_iconst (pc := 4) (-1 : Int32) k_iconst_m1 dX12_closes_4 ?_
  refine ev_icmp_ne (pc := 5) 20 (by decide) dX12_closes_5 ?_ ?_
  · refine EvW.sub [0] rfl ?_
    exact E_X12_closes_20 N d I L
  · refine ev_aload_n (pc := 8) 0 dX12_closes_8 rfl ?_
    refine ev_callVI (pc := 9) (d := d + 1) (As := []) (st := []) cv_X12_look rfl w_688 rfl (Nat.le_of_ble_eq_true rfl) (ok_X12_look N (d) I L) dX12_closes_9 (fun x3 I4 L5 => ?_)
    refine ev_iload_n (pc := 12) 1 dX12_closes_12 rfl ?_
    refine ev_icmp_eq (pc := 13) 20 (by decide) dX12_closes_13 ?_ ?_
    · refine EvW.sub [0] rfl ?_
      exact E_X12_closes_20 N d I4 L5
    · refine ev_aload_n (pc := 16) 0 dX12_closes_16 rfl ?_
      refine ev_callVV (pc := 17) (d := d + 1) (As := []) (st := []) cv_X12_bad rfl w_692 rfl (Nat.le_of_ble_eq_true rfl) (ok_X12_bad N (d + 1) I4 L5) dX12_closes_17 (fun I7 L8 => ?_)
      refine EvW.sub [0] rfl ?_
      exact E_X12_closes_20 N d I7 L8
def f_X12_put (N : Nat) (a1 : Int32) (a2 : Int32) (I : PI) (L : PL) : RES := gd (inb (I 12 14) 7) (gd (inb ((260 * (I 12 14)) + (I 42 (Int32.toNatClampNeg (I 12 14)))) 1820) (nmW (uI I 40 (Int32.toNatClampNeg ((260 * (I 12 14)) + (I 42 (Int32.toNatClampNeg (I 12 14))))) a1) (fun I1 => gd (inb (I1 12 14) 7) (gd (inb ((260 * (I1 12 14)) + (I1 42 (Int32.toNatClampNeg (I1 12 14)))) 1820) (nmW (uI I1 41 (Int32.toNatClampNeg ((260 * (I1 12 14)) + (I1 42 (Int32.toNatClampNeg (I1 12 14))))) a2) (fun I2 => gd (inb (I2 12 14) 7) (gd (inb (I2 12 14) 7) (nmW (uI I2 42 (Int32.toNatClampNeg (I2 12 14)) ((I2 42 (Int32.toNatClampNeg (I2 12 14))) + 1)) (fun I3 => some (none, I3, L))))))))))
set_option maxRecDepth 100000 in
theorem ok_X12_put (N d : Nat) (a1 : Int32) (a2 : Int32) (I : PI) (L : PL) : MOk M_X12_put (d) [.ref 12, .int a1, .int a2] I L (f_X12_put N a1 a2 I L) := by
  refine MOk.of (by decide +kernel) (Nat.le_of_ble_eq_true rfl) ?_
  show EvW _ _ 0 [(0, .ref 12), (1, .int a1), (2, .int a2)] [] I L _
  rw [f_X12_put]
  refine ev_aload_n (pc := 0) 0 dX12_put_0 rfl ?_
  refine gf_X12_13 (pc := 1) rfl dX12_put_1 ?_
  refine ev_sipush (pc := 4) 260 k_sipush_260 dX12_put_4 ?_
  refine ev_aload_n (pc := 7) 0 dX12_put_7 rfl ?_
  refine gf_X12_121 (pc := 8) rfl dX12_put_8 ?_
  refine ev_imul (pc := 11) dX12_put_11 ?_
  refine ev_aload_n (pc := 12) 0 dX12_put_12 rfl ?_
  refine gf_X12_19 (pc := 13) rfl dX12_put_13 ?_
  refine ev_aload_n (pc := 16) 0 dX12_put_16 rfl ?_
  refine gf_X12_121 (pc := 17) rfl dX12_put_17 ?_
  refine ev_iald (pc := 20) kK_42 dX12_put_20 ?_
  refine ev_iadd (pc := 21) dX12_put_21 ?_
  refine ev_iload_n (pc := 22) 1 dX12_put_22 rfl ?_
  refine ev_iast (pc := 23) kK_40 dX12_put_23 ?_
  refine ev_nmW (fun I1 => ?_)
  refine ev_aload_n (pc := 24) 0 dX12_put_24 rfl ?_
  refine gf_X12_16 (pc := 25) rfl dX12_put_25 ?_
  refine ev_sipush (pc := 28) 260 k_sipush_260 dX12_put_28 ?_
  refine ev_aload_n (pc := 31) 0 dX12_put_31 rfl ?_
  refine gf_X12_121 (pc := 32) rfl dX12_put_32 ?_
  refine ev_imul (pc := 35) dX12_put_35 ?_
  refine ev_aload_n (pc := 36) 0 dX12_put_36 rfl ?_
  refine gf_X12_19 (pc := 37) rfl dX12_put_37 ?_
  refine ev_aload_n (pc := 40) 0 dX12_put_40 rfl ?_
  refine gf_X12_121 (pc := 41) rfl dX12_put_41 ?_
  refine ev_iald (pc := 44) kK_42 dX12_put_44 ?_
  refine ev_iadd (pc := 45) dX12_put_45 ?_
  refine ev_iload_n (pc := 46) 2 dX12_put_46 rfl ?_
  refine ev_iast (pc := 47) kK_41 dX12_put_47 ?_
  refine ev_nmW (fun I2 => ?_)
  refine ev_aload_n (pc := 48) 0 dX12_put_48 rfl ?_
  refine gf_X12_19 (pc := 49) rfl dX12_put_49 ?_
  refine ev_aload_n (pc := 52) 0 dX12_put_52 rfl ?_
  refine gf_X12_121 (pc := 53) rfl dX12_put_53 ?_
  refine ev_dup2 (pc := 56) rfl rfl dX12_put_56 ?_
  refine ev_iald (pc := 57) kK_42 dX12_put_57 ?_
  refine ev_iconst (pc := 58) 1 k_iconst_1 dX12_put_58 ?_
  refine ev_iadd (pc := 59) dX12_put_59 ?_
  refine ev_iast (pc := 60) kK_42 dX12_put_60 ?_
  refine ev_nmW (fun I3 => ?_)
  exact ev_vret (pc := 61) rfl dX12_put_61
def F_X12_plainNumber_48 (N : Nat) (v1 : Int32) (I : PI) (L : PL) : RES := bI (f_X12_here N I L) (fun x1 I2 L3 => bI (f_X12_isDigit N x1 I2 L3) (fun x4 I5 L6 => (if x4 = 0 then some (some (.int v1), I5, L6) else bV (f_X12_bad N I5 L6) (fun I8 L9 => some (some (.int v1), I8, L9)))))
set_option maxRecDepth 100000 in
theorem E_X12_plainNumber_48 (N d : Nat) (v1 : Int32) (I : PI) (L : PL) : EvW M_X12_plainNumber (d + 1) 48 [(0, .ref 12), (1, .int v1)] [] I L (F_X12_plainNumber_48 N v1 I L) := by
  rw [F_X12_plainNumber_48]
  refine ev_aload_n (pc := 48) 0 dX12_plainNumber_48 rfl ?_
  refine ev_callVI (pc := 49) (d := d) (As := []) (st := []) cv_X12_here rfl w_684 rfl (Nat.le_of_ble_eq_true rfl) (ok_X12_here N (d) I L) dX12_plainNumber_49 (fun x1 I2 L3 => ?_)
  refine ev_callSI (pc := 52) (d := d) (As := [.int x1]) (st := []) cv_X12_isDigit rfl w_700 rfl (Nat.le_of_ble_eq_true rfl) (ok_X12_isDigit N (d) x1 I2 L3) dX12_plainNumber_52 (fun x4 I5 L6 => ?_)
  refine ev_if_eq (pc := 55) 62 (by decide) dX12_plainNumber_55 ?_ ?_
  · refine ev_iload_n (pc := 62) 1 dX12_plainNumber_62 rfl ?_
    exact ev_iret (pc := 63) rfl dX12_plainNumber_63
  · refine ev_aload_n (pc := 58) 0 dX12_plainNumber_58 rfl ?_
    refine ev_callVV (pc := 59) (d := d) (As := []) (st := []) cv_X12_bad rfl w_692 rfl (Nat.le_of_ble_eq_true rfl) (ok_X12_bad N (d) I5 L6) dX12_plainNumber_59 (fun I8 L9 => ?_)
    refine ev_iload_n (pc := 62) 1 dX12_plainNumber_62 rfl ?_
    exact ev_iret (pc := 63) rfl dX12_plainNumber_63
def F_X12_plainNumber_4 (N : Nat) : Nat → Int32 → Int32 → PI → PL → RES
  | 0, _, _, _, _ => none
  | n + 1, v1, v2, I, L => (if 4 ≤ v2 then F_X12_plainNumber_48 N v1 I L else bI (f_X12_here N I L) (fun x10 I11 L12 => bI (f_X12_isDigit N x10 I11 L12) (fun x13 I14 L15 => (if x13 = 0 then F_X12_plainNumber_48 N v1 I14 L15 else bI (f_X12_here N I14 L15) (fun x16 I17 L18 => nmI (((10 * v1) + x16) - 48) (fun x19 => nmW (uI I17 12 3 ((I17 12 3) + 1)) (fun I20 => (F_X12_plainNumber_4 N n) x19 (v2 + 1) I20 L18)))))))
set_option maxRecDepth 100000 in
theorem E_X12_plainNumber_4 (N d : Nat) : ∀ (n : Nat) (v1 : Int32) (v2 : Int32) (I : PI) (L : PL), EvW M_X12_plainNumber (d + 1) 4 [(0, .ref 12), (1, .int v1), (2, .int v2)] [] I L (F_X12_plainNumber_4 N n v1 v2 I L) := by
  intro n
  induction n with
  | zero =>
    intro v1 v2 I L
    exact EvW.none
  | succ n hr_4 =>
    intro v1 v2 I L
    rw [F_X12_plainNumber_4]
    refine ev_iload_n (pc := 4) 2 dX12_plainNumber_4 rfl ?_
    refine ev_iconst (pc := 5) 4 k_iconst_4 dX12_plainNumber_5 ?_
    refine ev_icmp_ge (pc := 6) 48 (by decide) dX12_plainNumber_6 ?_ ?_
    · refine EvW.sub [0, 1] rfl ?_
      exact E_X12_plainNumber_48 N d v1 I L
    · refine ev_aload_n (pc := 9) 0 dX12_plainNumber_9 rfl ?_
      refine ev_callVI (pc := 10) (d := d) (As := []) (st := []) cv_X12_here rfl w_684 rfl (Nat.le_of_ble_eq_true rfl) (ok_X12_here N (d) I L) dX12_plainNumber_10 (fun x10 I11 L12 => ?_)
      refine ev_callSI (pc := 13) (d := d) (As := [.int x10]) (st := []) cv_X12_isDigit rfl w_700 rfl (Nat.le_of_ble_eq_true rfl) (ok_X12_isDigit N (d) x10 I11 L12) dX12_plainNumber_13 (fun x13 I14 L15 => ?_)
      refine ev_if_eq (pc := 16) 48 (by decide) dX12_plainNumber_16 ?_ ?_
      · refine EvW.sub [0, 1] rfl ?_
        exact E_X12_plainNumber_48 N d v1 I14 L15
      · refine ev_bipush (pc := 19) 10 k_bipush_10 dX12_plainNumber_19 ?_
        refine ev_iload_n (pc := 21) 1 dX12_plainNumber_21 rfl ?_
        refine ev_imul (pc := 22) dX12_plainNumber_22 ?_
        refine ev_aload_n (pc := 23) 0 dX12_plainNumber_23 rfl ?_
        refine ev_callVI (pc := 24) (d := d) (As := []) (st := [.int (10 * v1)]) cv_X12_here rfl w_684 rfl (Nat.le_of_ble_eq_true rfl) (ok_X12_here N (d) I14 L15) dX12_plainNumber_24 (fun x16 I17 L18 => ?_)
        refine ev_iadd (pc := 27) dX12_plainNumber_27 ?_
        refine ev_bipush (pc := 28) 48 k_bipush_48 dX12_plainNumber_28 ?_
        refine ev_isub (pc := 30) dX12_plainNumber_30 ?_
        refine ev_nmI (fun x19 => ?_)
        refine ev_istore_n (pc := 31) (lv' := [(1, .int x19), (0, .ref 12), (2, .int v2)]) dX12_plainNumber_31 rfl rfl rfl ?_
        refine ev_aload_n (pc := 32) 1 dX12_plainNumber_32 rfl ?_
        refine ev_dup (pc := 33) rfl dX12_plainNumber_33 ?_
        refine gf_X12_111 (pc := 34) rfl dX12_plainNumber_34 ?_
        refine ev_iconst (pc := 37) 1 k_iconst_1 dX12_plainNumber_37 ?_
        refine ev_iadd (pc := 38) dX12_plainNumber_38 ?_
        refine pf_X12_111 (pc := 39) rfl dX12_plainNumber_39 ?_
        refine ev_nmW (fun I20 => ?_)
        refine ev_iinc (pc := 42) (lv' := [(2, .int (v2 + 1)), (1, .int x19), (0, .ref 12)]) dX12_plainNumber_42 2 rfl rfl 1 k_iconst_1 rfl ?_
        refine ev_goto (pc := 45) 4 (by decide) dX12_plainNumber_45 ?_
        refine EvW.sub [2, 1, 0] rfl ?_
        exact hr_4 x19 (v2 + 1) I20 L18
def f_X12_plainNumber (N : Nat) (I : PI) (L : PL) : RES := F_X12_plainNumber_4 N N 0 0 I L
set_option maxRecDepth 100000 in
theorem ok_X12_plainNumber (N d : Nat) (I : PI) (L : PL) : MOk M_X12_plainNumber (d + 1) [.ref 12] I L (f_X12_plainNumber N I L) := by
  refine MOk.of (by decide +kernel) (Nat.le_of_ble_eq_true rfl) ?_
  show EvW _ _ 0 [(0, .ref 12)] [] I L _
  rw [f_X12_plainNumber]
  refine ev_iconst (pc := 0) 0 k_iconst_0 dX12_plainNumber_0 ?_
  refine ev_istore_n (pc := 1) (lv' := [(1, .int 0), (0, .ref 12)]) dX12_plainNumber_1 rfl rfl rfl ?_
  refine ev_iconst (pc := 2) 0 k_iconst_0 dX12_plainNumber_2 ?_
  refine ev_istore_n (pc := 3) (lv' := [(2, .int 0), (1, .int 0), (0, .ref 12)]) dX12_plainNumber_3 rfl rfl rfl ?_
  refine EvW.sub [2, 1, 0] rfl ?_
  exact E_X12_plainNumber_4 N d N 0 0 I L
def fo_X12_atom (N : Nat) (c_X12_atom : PI → PL → RES) (c_X12_sum : PI → PL → RES) (c_X12_term : PI → PL → RES) (I : PI) (L : PL) : RES := bI (f_X12_look N I L) (fun x1 I2 L3 => bI (f_X12_isDigit N x1 I2 L3) (fun x4 I5 L6 => (if x4 = 0 then bI (f_X12_letterOf N x1 I5 L6) (fun x7 I8 L9 => (if x7 = (-1 : Int32) then (if x1 = 91 then bV (f_X12_opens N I8 L9) (fun I14 L15 => (if (I14 12 4) = (-1 : Int32) then bV (c_X12_sum I14 L15) (fun I17 L18 => bV (f_X12_closes N 93 I17 L18) (fun I20 L21 => some (none, I20, L21))) else some (none, I14, L15))) else bV (f_X12_bad N I8 L9) (fun I11 L12 => some (none, I11, L12))) else nmW (uI I8 12 3 ((I8 12 3) + 1)) (fun I22 => bI (f_X12_letterOf N x1 I22 L9) (fun x23 I24 L25 => bV (f_X12_put N 1 x23 I24 L25) (fun I27 L28 => some (none, I27, L28)))))) else bI (f_X12_plainNumber N I5 L6) (fun x29 I30 L31 => bV (f_X12_put N 0 x29 I30 L31) (fun I33 L34 => some (none, I33, L34))))))
set_option maxRecDepth 100000 in
theorem oo_X12_atom (N d : Nat) (c_X12_atom : PI → PL → RES) (c_X12_sum : PI → PL → RES) (c_X12_term : PI → PL → RES) (hc_X12_atom : ∀ (I : PI) (L : PL), MOk M_X12_atom (d + 3) [.ref 12] I L (c_X12_atom I L)) (hc_X12_sum : ∀ (I : PI) (L : PL), MOk M_X12_sum (d + 3) [.ref 12] I L (c_X12_sum I L)) (hc_X12_term : ∀ (I : PI) (L : PL), MOk M_X12_term (d + 3) [.ref 12] I L (c_X12_term I L)) (I : PI) (L : PL) : MOk M_X12_atom (d + 4) [.ref 12] I L (fo_X12_atom N c_X12_atom c_X12_sum c_X12_term I L) := by
  refine MOk.of (by decide +kernel) (Nat.le_of_ble_eq_true rfl) ?_
  show EvW _ _ 0 [(0, .ref 12)] [] I L _
  rw [fo_X12_atom]
  refine ev_aload_n (pc := 0) 0 dX12_atom_0 rfl ?_
  refine ev_callVI (pc := 1) (d := d + 3) (As := []) (st := []) cv_X12_look rfl w_688 rfl (Nat.le_of_ble_eq_true rfl) (ok_X12_look N (d + 2) I L) dX12_atom_1 (fun x1 I2 L3 => ?_)
  refine ev_istore_n (pc := 4) (lv' := [(1, .int x1), (0, .ref 12)]) dX12_atom_4 rfl rfl rfl ?_
  refine ev_iload_n (pc := 5) 0 dX12_atom_5 rfl ?_
  refine ev_callSI (pc := 6) (d := d + 3) (As := [.int x1]) (st := []) cv_X12_isDigit rfl w_700 rfl (Nat.le_of_ble_eq_true rfl) (ok_X12_isDigit N (d + 3) x1 I2 L3) dX12_atom_6 (fun x4 I5 L6 => ?_)
  refine ev_if_eq (pc := 9) 24 (by decide) dX12_atom_9 ?_ ?_
  · refine ev_iload_n (pc := 24) 0 dX12_atom_24 rfl ?_
    refine ev_callSI (pc := 25) (d := d + 3) (As := [.int x1]) (st := []) cv_X12_letterOf rfl w_720 rfl (Nat.le_of_ble_eq_true rfl) (ok_X12_letterOf N (d + 3) x1 I5 L6) dX12_atom_25 (fun x7 I8 L9 => ?_)
    refine ev_iconst (pc := 28) (-1 : Int32) k_iconst_m1 dX12_atom_28 ?_
    refine ev_icmp_eq (pc := 29) 54 (by decide) dX12_atom_29 ?_ ?_
    · refine ev_iload_n (pc := 54) 0 dX12_atom_54 rfl ?_
      refine ev_bipush (pc := 55) 91 k_bipush_91 dX12_atom_55 ?_
      refine ev_icmp_ne (pc := 57) 85 (by decide) dX12_atom_57 ?_ ?_
      · refine ev_aload_n (pc := 85) 1 dX12_atom_85 rfl ?_
        refine ev_callVV (pc := 86) (d := d + 3) (As := []) (st := []) cv_X12_bad rfl w_692 rfl (Nat.le_of_ble_eq_true rfl) (ok_X12_bad N (d + 3) I8 L9) dX12_atom_86 (fun I11 L12 => ?_)
        exact ev_vret (pc := 89) rfl dX12_atom_89
      · refine ev_aload_n (pc := 60) 1 dX12_atom_60 rfl ?_
        refine ev_callVV (pc := 61) (d := d + 3) (As := []) (st := []) cv_X12_opens rfl w_724 rfl (Nat.le_of_ble_eq_true rfl) (ok_X12_opens N (d + 2) I8 L9) dX12_atom_61 (fun I14 L15 => ?_)
        refine ev_aload_n (pc := 64) 1 dX12_atom_64 rfl ?_
        refine gf_X12_118 (pc := 65) rfl dX12_atom_65 ?_
        refine ev_iconst (pc := 68) (-1 : Int32) k_iconst_m1 dX12_atom_68 ?_
        refine ev_icmp_ne (pc := 69) 89 (by decide) dX12_atom_69 ?_ ?_
        · exact ev_vret (pc := 89) rfl dX12_atom_89
        · refine ev_aload_n (pc := 72) 1 dX12_atom_72 rfl ?_
          refine ev_callVV (pc := 73) (d := d + 3) (As := []) (st := []) cv_X12_sum rfl w_728 rfl (Nat.le_of_ble_eq_true rfl) (hc_X12_sum I14 L15) dX12_atom_73 (fun I17 L18 => ?_)
          refine ev_aload_n (pc := 76) 1 dX12_atom_76 rfl ?_
          refine ev_bipush (pc := 77) 93 k_bipush_93 dX12_atom_77 ?_
          refine ev_callVV (pc := 79) (d := d + 3) (As := [.int 93]) (st := []) cv_X12_closes rfl w_732 rfl (Nat.le_of_ble_eq_true rfl) (ok_X12_closes N (d + 1) 93 I17 L18) dX12_atom_79 (fun I20 L21 => ?_)
          refine ev_goto (pc := 82) 89 (by decide) dX12_atom_82 ?_
          exact ev_vret (pc := 89) rfl dX12_atom_89
    · refine ev_aload_n (pc := 32) 1 dX12_atom_32 rfl ?_
      refine ev_dup (pc := 33) rfl dX12_atom_33 ?_
      refine gf_X12_111 (pc := 34) rfl dX12_atom_34 ?_
      refine ev_iconst (pc := 37) 1 k_iconst_1 dX12_atom_37 ?_
      refine ev_iadd (pc := 38) dX12_atom_38 ?_
      refine pf_X12_111 (pc := 39) rfl dX12_atom_39 ?_
      refine ev_nmW (fun I22 => ?_)
      refine ev_aload_n (pc := 42) 1 dX12_atom_42 rfl ?_
      refine ev_iconst (pc := 43) 1 k_iconst_1 dX12_atom_43 ?_
      refine ev_iload_n (pc := 44) 0 dX12_atom_44 rfl ?_
      refine ev_callSI (pc := 45) (d := d + 3) (As := [.int x1]) (st := [.int 1, .ref 12]) cv_X12_letterOf rfl w_720 rfl (Nat.le_of_ble_eq_true rfl) (ok_X12_letterOf N (d + 3) x1 I22 L9) dX12_atom_45 (fun x23 I24 L25 => ?_)
      refine ev_callVV (pc := 48) (d := d + 3) (As := [.int 1, .int x23]) (st := []) cv_X12_put rfl w_738 rfl (Nat.le_of_ble_eq_true rfl) (ok_X12_put N (d + 3) 1 x23 I24 L25) dX12_atom_48 (fun I27 L28 => ?_)
      refine ev_goto (pc := 51) 89 (by decide) dX12_atom_51 ?_
      exact ev_vret (pc := 89) rfl dX12_atom_89
  · refine ev_aload_n (pc := 12) 1 dX12_atom_12 rfl ?_
    refine ev_iconst (pc := 13) 0 k_iconst_0 dX12_atom_13 ?_
    refine ev_aload_n (pc := 14) 1 dX12_atom_14 rfl ?_
    refine ev_callVI (pc := 15) (d := d + 3) (As := []) (st := [.int 0, .ref 12]) cv_X12_plainNumber rfl w_742 rfl (Nat.le_of_ble_eq_true rfl) (ok_X12_plainNumber N (d + 2) I5 L6) dX12_atom_15 (fun x29 I30 L31 => ?_)
    refine ev_callVV (pc := 18) (d := d + 3) (As := [.int 0, .int x29]) (st := []) cv_X12_put rfl w_738 rfl (Nat.le_of_ble_eq_true rfl) (ok_X12_put N (d + 3) 0 x29 I30 L31) dX12_atom_18 (fun I33 L34 => ?_)
    refine ev_goto (pc := 21) 89 (by decide) dX12_atom_21 ?_
    exact ev_vret (pc := 89) rfl dX12_atom_89
def F_X12_sum_59 (N : Nat) (c_X12_atom : PI → PL → RES) (c_X12_sum : PI → PL → RES) (c_X12_term : PI → PL → RES) (r_21 : Int32 → PI → PL → RES) (s0 : Int32) (I : PI) (L : PL) : RES := bV (f_X12_put N s0 0 I L) (fun I9 L10 => (if (I9 12 4) = (-1 : Int32) then bI (f_X12_look N I9 L10) (fun x11 I12 L13 => r_21 x11 I12 L13) else r_21 (-1 : Int32) I9 L10))
set_option maxRecDepth 100000 in
theorem E_X12_sum_59 (N d : Nat) (c_X12_atom : PI → PL → RES) (c_X12_sum : PI → PL → RES) (c_X12_term : PI → PL → RES) (r_21 : Int32 → PI → PL → RES) (hc_X12_atom : ∀ (I : PI) (L : PL), MOk M_X12_atom (d + 3) [.ref 12] I L (c_X12_atom I L)) (hc_X12_sum : ∀ (I : PI) (L : PL), MOk M_X12_sum (d + 3) [.ref 12] I L (c_X12_sum I L)) (hc_X12_term : ∀ (I : PI) (L : PL), MOk M_X12_term (d + 3) [.ref 12] I L (c_X12_term I L)) (hr_21 : ∀ (v1 : Int32) (I : PI) (L : PL), EvW M_X12_sum (d + 4) 21 [(0, .ref 12), (1, .int v1)] [] I L (r_21 v1 I L)) (s0 : Int32) (I : PI) (L : PL) : EvW M_X12_sum (d + 4) 59 [(0, .ref 12)] [.int s0, .ref 12] I L (F_X12_sum_59 N c_X12_atom c_X12_sum c_X12_term r_21 s0 I L) := by
  rw [F_X12_sum_59]
  refine ev_iconst (pc := 59) 0 k_iconst_0 dX12_sum_59 ?_
  refine ev_callVV (pc := 60) (d := d + 3) (As := [.int s0, .int 0]) (st := []) cv_X12_put rfl w_738 rfl (Nat.le_of_ble_eq_true rfl) (ok_X12_put N (d + 3) s0 0 I L) dX12_sum_60 (fun I9 L10 => ?_)
  refine ev_aload_n (pc := 63) 0 dX12_sum_63 rfl ?_
  refine gf_X12_118 (pc := 64) rfl dX12_sum_64 ?_
  refine ev_iconst (pc := 67) (-1 : Int32) k_iconst_m1 dX12_sum_67 ?_
  refine ev_icmp_ne (pc := 68) 78 (by decide) dX12_sum_68 ?_ ?_
  · refine ev_iconst (pc := 78) (-1 : Int32) k_iconst_m1 dX12_sum_78 ?_
    refine ev_istore_n (pc := 79) (lv' := [(1, .int (-1 : Int32)), (0, .ref 12)]) dX12_sum_79 rfl rfl rfl ?_
    refine ev_goto (pc := 80) 21 (by decide) dX12_sum_80 ?_
    refine EvW.sub [1, 0] rfl ?_
    exact hr_21 (-1 : Int32) I9 L10
  · refine ev_aload_n (pc := 71) 0 dX12_sum_71 rfl ?_
    refine ev_callVI (pc := 72) (d := d + 3) (As := []) (st := []) cv_X12_look rfl w_688 rfl (Nat.le_of_ble_eq_true rfl) (ok_X12_look N (d + 2) I9 L10) dX12_sum_72 (fun x11 I12 L13 => ?_)
    refine ev_goto (pc := 75) 79 (by decide) dX12_sum_75 ?_
    refine ev_istore_n (pc := 79) (lv' := [(1, .int x11), (0, .ref 12)]) dX12_sum_79 rfl rfl rfl ?_
    refine ev_goto (pc := 80) 21 (by decide) dX12_sum_80 ?_
    refine EvW.sub [1, 0] rfl ?_
    exact hr_21 x11 I12 L13
def F_X12_sum_33 (N : Nat) (c_X12_atom : PI → PL → RES) (c_X12_sum : PI → PL → RES) (c_X12_term : PI → PL → RES) (r_21 : Int32 → PI → PL → RES) (v1 : Int32) (I : PI) (L : PL) : RES := nmW (uI I 12 3 ((I 12 3) + 1)) (fun I4 => bV (c_X12_term I4 L) (fun I6 L7 => (if v1 = 43 then F_X12_sum_59 N c_X12_atom c_X12_sum c_X12_term r_21 2 I6 L7 else F_X12_sum_59 N c_X12_atom c_X12_sum c_X12_term r_21 3 I6 L7)))
set_option maxRecDepth 100000 in
theorem E_X12_sum_33 (N d : Nat) (c_X12_atom : PI → PL → RES) (c_X12_sum : PI → PL → RES) (c_X12_term : PI → PL → RES) (r_21 : Int32 → PI → PL → RES) (hc_X12_atom : ∀ (I : PI) (L : PL), MOk M_X12_atom (d + 3) [.ref 12] I L (c_X12_atom I L)) (hc_X12_sum : ∀ (I : PI) (L : PL), MOk M_X12_sum (d + 3) [.ref 12] I L (c_X12_sum I L)) (hc_X12_term : ∀ (I : PI) (L : PL), MOk M_X12_term (d + 3) [.ref 12] I L (c_X12_term I L)) (hr_21 : ∀ (v1 : Int32) (I : PI) (L : PL), EvW M_X12_sum (d + 4) 21 [(0, .ref 12), (1, .int v1)] [] I L (r_21 v1 I L)) (v1 : Int32) (I : PI) (L : PL) : EvW M_X12_sum (d + 4) 33 [(0, .ref 12), (1, .int v1)] [] I L (F_X12_sum_33 N c_X12_atom c_X12_sum c_X12_term r_21 v1 I L) := by
  rw [F_X12_sum_33]
  refine ev_aload_n (pc := 33) 0 dX12_sum_33 rfl ?_
  refine ev_dup (pc := 34) rfl dX12_sum_34 ?_
  refine gf_X12_111 (pc := 35) rfl dX12_sum_35 ?_
  refine ev_iconst (pc := 38) 1 k_iconst_1 dX12_sum_38 ?_
  refine ev_iadd (pc := 39) dX12_sum_39 ?_
  refine pf_X12_111 (pc := 40) rfl dX12_sum_40 ?_
  refine ev_nmW (fun I4 => ?_)
  refine ev_aload_n (pc := 43) 0 dX12_sum_43 rfl ?_
  refine ev_callVV (pc := 44) (d := d + 3) (As := []) (st := []) cv_X12_term rfl w_746 rfl (Nat.le_of_ble_eq_true rfl) (hc_X12_term I4 L) dX12_sum_44 (fun I6 L7 => ?_)
  refine ev_aload_n (pc := 47) 0 dX12_sum_47 rfl ?_
  refine ev_iload_n (pc := 48) 1 dX12_sum_48 rfl ?_
  refine ev_bipush (pc := 49) 43 k_bipush_43 dX12_sum_49 ?_
  refine ev_icmp_ne (pc := 51) 58 (by decide) dX12_sum_51 ?_ ?_
  · refine ev_iconst (pc := 58) 3 k_iconst_3 dX12_sum_58 ?_
    refine EvW.sub [0] rfl ?_
    exact E_X12_sum_59 N d c_X12_atom c_X12_sum c_X12_term r_21 hc_X12_atom hc_X12_sum hc_X12_term hr_21 3 I6 L7
  · refine ev_iconst (pc := 54) 2 k_iconst_2 dX12_sum_54 ?_
    refine ev_goto (pc := 55) 59 (by decide) dX12_sum_55 ?_
    refine EvW.sub [0] rfl ?_
    exact E_X12_sum_59 N d c_X12_atom c_X12_sum c_X12_term r_21 hc_X12_atom hc_X12_sum hc_X12_term hr_21 2 I6 L7
def F_X12_sum_21 (N : Nat) (c_X12_atom : PI → PL → RES) (c_X12_sum : PI → PL → RES) (c_X12_term : PI → PL → RES) : Nat → Int32 → PI → PL → RES
  | 0, _, _, _ => none
  | n + 1, v1, I, L => (if v1 = 43 then F_X12_sum_33 N c_X12_atom c_X12_sum c_X12_term (F_X12_sum_21 N c_X12_atom c_X12_sum c_X12_term n) v1 I L else (if v1 = 45 then F_X12_sum_33 N c_X12_atom c_X12_sum c_X12_term (F_X12_sum_21 N c_X12_atom c_X12_sum c_X12_term n) v1 I L else some (none, I, L)))
set_option maxRecDepth 100000 in
theorem E_X12_sum_21 (N d : Nat) (c_X12_atom : PI → PL → RES) (c_X12_sum : PI → PL → RES) (c_X12_term : PI → PL → RES) (hc_X12_atom : ∀ (I : PI) (L : PL), MOk M_X12_atom (d + 3) [.ref 12] I L (c_X12_atom I L)) (hc_X12_sum : ∀ (I : PI) (L : PL), MOk M_X12_sum (d + 3) [.ref 12] I L (c_X12_sum I L)) (hc_X12_term : ∀ (I : PI) (L : PL), MOk M_X12_term (d + 3) [.ref 12] I L (c_X12_term I L)) : ∀ (n : Nat) (v1 : Int32) (I : PI) (L : PL), EvW M_X12_sum (d + 4) 21 [(0, .ref 12), (1, .int v1)] [] I L (F_X12_sum_21 N c_X12_atom c_X12_sum c_X12_term n v1 I L) := by
  intro n
  induction n with
  | zero =>
    intro v1 I L
    exact EvW.none
  | succ n hr_21 =>
    intro v1 I L
    rw [F_X12_sum_21]
    refine ev_iload_n (pc := 21) 1 dX12_sum_21 rfl ?_
    refine ev_bipush (pc := 22) 43 k_bipush_43 dX12_sum_22 ?_
    refine ev_icmp_eq (pc := 24) 33 (by decide) dX12_sum_24 ?_ ?_
    · exact E_X12_sum_33 N d c_X12_atom c_X12_sum c_X12_term (F_X12_sum_21 N c_X12_atom c_X12_sum c_X12_term n) hc_X12_atom hc_X12_sum hc_X12_term hr_21 v1 I L
    · refine ev_iload_n (pc := 27) 1 dX12_sum_27 rfl ?_
      refine ev_bipush (pc := 28) 45 k_bipush_45 dX12_sum_28 ?_
      refine ev_icmp_ne (pc := 30) 83 (by decide) dX12_sum_30 ?_ ?_
      · exact ev_vret (pc := 83) rfl dX12_sum_83
      · exact E_X12_sum_33 N d c_X12_atom c_X12_sum c_X12_term (F_X12_sum_21 N c_X12_atom c_X12_sum c_X12_term n) hc_X12_atom hc_X12_sum hc_X12_term hr_21 v1 I L
def fo_X12_sum (N : Nat) (c_X12_atom : PI → PL → RES) (c_X12_sum : PI → PL → RES) (c_X12_term : PI → PL → RES) (I : PI) (L : PL) : RES := bV (c_X12_term I L) (fun I2 L3 => (if (I2 12 4) = (-1 : Int32) then bI (f_X12_look N I2 L3) (fun x14 I15 L16 => F_X12_sum_21 N c_X12_atom c_X12_sum c_X12_term N x14 I15 L16) else F_X12_sum_21 N c_X12_atom c_X12_sum c_X12_term N (-1 : Int32) I2 L3))
set_option maxRecDepth 100000 in
theorem oo_X12_sum (N d : Nat) (c_X12_atom : PI → PL → RES) (c_X12_sum : PI → PL → RES) (c_X12_term : PI → PL → RES) (hc_X12_atom : ∀ (I : PI) (L : PL), MOk M_X12_atom (d + 3) [.ref 12] I L (c_X12_atom I L)) (hc_X12_sum : ∀ (I : PI) (L : PL), MOk M_X12_sum (d + 3) [.ref 12] I L (c_X12_sum I L)) (hc_X12_term : ∀ (I : PI) (L : PL), MOk M_X12_term (d + 3) [.ref 12] I L (c_X12_term I L)) (I : PI) (L : PL) : MOk M_X12_sum (d + 4) [.ref 12] I L (fo_X12_sum N c_X12_atom c_X12_sum c_X12_term I L) := by
  refine MOk.of (by decide +kernel) (Nat.le_of_ble_eq_true rfl) ?_
  show EvW _ _ 0 [(0, .ref 12)] [] I L _
  rw [fo_X12_sum]
  refine ev_aload_n (pc := 0) 0 dX12_sum_0 rfl ?_
  refine ev_callVV (pc := 1) (d := d + 3) (As := []) (st := []) cv_X12_term rfl w_746 rfl (Nat.le_of_ble_eq_true rfl) (hc_X12_term I L) dX12_sum_1 (fun I2 L3 => ?_)
  refine ev_aload_n (pc := 4) 0 dX12_sum_4 rfl ?_
  refine gf_X12_118 (pc := 5) rfl dX12_sum_5 ?_
  refine ev_iconst (pc := 8) (-1 : Int32) k_iconst_m1 dX12_sum_8 ?_
  refine ev_icmp_ne (pc := 9) 19 (by decide) dX12_sum_9 ?_ ?_
  · refine ev_iconst (pc := 19) (-1 : Int32) k_iconst_m1 dX12_sum_19 ?_
    refine ev_istore_n (pc := 20) (lv' := [(1, .int (-1 : Int32)), (0, .ref 12)]) dX12_sum_20 rfl rfl rfl ?_
    refine EvW.sub [1, 0] rfl ?_
    exact E_X12_sum_21 N d c_X12_atom c_X12_sum c_X12_term hc_X12_atom hc_X12_sum hc_X12_term N (-1 : Int32) I2 L3
  · refine ev_aload_n (pc := 12) 0 dX12_sum_12 rfl ?_
    refine ev_callVI (pc := 13) (d := d + 3) (As := []) (st := []) cv_X12_look rfl w_688 rfl (Nat.le_of_ble_eq_true rfl) (ok_X12_look N (d + 2) I2 L3) dX12_sum_13 (fun x14 I15 L16 => ?_)
    refine ev_goto (pc := 16) 20 (by decide) dX12_sum_16 ?_
    refine ev_istore_n (pc := 20) (lv' := [(1, .int x14), (0, .ref 12)]) dX12_sum_20 rfl rfl rfl ?_
    refine EvW.sub [1, 0] rfl ?_
    exact E_X12_sum_21 N d c_X12_atom c_X12_sum c_X12_term hc_X12_atom hc_X12_sum hc_X12_term N x14 I15 L16
