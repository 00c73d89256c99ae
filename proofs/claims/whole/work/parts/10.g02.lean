def F_X4_leak_4 (N : Nat) : Nat → Int32 → Int32 → Int32 → PI → PL → RES
  | 0, _, _, _, _, _ => none
  | n + 1, v1, v2, v3, I, L => (if 3 < v3 then some (some (.int v2), I, L) else bI (f_X4_greatestOf N v1 v1 v3 I L) (fun x1 I2 L3 => nmI (jmax v2 x1) (fun x4 => (F_X4_leak_4 N n) v1 x4 (v3 + 1) I2 L3)))
set_option maxRecDepth 100000 in
theorem E_X4_leak_4 (N d : Nat) : ∀ (n : Nat) (v1 : Int32) (v2 : Int32) (v3 : Int32) (I : PI) (L : PL), EvW M_X4_leak (d + 4) 4 [(0, .ref 4), (1, .int v1), (2, .int v2), (3, .int v3)] [] I L (F_X4_leak_4 N n v1 v2 v3 I L) := by
  intro n
  induction n with
  | zero =>
    intro v1 v2 v3 I L
    exact EvW.none
  | succ n hr_4 =>
    intro v1 v2 v3 I L
    rw [F_X4_leak_4]
    refine ev_iload_n (pc := 4) 3 dX4_leak_4 rfl ?_
    refine ev_iconst (pc := 5) 3 k_iconst_3 dX4_leak_5 ?_
    refine ev_icmp_gt (pc := 6) 27 (by decide) dX4_leak_6 ?_ ?_
    · refine ev_iload_n (pc := 27) 2 dX4_leak_27 rfl ?_
      exact ev_iret (pc := 28) rfl dX4_leak_28
    · refine ev_iload_n (pc := 9) 2 dX4_leak_9 rfl ?_
      refine ev_aload_n (pc := 10) 0 dX4_leak_10 rfl ?_
      refine ev_iload_n (pc := 11) 1 dX4_leak_11 rfl ?_
      refine ev_iload_n (pc := 12) 1 dX4_leak_12 rfl ?_
      refine ev_iload_n (pc := 13) 3 dX4_leak_13 rfl ?_
      refine ev_callVI (pc := 14) (d := d + 3) (As := [.int v1, .int v1, .int v3]) (st := [.int v2]) cv_X4_greatestOf rfl w_234 rfl (Nat.le_of_ble_eq_true rfl) (ok_X4_greatestOf N (d) v1 v1 v3 I L) dX4_leak_14 (fun x1 I2 L3 => ?_)
      refine ev_mmax (pc := 17) (d := d + 3) w_217 w_130 w_131 w_132 (Nat.le_of_ble_eq_true rfl) dX4_leak_17 ?_
      refine ev_nmI (fun x4 => ?_)
      refine ev_istore_n (pc := 20) (lv' := [(2, .int x4), (0, .ref 4), (1, .int v1), (3, .int v3)]) dX4_leak_20 rfl rfl rfl ?_
      refine ev_iinc (pc := 21) (lv' := [(3, .int (v3 + 1)), (2, .int x4), (0, .ref 4), (1, .int v1)]) dX4_leak_21 3 rfl rfl 1 k_iconst_1 rfl ?_
      refine ev_goto (pc := 24) 4 (by decide) dX4_leak_24 ?_
      refine EvW.sub [2, 3, 1, 0] rfl ?_
      exact hr_4 v1 x4 (v3 + 1) I2 L3
def f_X4_leak (N : Nat) (a1 : Int32) (I : PI) (L : PL) : RES := F_X4_leak_4 N N a1 0 1 I L
set_option maxRecDepth 100000 in
theorem ok_X4_leak (N d : Nat) (a1 : Int32) (I : PI) (L : PL) : MOk M_X4_leak (d + 4) [.ref 4, .int a1] I L (f_X4_leak N a1 I L) := by
  refine MOk.of (by decide +kernel) (Nat.le_of_ble_eq_true rfl) ?_
  show EvW _ _ 0 [(0, .ref 4), (1, .int a1)] [] I L _
  rw [f_X4_leak]
  refine ev_iconst (pc := 0) 0 k_iconst_0 dX4_leak_0 ?_
  refine ev_istore_n (pc := 1) (lv' := [(2, .int 0), (0, .ref 4), (1, .int a1)]) dX4_leak_1 rfl rfl rfl ?_
  refine ev_iconst (pc := 2) 1 k_iconst_1 dX4_leak_2 ?_
  refine ev_istore_n (pc := 3) (lv' := [(3, .int 1), (2, .int 0), (0, .ref 4), (1, .int a1)]) dX4_leak_3 rfl rfl rfl ?_
  refine EvW.sub [2, 3, 1, 0] rfl ?_
  exact E_X4_leak_4 N d N a1 0 1 I L
def F_X4_loss_57 (N : Nat) (v2 : Int32) (v3 : Int32) (v4 : Int32) (I : PI) (L : PL) : RES := nmJ ((Int32.toInt64 v3) * (Int32.toInt64 v4)) (fun x4 => (if (lg_cmp x4 0) = 0 then some (some (.int 0), I, L) else gd (decide (¬ x4 = 0)) (some (some (.int (Int64.toInt32 ((1000000 * (Int32.toInt64 v2)) / x4))), I, L))))
set_option maxRecDepth 100000 in
theorem E_X4_loss_57 (N d : Nat) (v2 : Int32) (v3 : Int32) (v4 : Int32) (I : PI) (L : PL) : EvW M_X4_loss (d + 1) 57 [(2, .int v2), (3, .int v3), (4, .int v4)] [] I L (F_X4_loss_57 N v2 v3 v4 I L) := by
  rw [F_X4_loss_57]
  refine ev_iload_n (pc := 57) 1 dX4_loss_57 rfl ?_
  refine ev_i2l (pc := 58) dX4_loss_58 ?_
  refine ev_iload (pc := 59) 2 dX4_loss_59 rfl ?_
  refine ev_i2l (pc := 61) dX4_loss_61 ?_
  refine ev_lmul (pc := 62) dX4_loss_62 ?_
  refine ev_nmJ (fun x4 => ?_)
  refine ev_lstore (pc := 63) (lv' := [(5, .long x4), (2, .int v2), (3, .int v3), (4, .int v4)]) dX4_loss_63 rfl rfl ?_
  refine ev_lload (pc := 65) 0 dX4_loss_65 rfl ?_
  refine ev_lconst (pc := 67) 0 rfl dX4_loss_67 ?_
  refine ev_lcmp (pc := 68) dX4_loss_68 ?_
  refine ev_if_ne (pc := 69) 76 (by decide) dX4_loss_69 ?_ ?_
  · refine ev_ldc2 (pc := 76) w_293 dX4_loss_76 ?_
    refine ev_iload_n (pc := 79) 1 dX4_loss_79 rfl ?_
    refine ev_i2l (pc := 80) dX4_loss_80 ?_
    refine ev_lmul (pc := 81) dX4_loss_81 ?_
    refine ev_lload (pc := 82) 0 dX4_loss_82 rfl ?_
    refine ev_ldiv (pc := 84) dX4_loss_84 ?_
    refine ev_l2i (pc := 85) dX4_loss_85 ?_
    exact ev_iret (pc := 86) rfl dX4_loss_86
  · refine ev_iconst (pc := 72) 0 k_iconst_0 dX4_loss_72 ?_
    refine ev_goto (pc := 73) 86 (by decide) dX4_loss_73 ?_
    exact ev_iret (pc := 86) rfl dX4_loss_86
def F_X4_loss_15 (N : Nat) : Nat → Int32 → Int32 → Int32 → Int32 → PI → PL → RES
  | 0, _, _, _, _, _, _ => none
  | n + 1, v2, v3, v4, v5, I, L => (if v3 ≤ v5 then F_X4_loss_57 N v2 v3 v4 I L else (if 24 ≤ v5 then F_X4_loss_57 N v2 v3 v4 I L else gd (inb v5 24) (gd (inb v5 24) (nmI (v4 + ((I 21 (Int32.toNatClampNeg v5)) * (I 21 (Int32.toNatClampNeg v5)))) (fun x5 => (F_X4_loss_15 N n) v2 v3 x5 (v5 + 1) I L)))))
set_option maxRecDepth 100000 in
theorem E_X4_loss_15 (N d : Nat) : ∀ (n : Nat) (v2 : Int32) (v3 : Int32) (v4 : Int32) (v5 : Int32) (I : PI) (L : PL), EvW M_X4_loss (d + 1) 15 [(0, .ref 4), (2, .int v2), (3, .int v3), (4, .int v4), (5, .int v5)] [] I L (F_X4_loss_15 N n v2 v3 v4 v5 I L) := by
  intro n
  induction n with
  | zero =>
    intro v2 v3 v4 v5 I L
    exact EvW.none
  | succ n hr_15 =>
    intro v2 v3 v4 v5 I L
    rw [F_X4_loss_15]
    refine ev_iload (pc := 15) 4 dX4_loss_15 rfl ?_
    refine ev_iload_n (pc := 17) 2 dX4_loss_17 rfl ?_
    refine ev_icmp_ge (pc := 18) 57 (by decide) dX4_loss_18 ?_ ?_
    · refine EvW.sub [1, 2, 3] rfl ?_
      exact E_X4_loss_57 N d v2 v3 v4 I L
    · refine ev_iload (pc := 21) 4 dX4_loss_21 rfl ?_
      refine ev_aload_n (pc := 23) 0 dX4_loss_23 rfl ?_
      refine gf_X4_21 (pc := 24) rfl dX4_loss_24 ?_
      refine ev_alenI (pc := 27) 24 (by decide +kernel) kK_21 dX4_loss_27 ?_
      refine ev_icmp_ge (pc := 28) 57 (by decide) dX4_loss_28 ?_ ?_
      · refine EvW.sub [1, 2, 3] rfl ?_
        exact E_X4_loss_57 N d v2 v3 v4 I L
      · refine ev_iload (pc := 31) 3 dX4_loss_31 rfl ?_
        refine ev_aload_n (pc := 33) 0 dX4_loss_33 rfl ?_
        refine gf_X4_21 (pc := 34) rfl dX4_loss_34 ?_
        refine ev_iload (pc := 37) 4 dX4_loss_37 rfl ?_
        refine ev_iald (pc := 39) kK_21 dX4_loss_39 ?_
        refine ev_aload_n (pc := 40) 0 dX4_loss_40 rfl ?_
        refine gf_X4_21 (pc := 41) rfl dX4_loss_41 ?_
        refine ev_iload (pc := 44) 4 dX4_loss_44 rfl ?_
        refine ev_iald (pc := 46) kK_21 dX4_loss_46 ?_
        refine ev_imul (pc := 47) dX4_loss_47 ?_
        refine ev_iadd (pc := 48) dX4_loss_48 ?_
        refine ev_nmI (fun x5 => ?_)
        refine ev_istore (pc := 49) (lv' := [(4, .int x5), (0, .ref 4), (2, .int v2), (3, .int v3), (5, .int v5)]) dX4_loss_49 rfl rfl ?_
        refine ev_iinc (pc := 51) (lv' := [(5, .int (v5 + 1)), (4, .int x5), (0, .ref 4), (2, .int v2), (3, .int v3)]) dX4_loss_51 4 rfl rfl 1 k_iconst_1 rfl ?_
        refine ev_goto (pc := 54) 15 (by decide) dX4_loss_54 ?_
        refine EvW.sub [2, 3, 4, 1, 0] rfl ?_
        exact hr_15 v2 v3 x5 (v5 + 1) I L
def f_X4_loss (N : Nat) (a1 : Int32) (a2 : Int32) (I : PI) (L : PL) : RES := bI (f_X3_lengthOf N a1 I L) (fun x1 I2 L3 => F_X4_loss_15 N N a2 x1 0 0 I2 L3)
set_option maxRecDepth 100000 in
theorem ok_X4_loss (N d : Nat) (a1 : Int32) (a2 : Int32) (I : PI) (L : PL) : MOk M_X4_loss (d + 1) [.ref 4, .int a1, .int a2] I L (f_X4_loss N a1 a2 I L) := by
  refine MOk.of (by decide +kernel) (Nat.le_of_ble_eq_true rfl) ?_
  show EvW _ _ 0 [(0, .ref 4), (1, .int a1), (2, .int a2)] [] I L _
  rw [f_X4_loss]
  refine ev_aload_n (pc := 0) 0 dX4_loss_0 rfl ?_
  refine gf_X4_9 (pc := 1) rfl dX4_loss_1 ?_
  refine ev_iload_n (pc := 4) 1 dX4_loss_4 rfl ?_
  refine ev_callVI (pc := 5) (d := d) (As := [.int a1]) (st := []) cv_X3_lengthOf rfl w_162 rfl (Nat.le_of_ble_eq_true rfl) (ok_X3_lengthOf N (d) a1 I L) dX4_loss_5 (fun x1 I2 L3 => ?_)
  refine ev_istore_n (pc := 8) (lv' := [(3, .int x1), (0, .ref 4), (1, .int a1), (2, .int a2)]) dX4_loss_8 rfl rfl rfl ?_
  refine ev_iconst (pc := 9) 0 k_iconst_0 dX4_loss_9 ?_
  refine ev_istore (pc := 10) (lv' := [(4, .int 0), (3, .int x1), (0, .ref 4), (1, .int a1), (2, .int a2)]) dX4_loss_10 rfl rfl ?_
  refine ev_iconst (pc := 12) 0 k_iconst_0 dX4_loss_12 ?_
  refine ev_istore (pc := 13) (lv' := [(5, .int 0), (4, .int 0), (3, .int x1), (0, .ref 4), (1, .int a1), (2, .int a2)]) dX4_loss_13 rfl rfl ?_
  refine EvW.sub [3, 5, 2, 1, 0] rfl ?_
  exact E_X4_loss_15 N d N a2 x1 0 0 I2 L3
def f_X11_lobes (N : Nat) (a1 : Int32) (a2 : Int32) (a3 : Int32) (I : PI) (L : PL) : RES := bI (f_X3_has N a1 I L) (fun x1 I2 L3 => (if x1 = 0 then some (some (.int (-1 : Int32)), I2, L3) else bI (f_X7_hasOrNone N a2 I2 L3) (fun x4 I5 L6 => (if x4 = 0 then some (some (.int (-1 : Int32)), I5, L6) else bV (f_X4_weigh N a1 a2 I5 L6) (fun I8 L9 => swT 0 [bI (f_X4_peak N a1 I8 L9) (fun x10 I11 L12 => some (some (.int x10), I11, L12)), bI (f_X4_side N a1 I8 L9) (fun x13 I14 L15 => some (some (.int x13), I14, L15)), bI (f_X4_sides N a1 I8 L9) (fun x16 I17 L18 => some (some (.int x16), I17, L18)), bI (f_X4_leak N a1 I8 L9) (fun x19 I20 L21 => some (some (.int x19), I20, L21)), bI (f_X4_peak N a1 I8 L9) (fun x22 I23 L24 => bI (f_X4_loss N a1 x22 I23 L24) (fun x25 I26 L27 => some (some (.int x25), I26, L27)))] (some (some (.int (-1 : Int32)), I8, L9)) a3)))))
set_option maxRecDepth 100000 in
theorem ok_X11_lobes (N d : Nat) (a1 : Int32) (a2 : Int32) (a3 : Int32) (I : PI) (L : PL) : MOk M_X11_lobes (d + 7) [.ref 11, .int a1, .int a2, .int a3] I L (f_X11_lobes N a1 a2 a3 I L) := by
  refine MOk.of (by decide +kernel) (Nat.le_of_ble_eq_true rfl) ?_
  show EvW _ _ 0 [(0, .ref 11), (1, .int a1), (2, .int a2), (3, .int a3)] [] I L _
  rw [f_X11_lobes]
  refine ev_aload_n (pc := 0) 0 dX11_lobes_0 rfl ?_
  refine gf_X11_23 (pc := 1) rfl dX11_lobes_1 ?_
  refine ev_iload_n (pc := 4) 1 dX11_lobes_4 rfl ?_
  refine ev_callVI (pc := 5) (d := d + 6) (As := [.int a1]) (st := []) cv_X3_has rfl w_266 rfl (Nat.le_of_ble_eq_true rfl) (ok_X3_has N (d + 6) a1 I L) dX11_lobes_5 (fun x1 I2 L3 => ?_)
  refine ev_if_eq (pc := 8) 22 (by decide) dX11_lobes_8 ?_ ?_
  · refine ev_iconst (pc := 22) (-1 : Int32) k_iconst_m1 dX11_lobes_22 ?_
    exact ev_iret (pc := 23) rfl dX11_lobes_23
  · refine ev_aload_n (pc := 11) 0 dX11_lobes_11 rfl ?_
    refine gf_X11_39 (pc := 12) rfl dX11_lobes_12 ?_
    refine ev_iload_n (pc := 15) 2 dX11_lobes_15 rfl ?_
    refine ev_callVI (pc := 16) (d := d + 6) (As := [.int a2]) (st := []) cv_X7_hasOrNone rfl w_271 rfl (Nat.le_of_ble_eq_true rfl) (ok_X7_hasOrNone N (d + 6) a2 I2 L3) dX11_lobes_16 (fun x4 I5 L6 => ?_)
    refine ev_if_ne (pc := 19) 24 (by decide) dX11_lobes_19 ?_ ?_
    · refine ev_aload_n (pc := 24) 0 dX11_lobes_24 rfl ?_
      refine gf_X11_48 (pc := 25) rfl dX11_lobes_25 ?_
      refine ev_iload_n (pc := 28) 1 dX11_lobes_28 rfl ?_
      refine ev_iload_n (pc := 29) 2 dX11_lobes_29 rfl ?_
      refine ev_callVV (pc := 30) (d := d + 6) (As := [.int a1, .int a2]) (st := []) cv_X4_weigh rfl w_275 rfl (Nat.le_of_ble_eq_true rfl) (ok_X4_weigh N (d) a1 a2 I5 L6) dX11_lobes_30 (fun I8 L9 => ?_)
      refine ev_iload_n (pc := 33) 3 dX11_lobes_33 rfl ?_
      refine ev_table (pc := 34) 121 (by decide) rfl dX11_lobes_34 ⟨⟨68, by decide, ?_⟩, ⟨77, by decide, ?_⟩, ⟨86, by decide, ?_⟩, ⟨95, by decide, ?_⟩, ⟨104, by decide, ?_⟩, trivial⟩ ?_
      · refine ev_aload_n (pc := 68) 0 dX11_lobes_68 rfl ?_
        refine gf_X11_48 (pc := 69) rfl dX11_lobes_69 ?_
        refine ev_iload_n (pc := 72) 1 dX11_lobes_72 rfl ?_
        refine ev_callVI (pc := 73) (d := d + 6) (As := [.int a1]) (st := []) cv_X4_peak rfl w_280 rfl (Nat.le_of_ble_eq_true rfl) (ok_X4_peak N (d + 3) a1 I8 L9) dX11_lobes_73 (fun x10 I11 L12 => ?_)
        exact ev_iret (pc := 76) rfl dX11_lobes_76
      · refine ev_aload_n (pc := 77) 0 dX11_lobes_77 rfl ?_
        refine gf_X11_48 (pc := 78) rfl dX11_lobes_78 ?_
        refine ev_iload_n (pc := 81) 1 dX11_lobes_81 rfl ?_
        refine ev_callVI (pc := 82) (d := d + 6) (As := [.int a1]) (st := []) cv_X4_side rfl w_284 rfl (Nat.le_of_ble_eq_true rfl) (ok_X4_side N (d + 3) a1 I8 L9) dX11_lobes_82 (fun x13 I14 L15 => ?_)
        exact ev_iret (pc := 85) rfl dX11_lobes_85
      · refine ev_aload_n (pc := 86) 0 dX11_lobes_86 rfl ?_
        refine gf_X11_48 (pc := 87) rfl dX11_lobes_87 ?_
        refine ev_iload_n (pc := 90) 1 dX11_lobes_90 rfl ?_
        refine ev_callVI (pc := 91) (d := d + 6) (As := [.int a1]) (st := []) cv_X4_sides rfl w_288 rfl (Nat.le_of_ble_eq_true rfl) (ok_X4_sides N (d + 3) a1 I8 L9) dX11_lobes_91 (fun x16 I17 L18 => ?_)
        exact ev_iret (pc := 94) rfl dX11_lobes_94
      · refine ev_aload_n (pc := 95) 0 dX11_lobes_95 rfl ?_
        refine gf_X11_48 (pc := 96) rfl dX11_lobes_96 ?_
        refine ev_iload_n (pc := 99) 1 dX11_lobes_99 rfl ?_
        refine ev_callVI (pc := 100) (d := d + 6) (As := [.int a1]) (st := []) cv_X4_leak rfl w_292 rfl (Nat.le_of_ble_eq_true rfl) (ok_X4_leak N (d + 2) a1 I8 L9) dX11_lobes_100 (fun x19 I20 L21 => ?_)
        exact ev_iret (pc := 103) rfl dX11_lobes_103
      · refine ev_aload_n (pc := 104) 0 dX11_lobes_104 rfl ?_
        refine gf_X11_48 (pc := 105) rfl dX11_lobes_105 ?_
        refine ev_iload_n (pc := 108) 1 dX11_lobes_108 rfl ?_
        refine ev_aload_n (pc := 109) 0 dX11_lobes_109 rfl ?_
        refine gf_X11_48 (pc := 110) rfl dX11_lobes_110 ?_
        refine ev_iload_n (pc := 113) 1 dX11_lobes_113 rfl ?_
        refine ev_callVI (pc := 114) (d := d + 6) (As := [.int a1]) (st := [.int a1, .ref 4]) cv_X4_peak rfl w_280 rfl (Nat.le_of_ble_eq_true rfl) (ok_X4_peak N (d + 3) a1 I8 L9) dX11_lobes_114 (fun x22 I23 L24 => ?_)
        refine ev_callVI (pc := 117) (d := d + 6) (As := [.int a1, .int x22]) (st := []) cv_X4_loss rfl w_297 rfl (Nat.le_of_ble_eq_true rfl) (ok_X4_loss N (d + 5) a1 x22 I23 L24) dX11_lobes_117 (fun x25 I26 L27 => ?_)
        exact ev_iret (pc := 120) rfl dX11_lobes_120
      · refine ev_iconst (pc := 121) (-1 : Int32) k_iconst_m1 dX11_lobes_121 ?_
        exact ev_iret (pc := 122) rfl dX11_lobes_122
    · refine ev_iconst (pc := 22) (-1 : Int32) k_iconst_m1 dX11_lobes_22 ?_
      exact ev_iret (pc := 23) rfl dX11_lobes_23
def f_X4_hindrance (N : Nat) (a1 : Int32) (a2 : Int32) (I : PI) (L : PL) : RES := bI (f_X3_has N a1 I L) (fun x1 I2 L3 => (if x1 = 0 then some (some (.int 0), I2, L3) else bI (f_X3_has N a2 I2 L3) (fun x4 I5 L6 => (if x4 = 0 then some (some (.int 0), I5, L6) else gd (inb ((a1 * 8) + a2) 64) (some (some (.int (I5 22 (Int32.toNatClampNeg ((a1 * 8) + a2)))), I5, L6))))))
set_option maxRecDepth 100000 in
theorem ok_X4_hindrance (N d : Nat) (a1 : Int32) (a2 : Int32) (I : PI) (L : PL) : MOk M_X4_hindrance (d + 1) [.ref 4, .int a1, .int a2] I L (f_X4_hindrance N a1 a2 I L) := by
  refine MOk.of (by decide +kernel) (Nat.le_of_ble_eq_true rfl) ?_
  show EvW _ _ 0 [(0, .ref 4), (1, .int a1), (2, .int a2)] [] I L _
  rw [f_X4_hindrance]
  refine ev_aload_n (pc := 0) 0 dX4_hindrance_0 rfl ?_
  refine gf_X4_9 (pc := 1) rfl dX4_hindrance_1 ?_
  refine ev_iload_n (pc := 4) 1 dX4_hindrance_4 rfl ?_
  refine ev_callVI (pc := 5) (d := d) (As := [.int a1]) (st := []) cv_X3_has rfl w_158 rfl (Nat.le_of_ble_eq_true rfl) (ok_X3_has N (d) a1 I L) dX4_hindrance_5 (fun x1 I2 L3 => ?_)
  refine ev_if_eq (pc := 8) 36 (by decide) dX4_hindrance_8 ?_ ?_
  · refine ev_iconst (pc := 36) 0 k_iconst_0 dX4_hindrance_36 ?_
    exact ev_iret (pc := 37) rfl dX4_hindrance_37
  · refine ev_aload_n (pc := 11) 0 dX4_hindrance_11 rfl ?_
    refine gf_X4_9 (pc := 12) rfl dX4_hindrance_12 ?_
    refine ev_iload_n (pc := 15) 2 dX4_hindrance_15 rfl ?_
    refine ev_callVI (pc := 16) (d := d) (As := [.int a2]) (st := []) cv_X3_has rfl w_158 rfl (Nat.le_of_ble_eq_true rfl) (ok_X3_has N (d) a2 I2 L3) dX4_hindrance_16 (fun x4 I5 L6 => ?_)
    refine ev_if_eq (pc := 19) 36 (by decide) dX4_hindrance_19 ?_ ?_
    · refine ev_iconst (pc := 36) 0 k_iconst_0 dX4_hindrance_36 ?_
      exact ev_iret (pc := 37) rfl dX4_hindrance_37
    · refine ev_aload_n (pc := 22) 0 dX4_hindrance_22 rfl ?_
      refine gf_X4_25 (pc := 23) rfl dX4_hindrance_23 ?_
      refine ev_iload_n (pc := 26) 1 dX4_hindrance_26 rfl ?_
      refine ev_bipush (pc := 27) 8 k_bipush_8 dX4_hindrance_27 ?_
      refine ev_imul (pc := 29) dX4_hindrance_29 ?_
      refine ev_iload_n (pc := 30) 2 dX4_hindrance_30 rfl ?_
      refine ev_iadd (pc := 31) dX4_hindrance_31 ?_
      refine ev_iald (pc := 32) kK_22 dX4_hindrance_32 ?_
      refine ev_goto (pc := 33) 37 (by decide) dX4_hindrance_33 ?_
      exact ev_iret (pc := 37) rfl dX4_hindrance_37
def f_X11_hinder (N : Nat) (a1 : Int32) (a2 : Int32) (I : PI) (L : PL) : RES := bI (f_X3_has N a1 I L) (fun x1 I2 L3 => (if x1 = 0 then some (some (.int (-1 : Int32)), I2, L3) else bI (f_X3_has N a2 I2 L3) (fun x4 I5 L6 => (if x4 = 0 then some (some (.int (-1 : Int32)), I5, L6) else bI (f_X4_hindrance N a1 a2 I5 L6) (fun x7 I8 L9 => some (some (.int x7), I8, L9))))))
set_option maxRecDepth 100000 in
theorem ok_X11_hinder (N d : Nat) (a1 : Int32) (a2 : Int32) (I : PI) (L : PL) : MOk M_X11_hinder (d + 2) [.ref 11, .int a1, .int a2] I L (f_X11_hinder N a1 a2 I L) := by
  refine MOk.of (by decide +kernel) (Nat.le_of_ble_eq_true rfl) ?_
  show EvW _ _ 0 [(0, .ref 11), (1, .int a1), (2, .int a2)] [] I L _
  rw [f_X11_hinder]
  refine ev_aload_n (pc := 0) 0 dX11_hinder_0 rfl ?_
  refine gf_X11_23 (pc := 1) rfl dX11_hinder_1 ?_
  refine ev_iload_n (pc := 4) 1 dX11_hinder_4 rfl ?_
  refine ev_callVI (pc := 5) (d := d + 1) (As := [.int a1]) (st := []) cv_X3_has rfl w_266 rfl (Nat.le_of_ble_eq_true rfl) (ok_X3_has N (d + 1) a1 I L) dX11_hinder_5 (fun x1 I2 L3 => ?_)
  refine ev_if_eq (pc := 8) 34 (by decide) dX11_hinder_8 ?_ ?_
  · refine ev_iconst (pc := 34) (-1 : Int32) k_iconst_m1 dX11_hinder_34 ?_
    exact ev_iret (pc := 35) rfl dX11_hinder_35
  · refine ev_aload_n (pc := 11) 0 dX11_hinder_11 rfl ?_
    refine gf_X11_23 (pc := 12) rfl dX11_hinder_12 ?_
    refine ev_iload_n (pc := 15) 2 dX11_hinder_15 rfl ?_
    refine ev_callVI (pc := 16) (d := d + 1) (As := [.int a2]) (st := []) cv_X3_has rfl w_266 rfl (Nat.le_of_ble_eq_true rfl) (ok_X3_has N (d + 1) a2 I2 L3) dX11_hinder_16 (fun x4 I5 L6 => ?_)
    refine ev_if_eq (pc := 19) 34 (by decide) dX11_hinder_19 ?_ ?_
    · refine ev_iconst (pc := 34) (-1 : Int32) k_iconst_m1 dX11_hinder_34 ?_
      exact ev_iret (pc := 35) rfl dX11_hinder_35
    · refine ev_aload_n (pc := 22) 0 dX11_hinder_22 rfl ?_
      refine gf_X11_48 (pc := 23) rfl dX11_hinder_23 ?_
      refine ev_iload_n (pc := 26) 1 dX11_hinder_26 rfl ?_
      refine ev_iload_n (pc := 27) 2 dX11_hinder_27 rfl ?_
      refine ev_callVI (pc := 28) (d := d + 1) (As := [.int a1, .int a2]) (st := []) cv_X4_hindrance rfl w_301 rfl (Nat.le_of_ble_eq_true rfl) (ok_X4_hindrance N (d) a1 a2 I5 L6) dX11_hinder_28 (fun x7 I8 L9 => ?_)
      refine ev_goto (pc := 31) 35 (by decide) dX11_hinder_31 ?_
      exact ev_iret (pc := 35) rfl dX11_hinder_35
def f_J6_bitCount_0f7a4 (N : Nat) (a1 : Int32) (I : PI) (L : PL) : RES := nmI (a1 - ((jushr a1 (1 : Int32)) &&& 1431655765)) (fun x1 => nmI ((x1 &&& 858993459) + ((jushr x1 (2 : Int32)) &&& 858993459)) (fun x2 => nmI ((x2 + (jushr x2 (4 : Int32))) &&& 252645135) (fun x3 => nmI (x3 + (jushr x3 (8 : Int32))) (fun x4 => nmI (x4 + (jushr x4 (16 : Int32))) (fun x5 => some (some (.int (x5 &&& 63)), I, L))))))
set_option maxRecDepth 100000 in
theorem ok_J6_bitCount_0f7a4 (N d : Nat) (a1 : Int32) (I : PI) (L : PL) : MOk M_J6_bitCount_0f7a4 (d) [.int a1] I L (f_J6_bitCount_0f7a4 N a1 I L) := by
  refine MOk.of (by decide +kernel) (Nat.le_of_ble_eq_true rfl) ?_
  show EvW _ _ 0 [(0, .int a1)] [] I L _
  rw [f_J6_bitCount_0f7a4]
  refine ev_iload_n (pc := 0) 0 dJ6_bitCount_0f7a4_0 rfl ?_
  refine ev_iload_n (pc := 1) 0 dJ6_bitCount_0f7a4_1 rfl ?_
  refine ev_iconst (pc := 2) 1 k_iconst_1 dJ6_bitCount_0f7a4_2 ?_
  refine ev_iushr (pc := 3) dJ6_bitCount_0f7a4_3 ?_
  refine ev_ldcw (pc := 4) w_302 dJ6_bitCount_0f7a4_4 ?_
  refine ev_iand (pc := 7) dJ6_bitCount_0f7a4_7 ?_
  refine ev_isub (pc := 8) dJ6_bitCount_0f7a4_8 ?_
  refine ev_nmI (fun x1 => ?_)
  refine ev_istore_n (pc := 9) (lv' := [(0, .int x1)]) dJ6_bitCount_0f7a4_9 rfl rfl rfl ?_
  refine ev_iload_n (pc := 10) 0 dJ6_bitCount_0f7a4_10 rfl ?_
  refine ev_ldcw (pc := 11) w_303 dJ6_bitCount_0f7a4_11 ?_
  refine ev_iand (pc := 14) dJ6_bitCount_0f7a4_14 ?_
  refine ev_iload_n (pc := 15) 0 dJ6_bitCount_0f7a4_15 rfl ?_
  refine ev_iconst (pc := 16) 2 k_iconst_2 dJ6_bitCount_0f7a4_16 ?_
  refine ev_iushr (pc := 17) dJ6_bitCount_0f7a4_17 ?_
  refine ev_ldcw (pc := 18) w_303 dJ6_bitCount_0f7a4_18 ?_
  refine ev_iand (pc := 21) dJ6_bitCount_0f7a4_21 ?_
  refine ev_iadd (pc := 22) dJ6_bitCount_0f7a4_22 ?_
  refine ev_nmI (fun x2 => ?_)
  refine ev_istore_n (pc := 23) (lv' := [(0, .int x2)]) dJ6_bitCount_0f7a4_23 rfl rfl rfl ?_
  refine ev_iload_n (pc := 24) 0 dJ6_bitCount_0f7a4_24 rfl ?_
  refine ev_iload_n (pc := 25) 0 dJ6_bitCount_0f7a4_25 rfl ?_
  refine ev_iconst (pc := 26) 4 k_iconst_4 dJ6_bitCount_0f7a4_26 ?_
  refine ev_iushr (pc := 27) dJ6_bitCount_0f7a4_27 ?_
  refine ev_iadd (pc := 28) dJ6_bitCount_0f7a4_28 ?_
  refine ev_ldcw (pc := 29) w_304 dJ6_bitCount_0f7a4_29 ?_
  refine ev_iand (pc := 32) dJ6_bitCount_0f7a4_32 ?_
  refine ev_nmI (fun x3 => ?_)
  refine ev_istore_n (pc := 33) (lv' := [(0, .int x3)]) dJ6_bitCount_0f7a4_33 rfl rfl rfl ?_
  refine ev_iload_n (pc := 34) 0 dJ6_bitCount_0f7a4_34 rfl ?_
  refine ev_iload_n (pc := 35) 0 dJ6_bitCount_0f7a4_35 rfl ?_
  refine ev_bipush (pc := 36) 8 k_bipush_8 dJ6_bitCount_0f7a4_36 ?_
  refine ev_iushr (pc := 38) dJ6_bitCount_0f7a4_38 ?_
  refine ev_iadd (pc := 39) dJ6_bitCount_0f7a4_39 ?_
  refine ev_nmI (fun x4 => ?_)
  refine ev_istore_n (pc := 40) (lv' := [(0, .int x4)]) dJ6_bitCount_0f7a4_40 rfl rfl rfl ?_
  refine ev_iload_n (pc := 41) 0 dJ6_bitCount_0f7a4_41 rfl ?_
  refine ev_iload_n (pc := 42) 0 dJ6_bitCount_0f7a4_42 rfl ?_
  refine ev_bipush (pc := 43) 16 k_bipush_16 dJ6_bitCount_0f7a4_43 ?_
  refine ev_iushr (pc := 45) dJ6_bitCount_0f7a4_45 ?_
  refine ev_iadd (pc := 46) dJ6_bitCount_0f7a4_46 ?_
  refine ev_nmI (fun x5 => ?_)
  refine ev_istore_n (pc := 47) (lv' := [(0, .int x5)]) dJ6_bitCount_0f7a4_47 rfl rfl rfl ?_
  refine ev_iload_n (pc := 48) 0 dJ6_bitCount_0f7a4_48 rfl ?_
  refine ev_bipush (pc := 49) 63 k_bipush_63 dJ6_bitCount_0f7a4_49 ?_
  refine ev_iand (pc := 51) dJ6_bitCount_0f7a4_51 ?_
  exact ev_iret (pc := 52) rfl dJ6_bitCount_0f7a4_52
def F_X4_areFriends_41 (N : Nat) (r_2 : Int32 → Int32 → Int32 → PI → PL → RES) (r_16 : Int32 → Int32 → Int32 → Int32 → PI → PL → RES) (v1 : Int32) (v2 : Int32) (v3 : Int32) (v4 : Int32) (s0 : Int32) (I : PI) (L : PL) : RES := (if s0 = 0 then r_16 v1 v2 v3 (v4 + 1) I L else bI (f_X4_hindrance N v3 v4 I L) (fun x1 I2 L3 => (if x1 ≤ v2 then r_16 v1 v2 v3 (v4 + 1) I2 L3 else gd (decide (0 &&& 1 = 0)) (some (some (.int 0), I2, L3)))))
set_option maxRecDepth 100000 in
theorem E_X4_areFriends_41 (N d : Nat) (r_2 : Int32 → Int32 → Int32 → PI → PL → RES) (r_16 : Int32 → Int32 → Int32 → Int32 → PI → PL → RES) (hr_2 : ∀ (v1 : Int32) (v2 : Int32) (v3 : Int32) (I : PI) (L : PL), EvW M_X4_areFriends (d + 2) 2 [(0, .ref 4), (1, .int v1), (2, .int v2), (3, .int v3)] [] I L (r_2 v1 v2 v3 I L)) (hr_16 : ∀ (v1 : Int32) (v2 : Int32) (v3 : Int32) (v4 : Int32) (I : PI) (L : PL), EvW M_X4_areFriends (d + 2) 16 [(0, .ref 4), (1, .int v1), (2, .int v2), (3, .int v3), (4, .int v4)] [] I L (r_16 v1 v2 v3 v4 I L)) (v1 : Int32) (v2 : Int32) (v3 : Int32) (v4 : Int32) (s0 : Int32) (I : PI) (L : PL) : EvW M_X4_areFriends (d + 2) 41 [(0, .ref 4), (1, .int v1), (2, .int v2), (3, .int v3), (4, .int v4)] [.int s0] I L (F_X4_areFriends_41 N r_2 r_16 v1 v2 v3 v4 s0 I L) := by
  rw [F_X4_areFriends_41]
  refine ev_istore (pc := 41) (lv' := [(5, .int s0), (0, .ref 4), (1, .int v1), (2, .int v2), (3, .int v3), (4, .int v4)]) dX4_areFriends_41 rfl rfl ?_
  refine ev_iload (pc := 43) 0 dX4_areFriends_43 rfl ?_
  refine ev_if_eq (pc := 45) 61 (by decide) dX4_areFriends_45 ?_ ?_
  · refine ev_iinc (pc := 61) (lv' := [(4, .int (v4 + 1)), (5, .int s0), (0, .ref 4), (1, .int v1), (2, .int v2), (3, .int v3)]) dX4_areFriends_61 5 rfl rfl 1 k_iconst_1 rfl ?_
    refine ev_goto (pc := 64) 16 (by decide) dX4_areFriends_64 ?_
    refine EvW.sub [2, 3, 4, 5, 0] rfl ?_
    exact hr_16 v1 v2 v3 (v4 + 1) I L
  · refine ev_aload_n (pc := 48) 1 dX4_areFriends_48 rfl ?_
    refine ev_iload_n (pc := 49) 4 dX4_areFriends_49 rfl ?_
    refine ev_iload (pc := 50) 5 dX4_areFriends_50 rfl ?_
    refine ev_callVI (pc := 52) (d := d + 1) (As := [.int v3, .int v4]) (st := []) cv_X4_hindrance rfl w_309 rfl (Nat.le_of_ble_eq_true rfl) (ok_X4_hindrance N (d) v3 v4 I L) dX4_areFriends_52 (fun x1 I2 L3 => ?_)
    refine ev_iload_n (pc := 55) 3 dX4_areFriends_55 rfl ?_
    refine ev_icmp_le (pc := 56) 61 (by decide) dX4_areFriends_56 ?_ ?_
    · refine ev_iinc (pc := 61) (lv' := [(4, .int (v4 + 1)), (5, .int s0), (0, .ref 4), (1, .int v1), (2, .int v2), (3, .int v3)]) dX4_areFriends_61 5 rfl rfl 1 k_iconst_1 rfl ?_
      refine ev_goto (pc := 64) 16 (by decide) dX4_areFriends_64 ?_
      refine EvW.sub [2, 3, 4, 5, 0] rfl ?_
      exact hr_16 v1 v2 v3 (v4 + 1) I2 L3
    · refine ev_iconst (pc := 59) 0 k_iconst_0 dX4_areFriends_59 ?_
      exact ev_zret (pc := 60) rfl dX4_areFriends_60
def F_X4_areFriends_16 (N : Nat) (r_2 : Int32 → Int32 → Int32 → PI → PL → RES) : Nat → Int32 → Int32 → Int32 → Int32 → PI → PL → RES
  | 0, _, _, _, _, _, _ => none
  | n + 1, v1, v2, v3, v4, I, L => (if v3 ≤ v4 then r_2 v1 v2 (v3 + 1) I L else (if (((v1 >>> (v3 &&& 31)) &&& (v1 >>> (v4 &&& 31))) &&& 1) = 1 then F_X4_areFriends_41 N r_2 (F_X4_areFriends_16 N r_2 n) v1 v2 v3 v4 1 I L else F_X4_areFriends_41 N r_2 (F_X4_areFriends_16 N r_2 n) v1 v2 v3 v4 0 I L))
set_option maxRecDepth 100000 in
theorem E_X4_areFriends_16 (N d : Nat) (r_2 : Int32 → Int32 → Int32 → PI → PL → RES) (hr_2 : ∀ (v1 : Int32) (v2 : Int32) (v3 : Int32) (I : PI) (L : PL), EvW M_X4_areFriends (d + 2) 2 [(0, .ref 4), (1, .int v1), (2, .int v2), (3, .int v3)] [] I L (r_2 v1 v2 v3 I L)) : ∀ (n : Nat) (v1 : Int32) (v2 : Int32) (v3 : Int32) (v4 : Int32) (I : PI) (L : PL), EvW M_X4_areFriends (d + 2) 16 [(0, .ref 4), (1, .int v1), (2, .int v2), (3, .int v3), (4, .int v4)] [] I L (F_X4_areFriends_16 N r_2 n v1 v2 v3 v4 I L) := by
  intro n
  induction n with
  | zero =>
    intro v1 v2 v3 v4 I L
    exact EvW.none
  | succ n hr_16 =>
    intro v1 v2 v3 v4 I L
    rw [F_X4_areFriends_16]
    refine ev_iload (pc := 16) 4 dX4_areFriends_16 rfl ?_
    refine ev_iload_n (pc := 18) 3 dX4_areFriends_18 rfl ?_
    refine ev_icmp_ge (pc := 19) 67 (by decide) dX4_areFriends_19 ?_ ?_
    · refine ev_iinc (pc := 67) (lv' := [(3, .int (v3 + 1)), (0, .ref 4), (1, .int v1), (2, .int v2), (4, .int v4)]) dX4_areFriends_67 3 rfl rfl 1 k_iconst_1 rfl ?_
      refine ev_goto (pc := 70) 2 (by decide) dX4_areFriends_70 ?_
      refine EvW.sub [1, 2, 3, 0] rfl ?_
      exact hr_2 v1 v2 (v3 + 1) I L
    · refine ev_iload_n (pc := 22) 1 dX4_areFriends_22 rfl ?_
      refine ev_iload_n (pc := 23) 3 dX4_areFriends_23 rfl ?_
      refine ev_ishr (pc := 24) dX4_areFriends_24 ?_
      refine ev_iload_n (pc := 25) 1 dX4_areFriends_25 rfl ?_
      refine ev_iload (pc := 26) 4 dX4_areFriends_26 rfl ?_
      refine ev_ishr (pc := 28) dX4_areFriends_28 ?_
      refine ev_iand (pc := 29) dX4_areFriends_29 ?_
      refine ev_iconst (pc := 30) 1 k_iconst_1 dX4_areFriends_30 ?_
      refine ev_iand (pc := 31) dX4_areFriends_31 ?_
      refine ev_iconst (pc := 32) 1 k_iconst_1 dX4_areFriends_32 ?_
      refine ev_icmp_ne (pc := 33) 40 (by decide) dX4_areFriends_33 ?_ ?_
      · refine ev_iconst (pc := 40) 0 k_iconst_0 dX4_areFriends_40 ?_
        exact E_X4_areFriends_41 N d r_2 (F_X4_areFriends_16 N r_2 n) hr_2 hr_16 v1 v2 v3 v4 0 I L
      · refine ev_iconst (pc := 36) 1 k_iconst_1 dX4_areFriends_36 ?_
        refine ev_goto (pc := 37) 41 (by decide) dX4_areFriends_37 ?_
        exact E_X4_areFriends_41 N d r_2 (F_X4_areFriends_16 N r_2 n) hr_2 hr_16 v1 v2 v3 v4 1 I L
def F_X4_areFriends_2 (N : Nat) : Nat → Int32 → Int32 → Int32 → PI → PL → RES
  | 0, _, _, _, _, _ => none
  | n + 1, v1, v2, v3, I, L => (if (I 3 2) ≤ v3 then gd (decide (1 &&& 1 = 1)) (some (some (.int 1), I, L)) else F_X4_areFriends_16 N (F_X4_areFriends_2 N n) N v1 v2 v3 0 I L)
set_option maxRecDepth 100000 in
theorem E_X4_areFriends_2 (N d : Nat) : ∀ (n : Nat) (v1 : Int32) (v2 : Int32) (v3 : Int32) (I : PI) (L : PL), EvW M_X4_areFriends (d + 2) 2 [(0, .ref 4), (1, .int v1), (2, .int v2), (3, .int v3)] [] I L (F_X4_areFriends_2 N n v1 v2 v3 I L) := by
  intro n
  induction n with
  | zero =>
    intro v1 v2 v3 I L
    exact EvW.none
  | succ n hr_2 =>
    intro v1 v2 v3 I L
    rw [F_X4_areFriends_2]
    refine ev_iload_n (pc := 2) 3 dX4_areFriends_2 rfl ?_
    refine ev_aload_n (pc := 3) 0 dX4_areFriends_3 rfl ?_
    refine gf_X4_9 (pc := 4) rfl dX4_areFriends_4 ?_
    refine gf_X4_85 (pc := 7) rfl dX4_areFriends_7 ?_
    refine ev_icmp_ge (pc := 10) 73 (by decide) dX4_areFriends_10 ?_ ?_
    · refine ev_iconst (pc := 73) 1 k_iconst_1 dX4_areFriends_73 ?_
      exact ev_zret (pc := 74) rfl dX4_areFriends_74
    · refine ev_iconst (pc := 13) 0 k_iconst_0 dX4_areFriends_13 ?_
      refine ev_istore (pc := 14) (lv' := [(4, .int 0), (0, .ref 4), (1, .int v1), (2, .int v2), (3, .int v3)]) dX4_areFriends_14 rfl rfl ?_
      refine EvW.sub [1, 2, 3, 4, 0] rfl ?_
      exact E_X4_areFriends_16 N d (F_X4_areFriends_2 N n) hr_2 N v1 v2 v3 0 I L
def f_X4_areFriends (N : Nat) (a1 : Int32) (a2 : Int32) (I : PI) (L : PL) : RES := F_X4_areFriends_2 N N a1 a2 0 I L
set_option maxRecDepth 100000 in
theorem ok_X4_areFriends (N d : Nat) (a1 : Int32) (a2 : Int32) (I : PI) (L : PL) : MOk M_X4_areFriends (d + 2) [.ref 4, .int a1, .int a2] I L (f_X4_areFriends N a1 a2 I L) := by
  refine MOk.of (by decide +kernel) (Nat.le_of_ble_eq_true rfl) ?_
  show EvW _ _ 0 [(0, .ref 4), (1, .int a1), (2, .int a2)] [] I L _
  rw [f_X4_areFriends]
  refine ev_iconst (pc := 0) 0 k_iconst_0 dX4_areFriends_0 ?_
  refine ev_istore_n (pc := 1) (lv' := [(3, .int 0), (0, .ref 4), (1, .int a1), (2, .int a2)]) dX4_areFriends_1 rfl rfl rfl ?_
  refine EvW.sub [1, 2, 3, 0] rfl ?_
  exact E_X4_areFriends_2 N d N a1 a2 0 I L
def F_X4_mostFriends_4 (N : Nat) : Nat → Int32 → Int32 → Int32 → PI → PL → RES
  | 0, _, _, _, _, _ => none
  | n + 1, v1, v2, v3, I, L => (if ((1 : Int32) <<< ((I 3 2) &&& 31)) ≤ v3 then some (some (.int v2), I, L) else bI (f_J6_bitCount_0f7a4 N v3 I L) (fun x1 I2 L3 => bI (f_J6_bitCount_0f7a4 N v2 I2 L3) (fun x4 I5 L6 => (if x1 ≤ x4 then (F_X4_mostFriends_4 N n) v1 v2 (v3 + 1) I5 L6 else bI (f_X4_areFriends N v3 v1 I5 L6) (fun x7 I8 L9 => (if x7 = 0 then (F_X4_mostFriends_4 N n) v1 v2 (v3 + 1) I8 L9 else (F_X4_mostFriends_4 N n) v1 v3 (v3 + 1) I8 L9))))))
set_option maxRecDepth 100000 in
theorem E_X4_mostFriends_4 (N d : Nat) : ∀ (n : Nat) (v1 : Int32) (v2 : Int32) (v3 : Int32) (I : PI) (L : PL), EvW M_X4_mostFriends (d + 3) 4 [(0, .ref 4), (1, .int v1), (2, .int v2), (3, .int v3)] [] I L (F_X4_mostFriends_4 N n v1 v2 v3 I L) := by
  intro n
  induction n with
  | zero =>
    intro v1 v2 v3 I L
    exact EvW.none
  | succ n hr_4 =>
    intro v1 v2 v3 I L
    rw [F_X4_mostFriends_4]
    refine ev_iload_n (pc := 4) 3 dX4_mostFriends_4 rfl ?_
    refine ev_iconst (pc := 5) 1 k_iconst_1 dX4_mostFriends_5 ?_
    refine ev_aload_n (pc := 6) 0 dX4_mostFriends_6 rfl ?_
    refine gf_X4_9 (pc := 7) rfl dX4_mostFriends_7 ?_
    refine gf_X4_85 (pc := 10) rfl dX4_mostFriends_10 ?_
    refine ev_ishl (pc := 13) dX4_mostFriends_13 ?_
    refine ev_icmp_ge (pc := 14) 45 (by decide) dX4_mostFriends_14 ?_ ?_
    · refine ev_iload_n (pc := 45) 2 dX4_mostFriends_45 rfl ?_
      exact ev_iret (pc := 46) rfl dX4_mostFriends_46
    · refine ev_iload_n (pc := 17) 3 dX4_mostFriends_17 rfl ?_
      refine ev_callSI (pc := 18) (d := d + 2) (As := [.int v3]) (st := []) cv_J6_bitCount_0f7a4 rfl w_308 rfl (Nat.le_of_ble_eq_true rfl) (ok_J6_bitCount_0f7a4 N (d + 2) v3 I L) dX4_mostFriends_18 (fun x1 I2 L3 => ?_)
      refine ev_iload_n (pc := 21) 2 dX4_mostFriends_21 rfl ?_
      refine ev_callSI (pc := 22) (d := d + 2) (As := [.int v2]) (st := [.int x1]) cv_J6_bitCount_0f7a4 rfl w_308 rfl (Nat.le_of_ble_eq_true rfl) (ok_J6_bitCount_0f7a4 N (d + 2) v2 I2 L3) dX4_mostFriends_22 (fun x4 I5 L6 => ?_)
      refine ev_icmp_le (pc := 25) 39 (by decide) dX4_mostFriends_25 ?_ ?_
      · refine ev_iinc (pc := 39) (lv' := [(3, .int (v3 + 1)), (0, .ref 4), (1, .int v1), (2, .int v2)]) dX4_mostFriends_39 3 rfl rfl 1 k_iconst_1 rfl ?_
        refine ev_goto (pc := 42) 4 (by decide) dX4_mostFriends_42 ?_
        refine EvW.sub [1, 2, 3, 0] rfl ?_
        exact hr_4 v1 v2 (v3 + 1) I5 L6
      · refine ev_aload_n (pc := 28) 0 dX4_mostFriends_28 rfl ?_
        refine ev_iload_n (pc := 29) 3 dX4_mostFriends_29 rfl ?_
        refine ev_iload_n (pc := 30) 1 dX4_mostFriends_30 rfl ?_
        refine ev_callVI (pc := 31) (d := d + 2) (As := [.int v3, .int v1]) (st := []) cv_X4_areFriends rfl w_313 rfl (Nat.le_of_ble_eq_true rfl) (ok_X4_areFriends N (d) v3 v1 I5 L6) dX4_mostFriends_31 (fun x7 I8 L9 => ?_)
        refine ev_if_eq (pc := 34) 39 (by decide) dX4_mostFriends_34 ?_ ?_
        · refine ev_iinc (pc := 39) (lv' := [(3, .int (v3 + 1)), (0, .ref 4), (1, .int v1), (2, .int v2)]) dX4_mostFriends_39 3 rfl rfl 1 k_iconst_1 rfl ?_
          refine ev_goto (pc := 42) 4 (by decide) dX4_mostFriends_42 ?_
          refine EvW.sub [1, 2, 3, 0] rfl ?_
          exact hr_4 v1 v2 (v3 + 1) I8 L9
        · refine ev_iload_n (pc := 37) 3 dX4_mostFriends_37 rfl ?_
          refine ev_istore_n (pc := 38) (lv' := [(2, .int v3), (0, .ref 4), (1, .int v1), (3, .int v3)]) dX4_mostFriends_38 rfl rfl rfl ?_
          refine ev_iinc (pc := 39) (lv' := [(3, .int (v3 + 1)), (2, .int v3), (0, .ref 4), (1, .int v1)]) dX4_mostFriends_39 3 rfl rfl 1 k_iconst_1 rfl ?_
          refine ev_goto (pc := 42) 4 (by decide) dX4_mostFriends_42 ?_
          refine EvW.sub [2, 3, 1, 0] rfl ?_
          exact hr_4 v1 v3 (v3 + 1) I8 L9
def f_X4_mostFriends (N : Nat) (a1 : Int32) (I : PI) (L : PL) : RES := F_X4_mostFriends_4 N N a1 0 1 I L
set_option maxRecDepth 100000 in
theorem ok_X4_mostFriends (N d : Nat) (a1 : Int32) (I : PI) (L : PL) : MOk M_X4_mostFriends (d + 3) [.ref 4, .int a1] I L (f_X4_mostFriends N a1 I L) := by
  refine MOk.of (by decide +kernel) (Nat.le_of_ble_eq_true rfl) ?_
  show EvW _ _ 0 [(0, .ref 4), (1, .int a1)] [] I L _
  rw [f_X4_mostFriends]
  refine ev_iconst (pc := 0) 0 k_iconst_0 dX4_mostFriends_0 ?_
  refine ev_istore_n (pc := 1) (lv' := [(2, .int 0), (0, .ref 4), (1, .int a1)]) dX4_mostFriends_1 rfl rfl rfl ?_
  refine ev_iconst (pc := 2) 1 k_iconst_1 dX4_mostFriends_2 ?_
  refine ev_istore_n (pc := 3) (lv' := [(3, .int 1), (2, .int 0), (0, .ref 4), (1, .int a1)]) dX4_mostFriends_3 rfl rfl rfl ?_
  refine EvW.sub [2, 3, 1, 0] rfl ?_
  exact E_X4_mostFriends_4 N d N a1 0 1 I L
def F_X11_friends_14 (N : Nat) (I : PI) (L : PL) : RES := some (some (.int (-1 : Int32)), I, L)
set_option maxRecDepth 100000 in
theorem E_X11_friends_14 (N d : Nat) (I : PI) (L : PL) : EvW M_X11_friends (d + 4) 14 [] [] I L (F_X11_friends_14 N I L) := by
  rw [F_X11_friends_14]
  refine ev_iconst (pc := 14) (-1 : Int32) k_iconst_m1 dX11_friends_14 ?_
  refine ev_goto (pc := 15) 26 (by decide) dX11_friends_15 ?_
  exact ev_iret (pc := 26) rfl dX11_friends_26
def f_X11_friends (N : Nat) (a1 : Int32) (I : PI) (L : PL) : RES := (if (I 3 2) = 0 then F_X11_friends_14 N I L else (if 0 ≤ a1 then bI (f_X4_mostFriends N a1 I L) (fun x1 I2 L3 => some (some (.int x1), I2, L3)) else F_X11_friends_14 N I L))
set_option maxRecDepth 100000 in
theorem ok_X11_friends (N d : Nat) (a1 : Int32) (I : PI) (L : PL) : MOk M_X11_friends (d + 4) [.ref 11, .int a1] I L (f_X11_friends N a1 I L) := by
  refine MOk.of (by decide +kernel) (Nat.le_of_ble_eq_true rfl) ?_
  show EvW _ _ 0 [(0, .ref 11), (1, .int a1)] [] I L _
  rw [f_X11_friends]
  refine ev_aload_n (pc := 0) 0 dX11_friends_0 rfl ?_
  refine gf_X11_23 (pc := 1) rfl dX11_friends_1 ?_
  refine gf_X11_204 (pc := 4) rfl dX11_friends_4 ?_
  refine ev_if_eq (pc := 7) 14 (by decide) dX11_friends_7 ?_ ?_
  · refine EvW.sub [] rfl ?_
    exact E_X11_friends_14 N d I L
  · refine ev_iload_n (pc := 10) 1 dX11_friends_10 rfl ?_
    refine ev_if_ge (pc := 11) 18 (by decide) dX11_friends_11 ?_ ?_
    · refine ev_aload_n (pc := 18) 0 dX11_friends_18 rfl ?_
      refine gf_X11_48 (pc := 19) rfl dX11_friends_19 ?_
      refine ev_iload_n (pc := 22) 1 dX11_friends_22 rfl ?_
      refine ev_callVI (pc := 23) (d := d + 3) (As := [.int a1]) (st := []) cv_X4_mostFriends rfl w_317 rfl (Nat.le_of_ble_eq_true rfl) (ok_X4_mostFriends N (d) a1 I L) dX11_friends_23 (fun x1 I2 L3 => ?_)
      exact ev_iret (pc := 26) rfl dX11_friends_26
    · refine EvW.sub [] rfl ?_
      exact E_X11_friends_14 N d I L
def F_X1_tryCode_114 (N : Nat) (v1 : Int32) (v4 : Int32) (I : PI) (L : PL) : RES := nmW (uI I 1 7 ((I 1 7) + 1)) (fun I1 => (if (I1 1 6) ≤ v4 then some (none, I1, L) else nmW (uI I1 1 4 v1) (fun I2 => nmW (uI I2 1 6 v4) (fun I3 => some (none, I3, L)))))
set_option maxRecDepth 100000 in
theorem E_X1_tryCode_114 (N d : Nat) (v1 : Int32) (v4 : Int32) (I : PI) (L : PL) : EvW M_X1_tryCode (d + 1) 114 [(0, .ref 1), (1, .int v1), (4, .int v4)] [] I L (F_X1_tryCode_114 N v1 v4 I L) := by
  rw [F_X1_tryCode_114]
  refine ev_aload_n (pc := 114) 0 dX1_tryCode_114 rfl ?_
  refine ev_dup (pc := 115) rfl dX1_tryCode_115 ?_
  refine gf_X1_58 (pc := 116) rfl dX1_tryCode_116 ?_
  refine ev_iconst (pc := 119) 1 k_iconst_1 dX1_tryCode_119 ?_
  refine ev_iadd (pc := 120) dX1_tryCode_120 ?_
  refine pf_X1_58 (pc := 121) rfl dX1_tryCode_121 ?_
  refine ev_nmW (fun I1 => ?_)
  refine ev_iload (pc := 124) 2 dX1_tryCode_124 rfl ?_
  refine ev_aload_n (pc := 126) 0 dX1_tryCode_126 rfl ?_
  refine gf_X1_55 (pc := 127) rfl dX1_tryCode_127 ?_
  refine ev_icmp_ge (pc := 130) 144 (by decide) dX1_tryCode_130 ?_ ?_
  · exact ev_vret (pc := 144) rfl dX1_tryCode_144
  · refine ev_aload_n (pc := 133) 0 dX1_tryCode_133 rfl ?_
    refine ev_iload_n (pc := 134) 1 dX1_tryCode_134 rfl ?_
    refine pf_X1_48 (pc := 135) rfl dX1_tryCode_135 ?_
    refine ev_nmW (fun I2 => ?_)
    refine ev_aload_n (pc := 138) 0 dX1_tryCode_138 rfl ?_
    refine ev_iload (pc := 139) 2 dX1_tryCode_139 rfl ?_
    refine pf_X1_55 (pc := 141) rfl dX1_tryCode_141 ?_
    refine ev_nmW (fun I3 => ?_)
    exact ev_vret (pc := 144) rfl dX1_tryCode_144
def F_X1_tryCode_81 (N : Nat) (v1 : Int32) (v3 : Int32) (v4 : Int32) (I : PI) (L : PL) : RES := (if v3 ≤ (I 1 5) then (if (I 1 5) ≤ v3 then F_X1_tryCode_114 N v1 v4 I L else nmW (uI I 1 5 v3) (fun I4 => nmW (uI I4 1 6 1000000) (fun I5 => nmW (uI I5 1 7 0) (fun I6 => F_X1_tryCode_114 N v1 v4 I6 L)))) else some (none, I, L))
set_option maxRecDepth 100000 in
theorem E_X1_tryCode_81 (N d : Nat) (v1 : Int32) (v3 : Int32) (v4 : Int32) (I : PI) (L : PL) : EvW M_X1_tryCode (d + 1) 81 [(0, .ref 1), (1, .int v1), (3, .int v3), (4, .int v4)] [] I L (F_X1_tryCode_81 N v1 v3 v4 I L) := by
  rw [F_X1_tryCode_81]
  refine ev_iload_n (pc := 81) 2 dX1_tryCode_81 rfl ?_
  refine ev_aload_n (pc := 82) 0 dX1_tryCode_82 rfl ?_
  refine gf_X1_52 (pc := 83) rfl dX1_tryCode_83 ?_
  refine ev_icmp_le (pc := 86) 90 (by decide) dX1_tryCode_86 ?_ ?_
  · refine ev_iload_n (pc := 90) 2 dX1_tryCode_90 rfl ?_
    refine ev_aload_n (pc := 91) 0 dX1_tryCode_91 rfl ?_
    refine gf_X1_52 (pc := 92) rfl dX1_tryCode_92 ?_
    refine ev_icmp_ge (pc := 95) 114 (by decide) dX1_tryCode_95 ?_ ?_
    · refine EvW.sub [0, 1, 3] rfl ?_
      exact E_X1_tryCode_114 N d v1 v4 I L
    · refine ev_aload_n (pc := 98) 0 dX1_tryCode_98 rfl ?_
      refine ev_iload_n (pc := 99) 2 dX1_tryCode_99 rfl ?_
      refine pf_X1_52 (pc := 100) rfl dX1_tryCode_100 ?_
      refine ev_nmW (fun I4 => ?_)
      refine ev_aload_n (pc := 103) 0 dX1_tryCode_103 rfl ?_
      refine ev_ldc (pc := 104) w_320 dX1_tryCode_104 ?_
      refine pf_X1_55 (pc := 106) rfl dX1_tryCode_106 ?_
      refine ev_nmW (fun I5 => ?_)
      refine ev_aload_n (pc := 109) 0 dX1_tryCode_109 rfl ?_
      refine ev_iconst (pc := 110) 0 k_iconst_0 dX1_tryCode_110 ?_
      refine pf_X1_58 (pc := 111) rfl dX1_tryCode_111 ?_
      refine ev_nmW (fun I6 => ?_)
      refine EvW.sub [0, 1, 3] rfl ?_
      exact E_X1_tryCode_114 N d v1 v4 I6 L
  · exact ev_vret (pc := 89) rfl dX1_tryCode_89
def F_X1_tryCode_8 (N : Nat) : Nat → Int32 → Int32 → Int32 → Int32 → Int32 → PI → PL → RES
  | 0, _, _, _, _, _, _, _ => none
  | n + 1, v1, v2, v3, v4, v5, I, L => (if v2 ≤ v5 then F_X1_tryCode_81 N v1 v3 v4 I L else (if (I 1 5) < v3 then F_X1_tryCode_81 N v1 v3 v4 I L else bI (f_J6_bitCount_0f7a4 N ((v1 ^^^ (v1 >>> (v5 &&& 31))) &&& (((1 : Int32) <<< ((v2 - v5) &&& 31)) - 1)) I L) (fun x7 I8 L9 => nmI ((v2 - v5) - (2 * x7)) (fun x10 => nmI (jmax v3 (x10 * x10)) (fun x11 => nmI (v4 + ((2 * x10) * x10)) (fun x12 => (F_X1_tryCode_8 N n) v1 v2 x11 x12 (v5 + 1) I8 L9))))))
set_option maxRecDepth 100000 in
theorem E_X1_tryCode_8 (N d : Nat) : ∀ (n : Nat) (v1 : Int32) (v2 : Int32) (v3 : Int32) (v4 : Int32) (v5 : Int32) (I : PI) (L : PL), EvW M_X1_tryCode (d + 1) 8 [(0, .ref 1), (1, .int v1), (2, .int v2), (3, .int v3), (4, .int v4), (5, .int v5)] [] I L (F_X1_tryCode_8 N n v1 v2 v3 v4 v5 I L) := by
  intro n
  induction n with
  | zero =>
    intro v1 v2 v3 v4 v5 I L
    exact EvW.none
  | succ n hr_8 =>
    intro v1 v2 v3 v4 v5 I L
    rw [F_X1_tryCode_8]
    refine ev_iload (pc := 8) 5 dX1_tryCode_8 rfl ?_
    refine ev_iload_n (pc := 10) 2 dX1_tryCode_10 rfl ?_
    refine ev_icmp_ge (pc := 11) 81 (by decide) dX1_tryCode_11 ?_ ?_
    · refine EvW.sub [0, 1, 3, 4] rfl ?_
      exact E_X1_tryCode_81 N d v1 v3 v4 I L
    · refine ev_iload_n (pc := 14) 3 dX1_tryCode_14 rfl ?_
      refine ev_aload_n (pc := 15) 0 dX1_tryCode_15 rfl ?_
      refine gf_X1_52 (pc := 16) rfl dX1_tryCode_16 ?_
      refine ev_icmp_gt (pc := 19) 81 (by decide) dX1_tryCode_19 ?_ ?_
      · refine EvW.sub [0, 1, 3, 4] rfl ?_
        exact E_X1_tryCode_81 N d v1 v3 v4 I L
      · refine ev_iload_n (pc := 22) 1 dX1_tryCode_22 rfl ?_
        refine ev_iload_n (pc := 23) 1 dX1_tryCode_23 rfl ?_
        refine ev_iload (pc := 24) 5 dX1_tryCode_24 rfl ?_
        refine ev_ishr (pc := 26) dX1_tryCode_26 ?_
        refine ev_ixor (pc := 27) dX1_tryCode_27 ?_
        refine ev_iconst (pc := 28) 1 k_iconst_1 dX1_tryCode_28 ?_
        refine ev_iload_n (pc := 29) 2 dX1_tryCode_29 rfl ?_
        refine ev_iload (pc := 30) 5 dX1_tryCode_30 rfl ?_
        refine ev_isub (pc := 32) dX1_tryCode_32 ?_
        refine ev_ishl (pc := 33) dX1_tryCode_33 ?_
        refine ev_iconst (pc := 34) 1 k_iconst_1 dX1_tryCode_34 ?_
        refine ev_isub (pc := 35) dX1_tryCode_35 ?_
        refine ev_iand (pc := 36) dX1_tryCode_36 ?_
        refine ev_callSI (pc := 37) (d := d) (As := [.int ((v1 ^^^ (v1 >>> (v5 &&& 31))) &&& (((1 : Int32) <<< ((v2 - v5) &&& 31)) - 1))]) (st := []) cv_J6_bitCount_0f7a4 rfl w_325 rfl (Nat.le_of_ble_eq_true rfl) (ok_J6_bitCount_0f7a4 N (d) ((v1 ^^^ (v1 >>> (v5 &&& 31))) &&& (((1 : Int32) <<< ((v2 - v5) &&& 31)) - 1)) I L) dX1_tryCode_37 (fun x7 I8 L9 => ?_)
        refine ev_istore (pc := 40) (lv' := [(6, .int x7), (0, .ref 1), (1, .int v1), (2, .int v2), (3, .int v3), (4, .int v4), (5, .int v5)]) dX1_tryCode_40 rfl rfl ?_
        refine ev_iload_n (pc := 42) 3 dX1_tryCode_42 rfl ?_
        refine ev_iload (pc := 43) 6 dX1_tryCode_43 rfl ?_
        refine ev_isub (pc := 45) dX1_tryCode_45 ?_
        refine ev_iconst (pc := 46) 2 k_iconst_2 dX1_tryCode_46 ?_
        refine ev_iload (pc := 47) 0 dX1_tryCode_47 rfl ?_
        refine ev_imul (pc := 49) dX1_tryCode_49 ?_
        refine ev_isub (pc := 50) dX1_tryCode_50 ?_
        refine ev_nmI (fun x10 => ?_)
        refine ev_istore (pc := 51) (lv' := [(7, .int x10), (6, .int x7), (0, .ref 1), (1, .int v1), (2, .int v2), (3, .int v3), (4, .int v4), (5, .int v5)]) dX1_tryCode_51 rfl rfl ?_
        refine ev_iload_n (pc := 53) 5 dX1_tryCode_53 rfl ?_
        refine ev_iload (pc := 54) 0 dX1_tryCode_54 rfl ?_
        refine ev_iload (pc := 56) 0 dX1_tryCode_56 rfl ?_
        refine ev_imul (pc := 58) dX1_tryCode_58 ?_
        refine ev_mmax (pc := 59) (d := d) w_326 w_130 w_131 w_132 (Nat.le_of_ble_eq_true rfl) dX1_tryCode_59 ?_
        refine ev_nmI (fun x11 => ?_)
        refine ev_istore_n (pc := 62) (lv' := [(3, .int x11), (7, .int x10), (6, .int x7), (0, .ref 1), (1, .int v1), (2, .int v2), (4, .int v4), (5, .int v5)]) dX1_tryCode_62 rfl rfl rfl ?_
        refine ev_iload (pc := 63) 6 dX1_tryCode_63 rfl ?_
        refine ev_iconst (pc := 65) 2 k_iconst_2 dX1_tryCode_65 ?_
        refine ev_iload (pc := 66) 1 dX1_tryCode_66 rfl ?_
        refine ev_imul (pc := 68) dX1_tryCode_68 ?_
        refine ev_iload (pc := 69) 1 dX1_tryCode_69 rfl ?_
        refine ev_imul (pc := 71) dX1_tryCode_71 ?_
        refine ev_iadd (pc := 72) dX1_tryCode_72 ?_
        refine ev_nmI (fun x12 => ?_)
        refine ev_istore (pc := 73) (lv' := [(4, .int x12), (3, .int x11), (7, .int x10), (6, .int x7), (0, .ref 1), (1, .int v1), (2, .int v2), (5, .int v5)]) dX1_tryCode_73 rfl rfl ?_
        refine ev_iinc (pc := 75) (lv' := [(5, .int (v5 + 1)), (4, .int x12), (3, .int x11), (7, .int x10), (6, .int x7), (0, .ref 1), (1, .int v1), (2, .int v2)]) dX1_tryCode_75 7 rfl rfl 1 k_iconst_1 rfl ?_
        refine ev_goto (pc := 78) 8 (by decide) dX1_tryCode_78 ?_
        refine EvW.sub [5, 6, 7, 2, 1, 0] rfl ?_
        exact hr_8 v1 v2 x11 x12 (v5 + 1) I8 L9
def f_X1_tryCode (N : Nat) (a1 : Int32) (a2 : Int32) (I : PI) (L : PL) : RES := F_X1_tryCode_8 N N a1 a2 0 0 1 I L
set_option maxRecDepth 100000 in
theorem ok_X1_tryCode (N d : Nat) (a1 : Int32) (a2 : Int32) (I : PI) (L : PL) : MOk M_X1_tryCode (d + 1) [.ref 1, .int a1, .int a2] I L (f_X1_tryCode N a1 a2 I L) := by
  refine MOk.of (by decide +kernel) (Nat.le_of_ble_eq_true rfl) ?_
  show EvW _ _ 0 [(0, .ref 1), (1, .int a1), (2, .int a2)] [] I L _
  rw [f_X1_tryCode]
  refine ev_iconst (pc := 0) 0 k_iconst_0 dX1_tryCode_0 ?_
  refine ev_istore_n (pc := 1) (lv' := [(3, .int 0), (0, .ref 1), (1, .int a1), (2, .int a2)]) dX1_tryCode_1 rfl rfl rfl ?_
  refine ev_iconst (pc := 2) 0 k_iconst_0 dX1_tryCode_2 ?_
  refine ev_istore (pc := 3) (lv' := [(4, .int 0), (3, .int 0), (0, .ref 1), (1, .int a1), (2, .int a2)]) dX1_tryCode_3 rfl rfl ?_
  refine ev_iconst (pc := 5) 1 k_iconst_1 dX1_tryCode_5 ?_
  refine ev_istore (pc := 6) (lv' := [(5, .int 1), (4, .int 0), (3, .int 0), (0, .ref 1), (1, .int a1), (2, .int a2)]) dX1_tryCode_6 rfl rfl ?_
  refine EvW.sub [3, 4, 5, 2, 1, 0] rfl ?_
  exact E_X1_tryCode_8 N d N a1 a2 0 0 1 I L
def F_X1_findCode_8 (N : Nat) : Nat → Int32 → Int32 → PI → PL → RES
  | 0, _, _, _, _ => none
  | n + 1, v1, v2, I, L => (if ((1 : Int32) <<< (v1 &&& 31)) ≤ v2 then some (none, I, L) else bV (f_X1_tryCode N v2 v1 I L) (fun I3 L4 => (F_X1_findCode_8 N n) v1 (v2 + 1) I3 L4))
set_option maxRecDepth 100000 in
theorem E_X1_findCode_8 (N d : Nat) : ∀ (n : Nat) (v1 : Int32) (v2 : Int32) (I : PI) (L : PL), EvW M_X1_findCode (d + 2) 8 [(0, .ref 1), (1, .int v1), (2, .int v2)] [] I L (F_X1_findCode_8 N n v1 v2 I L) := by
  intro n
  induction n with
  | zero =>
    intro v1 v2 I L
    exact EvW.none
  | succ n hr_8 =>
    intro v1 v2 I L
    rw [F_X1_findCode_8]
    refine ev_iload_n (pc := 8) 2 dX1_findCode_8 rfl ?_
    refine ev_iconst (pc := 9) 1 k_iconst_1 dX1_findCode_9 ?_
    refine ev_iload_n (pc := 10) 1 dX1_findCode_10 rfl ?_
    refine ev_ishl (pc := 11) dX1_findCode_11 ?_
    refine ev_icmp_ge (pc := 12) 27 (by decide) dX1_findCode_12 ?_ ?_
    · exact ev_vret (pc := 27) rfl dX1_findCode_27
    · refine ev_aload_n (pc := 15) 0 dX1_findCode_15 rfl ?_
      refine ev_iload_n (pc := 16) 2 dX1_findCode_16 rfl ?_
      refine ev_iload_n (pc := 17) 1 dX1_findCode_17 rfl ?_
      refine ev_callVV (pc := 18) (d := d + 1) (As := [.int v2, .int v1]) (st := []) cv_X1_tryCode rfl w_331 rfl (Nat.le_of_ble_eq_true rfl) (ok_X1_tryCode N (d) v2 v1 I L) dX1_findCode_18 (fun I3 L4 => ?_)
      refine ev_iinc (pc := 21) (lv' := [(2, .int (v2 + 1)), (0, .ref 1), (1, .int v1)]) dX1_findCode_21 2 rfl rfl 1 k_iconst_1 rfl ?_
      refine ev_goto (pc := 24) 8 (by decide) dX1_findCode_24 ?_
      refine EvW.sub [1, 2, 0] rfl ?_
      exact hr_8 v1 (v2 + 1) I3 L4
def f_X1_findCode (N : Nat) (a1 : Int32) (I : PI) (L : PL) : RES := nmW (uI I 1 5 1000000) (fun I1 => F_X1_findCode_8 N N a1 0 I1 L)
set_option maxRecDepth 100000 in
theorem ok_X1_findCode (N d : Nat) (a1 : Int32) (I : PI) (L : PL) : MOk M_X1_findCode (d + 2) [.ref 1, .int a1] I L (f_X1_findCode N a1 I L) := by
  refine MOk.of (by decide +kernel) (Nat.le_of_ble_eq_true rfl) ?_
  show EvW _ _ 0 [(0, .ref 1), (1, .int a1)] [] I L _
  rw [f_X1_findCode]
  refine ev_aload_n (pc := 0) 0 dX1_findCode_0 rfl ?_
  refine ev_ldc (pc := 1) w_320 dX1_findCode_1 ?_
  refine pf_X1_52 (pc := 3) rfl dX1_findCode_3 ?_
  refine ev_nmW (fun I1 => ?_)
  refine ev_iconst (pc := 6) 0 k_iconst_0 dX1_findCode_6 ?_
  refine ev_istore_n (pc := 7) (lv' := [(2, .int 0), (0, .ref 1), (1, .int a1)]) dX1_findCode_7 rfl rfl rfl ?_
  refine EvW.sub [1, 2, 0] rfl ?_
  exact E_X1_findCode_8 N d N a1 0 I1 L
def f_X1_keepIn_r23 (N : Nat) (a1 : Int32) (I : PI) (L : PL) : RES := nmI (a1 * 4) (fun x1 => (if x1 < 0 then some (none, I, L) else (if 52 ≤ (x1 + 3) then some (none, I, L) else gd (inb x1 52) (nmW (uI I 23 (Int32.toNatClampNeg x1) (I 1 4)) (fun I2 => gd (inb (x1 + 1) 52) (nmW (uI I2 23 (Int32.toNatClampNeg (x1 + 1)) (I2 1 5)) (fun I3 => gd (inb (x1 + 2) 52) (nmW (uI I3 23 (Int32.toNatClampNeg (x1 + 2)) (I3 1 6)) (fun I4 => gd (inb (x1 + 3) 52) (nmW (uI I4 23 (Int32.toNatClampNeg (x1 + 3)) (I4 1 7)) (fun I5 => some (none, I5, L))))))))))))
set_option maxRecDepth 100000 in
theorem ok_X1_keepIn_r23 (N d : Nat) (a1 : Int32) (I : PI) (L : PL) : MOk M_X1_keepIn (d) [.ref 1, .ref 23, .int a1] I L (f_X1_keepIn_r23 N a1 I L) := by
  refine MOk.of (by decide +kernel) (Nat.le_of_ble_eq_true rfl) ?_
  show EvW _ _ 0 [(0, .ref 1), (1, .ref 23), (2, .int a1)] [] I L _
  rw [f_X1_keepIn_r23]
  refine ev_iload_n (pc := 0) 2 dX1_keepIn_0 rfl ?_
  refine ev_iconst (pc := 1) 4 k_iconst_4 dX1_keepIn_1 ?_
  refine ev_imul (pc := 2) dX1_keepIn_2 ?_
  refine ev_nmI (fun x1 => ?_)
  refine ev_istore_n (pc := 3) (lv' := [(3, .int x1), (0, .ref 1), (1, .ref 23), (2, .int a1)]) dX1_keepIn_3 rfl rfl rfl ?_
  refine ev_iload_n (pc := 4) 0 dX1_keepIn_4 rfl ?_
  refine ev_if_lt (pc := 5) 50 (by decide) dX1_keepIn_5 ?_ ?_
  · exact ev_vret (pc := 50) rfl dX1_keepIn_50
  · refine ev_iload_n (pc := 8) 0 dX1_keepIn_8 rfl ?_
    refine ev_iconst (pc := 9) 3 k_iconst_3 dX1_keepIn_9 ?_
    refine ev_iadd (pc := 10) dX1_keepIn_10 ?_
    refine ev_aload_n (pc := 11) 2 dX1_keepIn_11 rfl ?_
    refine ev_alenI (pc := 12) 52 (by decide +kernel) kK_23 dX1_keepIn_12 ?_
    refine ev_icmp_ge (pc := 13) 50 (by decide) dX1_keepIn_13 ?_ ?_
    · exact ev_vret (pc := 50) rfl dX1_keepIn_50
    · refine ev_aload_n (pc := 16) 2 dX1_keepIn_16 rfl ?_
      refine ev_iload_n (pc := 17) 0 dX1_keepIn_17 rfl ?_
      refine ev_aload_n (pc := 18) 1 dX1_keepIn_18 rfl ?_
      refine gf_X1_48 (pc := 19) rfl dX1_keepIn_19 ?_
      refine ev_iast (pc := 22) kK_23 dX1_keepIn_22 ?_
      refine ev_nmW (fun I2 => ?_)
      refine ev_aload_n (pc := 23) 2 dX1_keepIn_23 rfl ?_
      refine ev_iload_n (pc := 24) 0 dX1_keepIn_24 rfl ?_
      refine ev_iconst (pc := 25) 1 k_iconst_1 dX1_keepIn_25 ?_
      refine ev_iadd (pc := 26) dX1_keepIn_26 ?_
      refine ev_aload_n (pc := 27) 1 dX1_keepIn_27 rfl ?_
      refine gf_X1_52 (pc := 28) rfl dX1_keepIn_28 ?_
      refine ev_iast (pc := 31) kK_23 dX1_keepIn_31 ?_
      refine ev_nmW (fun I3 => ?_)
      refine ev_aload_n (pc := 32) 2 dX1_keepIn_32 rfl ?_
      refine ev_iload_n (pc := 33) 0 dX1_keepIn_33 rfl ?_
      refine ev_iconst (pc := 34) 2 k_iconst_2 dX1_keepIn_34 ?_
      refine ev_iadd (pc := 35) dX1_keepIn_35 ?_
      refine ev_aload_n (pc := 36) 1 dX1_keepIn_36 rfl ?_
      refine gf_X1_55 (pc := 37) rfl dX1_keepIn_37 ?_
      refine ev_iast (pc := 40) kK_23 dX1_keepIn_40 ?_
      refine ev_nmW (fun I4 => ?_)
      refine ev_aload_n (pc := 41) 2 dX1_keepIn_41 rfl ?_
      refine ev_iload_n (pc := 42) 0 dX1_keepIn_42 rfl ?_
      refine ev_iconst (pc := 43) 3 k_iconst_3 dX1_keepIn_43 ?_
      refine ev_iadd (pc := 44) dX1_keepIn_44 ?_
      refine ev_aload_n (pc := 45) 1 dX1_keepIn_45 rfl ?_
      refine gf_X1_58 (pc := 46) rfl dX1_keepIn_46 ?_
      refine ev_iast (pc := 49) kK_23 dX1_keepIn_49 ?_
      refine ev_nmW (fun I5 => ?_)
      exact ev_vret (pc := 50) rfl dX1_keepIn_50
def F_X1_codeOf_48 (N : Nat) (v1 : Int32) (v2 : Int32) (I : PI) (L : PL) : RES := gd (inb ((v1 * 4) + v2) 52) (some (some (.int (I 23 (Int32.toNatClampNeg ((v1 * 4) + v2)))), I, L))
set_option maxRecDepth 100000 in
theorem E_X1_codeOf_48 (N d : Nat) (v1 : Int32) (v2 : Int32) (I : PI) (L : PL) : EvW M_X1_codeOf (d + 3) 48 [(0, .ref 1), (1, .int v1), (2, .int v2)] [] I L (F_X1_codeOf_48 N v1 v2 I L) := by
  rw [F_X1_codeOf_48]
  refine ev_aload_n (pc := 48) 0 dX1_codeOf_48 rfl ?_
  refine gf_X1_19 (pc := 49) rfl dX1_codeOf_49 ?_
  refine ev_iload_n (pc := 52) 1 dX1_codeOf_52 rfl ?_
  refine ev_iconst (pc := 53) 4 k_iconst_4 dX1_codeOf_53 ?_
  refine ev_imul (pc := 54) dX1_codeOf_54 ?_
  refine ev_iload_n (pc := 55) 2 dX1_codeOf_55 rfl ?_
  refine ev_iadd (pc := 56) dX1_codeOf_56 ?_
  refine ev_iald (pc := 57) kK_23 dX1_codeOf_57 ?_
  exact ev_iret (pc := 58) rfl dX1_codeOf_58
def f_X1_codeOf (N : Nat) (a1 : Int32) (a2 : Int32) (I : PI) (L : PL) : RES := (if a1 < 2 then some (some (.int (-1 : Int32)), I, L) else (if 12 < a1 then some (some (.int (-1 : Int32)), I, L) else (if a2 < 0 then some (some (.int (-1 : Int32)), I, L) else (if a2 < 4 then gd (inb (a1 * 4) 52) ((if (I 23 (Int32.toNatClampNeg (a1 * 4))) = (-1 : Int32) then bV (f_X1_findCode N a1 I L) (fun I2 L3 => bV (f_X1_keepIn_r23 N a1 I2 L3) (fun I5 L6 => F_X1_codeOf_48 N a1 a2 I5 L6)) else F_X1_codeOf_48 N a1 a2 I L)) else some (some (.int (-1 : Int32)), I, L)))))
set_option maxRecDepth 100000 in
theorem ok_X1_codeOf (N d : Nat) (a1 : Int32) (a2 : Int32) (I : PI) (L : PL) : MOk M_X1_codeOf (d + 3) [.ref 1, .int a1, .int a2] I L (f_X1_codeOf N a1 a2 I L) := by
  refine MOk.of (by decide +kernel) (Nat.le_of_ble_eq_true rfl) ?_
  show EvW _ _ 0 [(0, .ref 1), (1, .int a1), (2, .int a2)] [] I L _
  rw [f_X1_codeOf]
  refine ev_iload_n (pc := 0) 1 dX1_codeOf_0 rfl ?_
  refine ev_iconst (pc := 1) 2 k_iconst_2 dX1_codeOf_1 ?_
  refine ev_icmp_lt (pc := 2) 20 (by decide) dX1_codeOf_2 ?_ ?_
  · refine ev_iconst (pc := 20) (-1 : Int32) k_iconst_m1 dX1_codeOf_20 ?_
    exact ev_iret (pc := 21) rfl dX1_codeOf_21
  · refine ev_iload_n (pc := 5) 1 dX1_codeOf_5 rfl ?_
    refine ev_bipush (pc := 6) 12 k_bipush_12 dX1_codeOf_6 ?_
    refine ev_icmp_gt (pc := 8) 20 (by decide) dX1_codeOf_8 ?_ ?_
    · refine ev_iconst (pc := 20) (-1 : Int32) k_iconst_m1 dX1_codeOf_20 ?_
      exact ev_iret (pc := 21) rfl dX1_codeOf_21
    · refine ev_iload_n (pc := 11) 2 dX1_codeOf_11 rfl ?_
      refine ev_if_lt (pc := 12) 20 (by decide) dX1_codeOf_12 ?_ ?_
      · refine ev_iconst (pc := 20) (-1 : Int32) k_iconst_m1 dX1_codeOf_20 ?_
        exact ev_iret (pc := 21) rfl dX1_codeOf_21
      · refine ev_iload_n (pc := 15) 2 dX1_codeOf_15 rfl ?_
        refine ev_iconst (pc := 16) 4 k_iconst_4 dX1_codeOf_16 ?_
        refine ev_icmp_lt (pc := 17) 22 (by decide) dX1_codeOf_17 ?_ ?_
        · refine ev_aload_n (pc := 22) 0 dX1_codeOf_22 rfl ?_
          refine gf_X1_19 (pc := 23) rfl dX1_codeOf_23 ?_
          refine ev_iload_n (pc := 26) 1 dX1_codeOf_26 rfl ?_
          refine ev_iconst (pc := 27) 4 k_iconst_4 dX1_codeOf_27 ?_
          refine ev_imul (pc := 28) dX1_codeOf_28 ?_
          refine ev_iald (pc := 29) kK_23 dX1_codeOf_29 ?_
          refine ev_iconst (pc := 30) (-1 : Int32) k_iconst_m1 dX1_codeOf_30 ?_
          refine ev_icmp_ne (pc := 31) 48 (by decide) dX1_codeOf_31 ?_ ?_
          · exact E_X1_codeOf_48 N d a1 a2 I L
          · refine ev_aload_n (pc := 34) 0 dX1_codeOf_34 rfl ?_
            refine ev_iload_n (pc := 35) 1 dX1_codeOf_35 rfl ?_
            refine ev_callVV (pc := 36) (d := d + 2) (As := [.int a1]) (st := []) cv_X1_findCode rfl w_335 rfl (Nat.le_of_ble_eq_true rfl) (ok_X1_findCode N (d) a1 I L) dX1_codeOf_36 (fun I2 L3 => ?_)
            refine ev_aload_n (pc := 39) 0 dX1_codeOf_39 rfl ?_
            refine ev_aload_n (pc := 40) 0 dX1_codeOf_40 rfl ?_
            refine gf_X1_19 (pc := 41) rfl dX1_codeOf_41 ?_
            refine ev_iload_n (pc := 44) 1 dX1_codeOf_44 rfl ?_
            refine ev_callVV (pc := 45) (d := d + 2) (As := [.ref 23, .int a1]) (st := []) cv_X1_keepIn rfl w_339 rfl (Nat.le_of_ble_eq_true rfl) (ok_X1_keepIn_r23 N (d + 2) a1 I2 L3) dX1_codeOf_45 (fun I5 L6 => ?_)
            exact E_X1_codeOf_48 N d a1 a2 I5 L6
        · refine ev_iconst (pc := 20) (-1 : Int32) k_iconst_m1 dX1_codeOf_20 ?_
          exact ev_iret (pc := 21) rfl dX1_codeOf_21
def f_X11_best (N : Nat) (a1 : Int32) (a2 : Int32) (I : PI) (L : PL) : RES := bI (f_X11_within N a1 2 12 I L) (fun x1 I2 L3 => (if x1 = 0 then some (some (.int (-1 : Int32)), I2, L3) else bI (f_X11_within N a2 0 3 I2 L3) (fun x4 I5 L6 => (if x4 = 0 then some (some (.int (-1 : Int32)), I5, L6) else bI (f_X1_codeOf N a1 a2 I5 L6) (fun x7 I8 L9 => some (some (.int x7), I8, L9))))))
set_option maxRecDepth 100000 in
theorem ok_X11_best (N d : Nat) (a1 : Int32) (a2 : Int32) (I : PI) (L : PL) : MOk M_X11_best (d + 4) [.ref 11, .int a1, .int a2] I L (f_X11_best N a1 a2 I L) := by
  refine MOk.of (by decide +kernel) (Nat.le_of_ble_eq_true rfl) ?_
  show EvW _ _ 0 [(0, .ref 11), (1, .int a1), (2, .int a2)] [] I L _
  rw [f_X11_best]
  refine ev_iload_n (pc := 0) 1 dX11_best_0 rfl ?_
  refine ev_iconst (pc := 1) 2 k_iconst_2 dX11_best_1 ?_
  refine ev_bipush (pc := 2) 12 k_bipush_12 dX11_best_2 ?_
  refine ev_callSI (pc := 4) (d := d + 3) (As := [.int a1, .int 2, .int 12]) (st := []) cv_X11_within rfl w_18 rfl (Nat.le_of_ble_eq_true rfl) (ok_X11_within N (d + 3) a1 2 12 I L) dX11_best_4 (fun x1 I2 L3 => ?_)
  refine ev_if_eq (pc := 7) 31 (by decide) dX11_best_7 ?_ ?_
  · refine ev_iconst (pc := 31) (-1 : Int32) k_iconst_m1 dX11_best_31 ?_
    exact ev_iret (pc := 32) rfl dX11_best_32
  · refine ev_iload_n (pc := 10) 2 dX11_best_10 rfl ?_
    refine ev_iconst (pc := 11) 0 k_iconst_0 dX11_best_11 ?_
    refine ev_iconst (pc := 12) 3 k_iconst_3 dX11_best_12 ?_
    refine ev_callSI (pc := 13) (d := d + 3) (As := [.int a2, .int 0, .int 3]) (st := []) cv_X11_within rfl w_18 rfl (Nat.le_of_ble_eq_true rfl) (ok_X11_within N (d + 3) a2 0 3 I2 L3) dX11_best_13 (fun x4 I5 L6 => ?_)
    refine ev_if_eq (pc := 16) 31 (by decide) dX11_best_16 ?_ ?_
    · refine ev_iconst (pc := 31) (-1 : Int32) k_iconst_m1 dX11_best_31 ?_
      exact ev_iret (pc := 32) rfl dX11_best_32
    · refine ev_aload_n (pc := 19) 0 dX11_best_19 rfl ?_
      refine gf_X11_57 (pc := 20) rfl dX11_best_20 ?_
      refine ev_iload_n (pc := 23) 1 dX11_best_23 rfl ?_
      refine ev_iload_n (pc := 24) 2 dX11_best_24 rfl ?_
      refine ev_callVI (pc := 25) (d := d + 3) (As := [.int a1, .int a2]) (st := []) cv_X1_codeOf rfl w_343 rfl (Nat.le_of_ble_eq_true rfl) (ok_X1_codeOf N (d) a1 a2 I5 L6) dX11_best_25 (fun x7 I8 L9 => ?_)
      refine ev_goto (pc := 28) 32 (by decide) dX11_best_28 ?_
      exact ev_iret (pc := 32) rfl dX11_best_32
def F_X1_tellFilter_22 (N : Nat) : Nat → Int32 → Int32 → Int32 → PI → PL → RES
  | 0, _, _, _, _, _ => none
  | n + 1, v3, v4, v5, I, L => (if v5 < 0 then some (some (.int (v4 * v4)), I, L) else gd (decide (¬ 5 = 0)) (nmI ((jirem v3 5) - 2) (fun x5 => gd (decide (¬ 5 = 0)) (nmI (v3 / 5) (fun x6 => nmI (v4 + x5) (fun x7 => gd (inb v5 24) (nmW (uI I 21 (Int32.toNatClampNeg v5) x5) (fun I8 => (F_X1_tellFilter_22 N n) x6 x7 (v5 + (-1 : Int32)) I8 L))))))))
set_option maxRecDepth 100000 in
theorem E_X1_tellFilter_22 (N d : Nat) : ∀ (n : Nat) (v3 : Int32) (v4 : Int32) (v5 : Int32) (I : PI) (L : PL), EvW M_X1_tellFilter (d + 1) 22 [(0, .ref 1), (3, .int v3), (4, .int v4), (5, .int v5)] [] I L (F_X1_tellFilter_22 N n v3 v4 v5 I L) := by
  intro n
  induction n with
  | zero =>
    intro v3 v4 v5 I L
    exact EvW.none
  | succ n hr_22 =>
    intro v3 v4 v5 I L
    rw [F_X1_tellFilter_22]
    refine ev_iload (pc := 22) 3 dX1_tellFilter_22 rfl ?_
    refine ev_if_lt (pc := 24) 63 (by decide) dX1_tellFilter_24 ?_ ?_
    · refine ev_iload (pc := 63) 2 dX1_tellFilter_63 rfl ?_
      refine ev_iload (pc := 65) 2 dX1_tellFilter_65 rfl ?_
      refine ev_imul (pc := 67) dX1_tellFilter_67 ?_
      exact ev_iret (pc := 68) rfl dX1_tellFilter_68
    · refine ev_iload_n (pc := 27) 1 dX1_tellFilter_27 rfl ?_
      refine ev_iconst (pc := 28) 5 k_iconst_5 dX1_tellFilter_28 ?_
      refine ev_irem (pc := 29) dX1_tellFilter_29 ?_
      refine ev_iconst (pc := 30) 2 k_iconst_2 dX1_tellFilter_30 ?_
      refine ev_isub (pc := 31) dX1_tellFilter_31 ?_
      refine ev_nmI (fun x5 => ?_)
      refine ev_istore (pc := 32) (lv' := [(6, .int x5), (0, .ref 1), (3, .int v3), (4, .int v4), (5, .int v5)]) dX1_tellFilter_32 rfl rfl ?_
      refine ev_iload_n (pc := 34) 2 dX1_tellFilter_34 rfl ?_
      refine ev_iconst (pc := 35) 5 k_iconst_5 dX1_tellFilter_35 ?_
      refine ev_idiv (pc := 36) dX1_tellFilter_36 ?_
      refine ev_nmI (fun x6 => ?_)
      refine ev_istore_n (pc := 37) (lv' := [(3, .int x6), (6, .int x5), (0, .ref 1), (4, .int v4), (5, .int v5)]) dX1_tellFilter_37 rfl rfl rfl ?_
      refine ev_iload (pc := 38) 3 dX1_tellFilter_38 rfl ?_
      refine ev_iload (pc := 40) 1 dX1_tellFilter_40 rfl ?_
      refine ev_iadd (pc := 42) dX1_tellFilter_42 ?_
      refine ev_nmI (fun x7 => ?_)
      refine ev_istore (pc := 43) (lv' := [(4, .int x7), (3, .int x6), (6, .int x5), (0, .ref 1), (5, .int v5)]) dX1_tellFilter_43 rfl rfl ?_
      refine ev_aload_n (pc := 45) 3 dX1_tellFilter_45 rfl ?_
      refine gf_X1_15 (pc := 46) rfl dX1_tellFilter_46 ?_
      refine gf_X1_99 (pc := 49) rfl dX1_tellFilter_49 ?_
      refine ev_iload (pc := 52) 4 dX1_tellFilter_52 rfl ?_
      refine ev_iload (pc := 54) 2 dX1_tellFilter_54 rfl ?_
      refine ev_iast (pc := 56) kK_21 dX1_tellFilter_56 ?_
      refine ev_nmW (fun I8 => ?_)
      refine ev_iinc (pc := 57) (lv' := [(5, .int (v5 + (-1 : Int32))), (4, .int x7), (3, .int x6), (6, .int x5), (0, .ref 1)]) dX1_tellFilter_57 4 rfl rfl (-1 : Int32) k_iconst_m1 rfl ?_
      refine ev_goto (pc := 60) 22 (by decide) dX1_tellFilter_60 ?_
      refine EvW.sub [4, 2, 1, 0] rfl ?_
      exact hr_22 x6 x7 (v5 + (-1 : Int32)) I8 L
def f_X1_tellFilter (N : Nat) (a1 : Int32) (a2 : Int32) (I : PI) (L : PL) : RES := bI (f_X3_lengthOf N a1 I L) (fun x1 I2 L3 => nmI ((jmin x1 6) - 1) (fun x4 => F_X1_tellFilter_22 N N a2 0 x4 I2 L3))
set_option maxRecDepth 100000 in
theorem ok_X1_tellFilter (N d : Nat) (a1 : Int32) (a2 : Int32) (I : PI) (L : PL) : MOk M_X1_tellFilter (d + 1) [.ref 1, .int a1, .int a2] I L (f_X1_tellFilter N a1 a2 I L) := by
  refine MOk.of (by decide +kernel) (Nat.le_of_ble_eq_true rfl) ?_
  show EvW _ _ 0 [(0, .ref 1), (1, .int a1), (2, .int a2)] [] I L _
  rw [f_X1_tellFilter]
  refine ev_iload_n (pc := 0) 2 dX1_tellFilter_0 rfl ?_
  refine ev_istore_n (pc := 1) (lv' := [(3, .int a2), (0, .ref 1), (1, .int a1), (2, .int a2)]) dX1_tellFilter_1 rfl rfl rfl ?_
  refine ev_iconst (pc := 2) 0 k_iconst_0 dX1_tellFilter_2 ?_
  refine ev_istore (pc := 3) (lv' := [(4, .int 0), (3, .int a2), (0, .ref 1), (1, .int a1), (2, .int a2)]) dX1_tellFilter_3 rfl rfl ?_
  refine ev_aload_n (pc := 5) 2 dX1_tellFilter_5 rfl ?_
  refine gf_X1_9 (pc := 6) rfl dX1_tellFilter_6 ?_
  refine ev_iload_n (pc := 9) 3 dX1_tellFilter_9 rfl ?_
  refine ev_callVI (pc := 10) (d := d) (As := [.int a1]) (st := []) cv_X3_lengthOf rfl w_347 rfl (Nat.le_of_ble_eq_true rfl) (ok_X3_lengthOf N (d) a1 I L) dX1_tellFilter_10 (fun x1 I2 L3 => ?_)
  refine ev_bipush (pc := 13) 6 k_bipush_6 dX1_tellFilter_13 ?_
  refine ev_mmin (pc := 15) (d := d) w_348 w_134 w_131 w_135 (Nat.le_of_ble_eq_true rfl) dX1_tellFilter_15 ?_
  refine ev_iconst (pc := 18) 1 k_iconst_1 dX1_tellFilter_18 ?_
  refine ev_isub (pc := 19) dX1_tellFilter_19 ?_
  refine ev_nmI (fun x4 => ?_)
  refine ev_istore (pc := 20) (lv' := [(5, .int x4), (4, .int 0), (3, .int a2), (0, .ref 1), (1, .int a1), (2, .int a2)]) dX1_tellFilter_20 rfl rfl ?_
  refine EvW.sub [3, 2, 1, 0] rfl ?_
  exact E_X1_tellFilter_22 N d N a2 0 x4 I2 L3
def F_X1_tryFilter_139 (N : Nat) (v2 : Int32) (v3 : Int32) (v4 : Int32) (v6 : Int32) (I : PI) (L : PL) : RES := nmW (uI I 1 4 v2) (fun I11 => nmW (uI I11 1 5 v4) (fun I12 => nmW (uI I12 1 6 v3) (fun I13 => nmW (uI I13 1 7 v6) (fun I14 => some (none, I14, L)))))
set_option maxRecDepth 100000 in
theorem E_X1_tryFilter_139 (N d : Nat) (v2 : Int32) (v3 : Int32) (v4 : Int32) (v6 : Int32) (I : PI) (L : PL) : EvW M_X1_tryFilter (d + 3) 139 [(0, .ref 1), (2, .int v2), (3, .int v3), (4, .int v4), (6, .int v6)] [] I L (F_X1_tryFilter_139 N v2 v3 v4 v6 I L) := by
  rw [F_X1_tryFilter_139]
  refine ev_aload_n (pc := 139) 0 dX1_tryFilter_139 rfl ?_
  refine ev_iload_n (pc := 140) 1 dX1_tryFilter_140 rfl ?_
  refine pf_X1_48 (pc := 141) rfl dX1_tryFilter_141 ?_
  refine ev_nmW (fun I11 => ?_)
  refine ev_aload_n (pc := 144) 0 dX1_tryFilter_144 rfl ?_
  refine ev_iload (pc := 145) 3 dX1_tryFilter_145 rfl ?_
  refine pf_X1_52 (pc := 147) rfl dX1_tryFilter_147 ?_
  refine ev_nmW (fun I12 => ?_)
  refine ev_aload_n (pc := 150) 0 dX1_tryFilter_150 rfl ?_
  refine ev_iload_n (pc := 151) 2 dX1_tryFilter_151 rfl ?_
  refine pf_X1_55 (pc := 152) rfl dX1_tryFilter_152 ?_
  refine ev_nmW (fun I13 => ?_)
  refine ev_aload_n (pc := 155) 0 dX1_tryFilter_155 rfl ?_
  refine ev_iload (pc := 156) 4 dX1_tryFilter_156 rfl ?_
  refine pf_X1_58 (pc := 158) rfl dX1_tryFilter_158 ?_
  refine ev_nmW (fun I14 => ?_)
  exact ev_vret (pc := 161) rfl dX1_tryFilter_161
def F_X1_tryFilter_92 (N : Nat) (v1 : Int32) (v2 : Int32) (v3 : Int32) (v4 : Int32) (I : PI) (L : PL) : RES := nmI ((v4 * (I 1 6)) - ((I 1 5) * v3)) (fun x7 => (if x7 ≤ 0 then bI (f_X4_loss N v1 v3 I L) (fun x8 I9 L10 => (if x7 < 0 then F_X1_tryFilter_139 N v2 v3 v4 x8 I9 L10 else (if x8 ≤ (I9 1 7) then some (none, I9, L10) else F_X1_tryFilter_139 N v2 v3 v4 x8 I9 L10))) else some (none, I, L)))
set_option maxRecDepth 100000 in
theorem E_X1_tryFilter_92 (N d : Nat) (v1 : Int32) (v2 : Int32) (v3 : Int32) (v4 : Int32) (I : PI) (L : PL) : EvW M_X1_tryFilter (d + 3) 92 [(0, .ref 1), (1, .int v1), (2, .int v2), (3, .int v3), (4, .int v4)] [] I L (F_X1_tryFilter_92 N v1 v2 v3 v4 I L) := by
  rw [F_X1_tryFilter_92]
  refine ev_iload (pc := 92) 4 dX1_tryFilter_92 rfl ?_
  refine ev_aload_n (pc := 94) 0 dX1_tryFilter_94 rfl ?_
  refine gf_X1_55 (pc := 95) rfl dX1_tryFilter_95 ?_
  refine ev_imul (pc := 98) dX1_tryFilter_98 ?_
  refine ev_aload_n (pc := 99) 0 dX1_tryFilter_99 rfl ?_
  refine gf_X1_52 (pc := 100) rfl dX1_tryFilter_100 ?_
  refine ev_iload_n (pc := 103) 3 dX1_tryFilter_103 rfl ?_
  refine ev_imul (pc := 104) dX1_tryFilter_104 ?_
  refine ev_isub (pc := 105) dX1_tryFilter_105 ?_
  refine ev_nmI (fun x7 => ?_)
  refine ev_istore (pc := 106) (lv' := [(5, .int x7), (0, .ref 1), (1, .int v1), (2, .int v2), (3, .int v3), (4, .int v4)]) dX1_tryFilter_106 rfl rfl ?_
  refine ev_iload (pc := 108) 0 dX1_tryFilter_108 rfl ?_
  refine ev_if_le (pc := 110) 114 (by decide) dX1_tryFilter_110 ?_ ?_
  · refine ev_aload_n (pc := 114) 1 dX1_tryFilter_114 rfl ?_
    refine gf_X1_15 (pc := 115) rfl dX1_tryFilter_115 ?_
    refine ev_iload_n (pc := 118) 2 dX1_tryFilter_118 rfl ?_
    refine ev_iload_n (pc := 119) 4 dX1_tryFilter_119 rfl ?_
    refine ev_callVI (pc := 120) (d := d + 2) (As := [.int v1, .int v3]) (st := []) cv_X4_loss rfl w_354 rfl (Nat.le_of_ble_eq_true rfl) (ok_X4_loss N (d + 1) v1 v3 I L) dX1_tryFilter_120 (fun x8 I9 L10 => ?_)
    refine ev_istore (pc := 123) (lv' := [(6, .int x8), (5, .int x7), (0, .ref 1), (1, .int v1), (2, .int v2), (3, .int v3), (4, .int v4)]) dX1_tryFilter_123 rfl rfl ?_
    refine ev_iload (pc := 125) 1 dX1_tryFilter_125 rfl ?_
    refine ev_if_lt (pc := 127) 139 (by decide) dX1_tryFilter_127 ?_ ?_
    · refine EvW.sub [2, 4, 5, 6, 0] rfl ?_
      exact E_X1_tryFilter_139 N d v2 v3 v4 x8 I9 L10
    · refine ev_iload (pc := 130) 0 dX1_tryFilter_130 rfl ?_
      refine ev_aload_n (pc := 132) 2 dX1_tryFilter_132 rfl ?_
      refine gf_X1_58 (pc := 133) rfl dX1_tryFilter_133 ?_
      refine ev_icmp_le (pc := 136) 161 (by decide) dX1_tryFilter_136 ?_ ?_
      · exact ev_vret (pc := 161) rfl dX1_tryFilter_161
      · refine EvW.sub [2, 4, 5, 6, 0] rfl ?_
        exact E_X1_tryFilter_139 N d v2 v3 v4 x8 I9 L10
  · exact ev_vret (pc := 113) rfl dX1_tryFilter_113
def F_X1_tryFilter_18 (N : Nat) : Nat → Int32 → Int32 → Int32 → Int32 → Int32 → PI → PL → RES
  | 0, _, _, _, _, _, _, _ => none
  | n + 1, v1, v2, v3, v4, v5, I, L => bI (f_X3_lengthOf N v1 I L) (fun x4 I5 L6 => (if x4 ≤ v5 then F_X1_tryFilter_92 N v1 v2 v3 v4 I5 L6 else (if ((I5 1 5) * v3) < (v4 * (I5 1 6)) then F_X1_tryFilter_92 N v1 v2 v3 v4 I5 L6 else bI (f_X4_powerOf N v1 v1 v5 0 I5 L6) (fun x15 I16 L17 => nmI (jmax v4 x15) (fun x18 => bI (f_X4_powerOf N v1 v1 (-v5) 0 I16 L17) (fun x19 I20 L21 => nmI (jmax x18 x19) (fun x22 => (F_X1_tryFilter_18 N n) v1 v2 v3 x22 (v5 + 1) I20 L21)))))))
set_option maxRecDepth 100000 in
theorem E_X1_tryFilter_18 (N d : Nat) : ∀ (n : Nat) (v1 : Int32) (v2 : Int32) (v3 : Int32) (v4 : Int32) (v5 : Int32) (I : PI) (L : PL), EvW M_X1_tryFilter (d + 3) 18 [(0, .ref 1), (1, .int v1), (2, .int v2), (3, .int v3), (4, .int v4), (5, .int v5)] [] I L (F_X1_tryFilter_18 N n v1 v2 v3 v4 v5 I L) := by
  intro n
  induction n with
  | zero =>
    intro v1 v2 v3 v4 v5 I L
    exact EvW.none
  | succ n hr_18 =>
    intro v1 v2 v3 v4 v5 I L
    rw [F_X1_tryFilter_18]
    refine ev_iload (pc := 18) 5 dX1_tryFilter_18 rfl ?_
    refine ev_aload_n (pc := 20) 0 dX1_tryFilter_20 rfl ?_
    refine gf_X1_9 (pc := 21) rfl dX1_tryFilter_21 ?_
    refine ev_iload_n (pc := 24) 1 dX1_tryFilter_24 rfl ?_
    refine ev_callVI (pc := 25) (d := d + 2) (As := [.int v1]) (st := [.int v5]) cv_X3_lengthOf rfl w_347 rfl (Nat.le_of_ble_eq_true rfl) (ok_X3_lengthOf N (d + 2) v1 I L) dX1_tryFilter_25 (fun x4 I5 L6 => ?_)
    refine ev_icmp_ge (pc := 28) 92 (by decide) dX1_tryFilter_28 ?_ ?_
    · refine EvW.sub [0, 1, 2, 3, 4] rfl ?_
      exact E_X1_tryFilter_92 N d v1 v2 v3 v4 I5 L6
    · refine ev_iload (pc := 31) 4 dX1_tryFilter_31 rfl ?_
      refine ev_aload_n (pc := 33) 0 dX1_tryFilter_33 rfl ?_
      refine gf_X1_55 (pc := 34) rfl dX1_tryFilter_34 ?_
      refine ev_imul (pc := 37) dX1_tryFilter_37 ?_
      refine ev_aload_n (pc := 38) 0 dX1_tryFilter_38 rfl ?_
      refine gf_X1_52 (pc := 39) rfl dX1_tryFilter_39 ?_
      refine ev_iload_n (pc := 42) 3 dX1_tryFilter_42 rfl ?_
      refine ev_imul (pc := 43) dX1_tryFilter_43 ?_
      refine ev_icmp_gt (pc := 44) 92 (by decide) dX1_tryFilter_44 ?_ ?_
      · refine EvW.sub [0, 1, 2, 3, 4] rfl ?_
        exact E_X1_tryFilter_92 N d v1 v2 v3 v4 I5 L6
      · refine ev_iload (pc := 47) 4 dX1_tryFilter_47 rfl ?_
        refine ev_aload_n (pc := 49) 0 dX1_tryFilter_49 rfl ?_
        refine gf_X1_15 (pc := 50) rfl dX1_tryFilter_50 ?_
        refine ev_iload_n (pc := 53) 1 dX1_tryFilter_53 rfl ?_
        refine ev_iload_n (pc := 54) 1 dX1_tryFilter_54 rfl ?_
        refine ev_iload (pc := 55) 5 dX1_tryFilter_55 rfl ?_
        refine ev_iconst (pc := 57) 0 k_iconst_0 dX1_tryFilter_57 ?_
        refine ev_callVI (pc := 58) (d := d + 2) (As := [.int v1, .int v1, .int v5, .int 0]) (st := [.int v4]) cv_X4_powerOf rfl w_355 rfl (Nat.le_of_ble_eq_true rfl) (ok_X4_powerOf N (d) v1 v1 v5 0 I5 L6) dX1_tryFilter_58 (fun x15 I16 L17 => ?_)
        refine ev_mmax (pc := 61) (d := d + 2) w_326 w_130 w_131 w_132 (Nat.le_of_ble_eq_true rfl) dX1_tryFilter_61 ?_
        refine ev_nmI (fun x18 => ?_)
        refine ev_istore (pc := 64) (lv' := [(4, .int x18), (0, .ref 1), (1, .int v1), (2, .int v2), (3, .int v3), (5, .int v5)]) dX1_tryFilter_64 rfl rfl ?_
        refine ev_iload (pc := 66) 0 dX1_tryFilter_66 rfl ?_
        refine ev_aload_n (pc := 68) 1 dX1_tryFilter_68 rfl ?_
        refine gf_X1_15 (pc := 69) rfl dX1_tryFilter_69 ?_
        refine ev_iload_n (pc := 72) 2 dX1_tryFilter_72 rfl ?_
        refine ev_iload_n (pc := 73) 2 dX1_tryFilter_73 rfl ?_
        refine ev_iload (pc := 74) 5 dX1_tryFilter_74 rfl ?_
        refine ev_ineg (pc := 76) dX1_tryFilter_76 ?_
        refine ev_iconst (pc := 77) 0 k_iconst_0 dX1_tryFilter_77 ?_
        refine ev_callVI (pc := 78) (d := d + 2) (As := [.int v1, .int v1, .int (-v5), .int 0]) (st := [.int x18]) cv_X4_powerOf rfl w_355 rfl (Nat.le_of_ble_eq_true rfl) (ok_X4_powerOf N (d) v1 v1 (-v5) 0 I16 L17) dX1_tryFilter_78 (fun x19 I20 L21 => ?_)
        refine ev_mmax (pc := 81) (d := d + 2) w_326 w_130 w_131 w_132 (Nat.le_of_ble_eq_true rfl) dX1_tryFilter_81 ?_
        refine ev_nmI (fun x22 => ?_)
        refine ev_istore (pc := 84) (lv' := [(4, .int x22), (0, .ref 1), (1, .int v1), (2, .int v2), (3, .int v3), (5, .int v5)]) dX1_tryFilter_84 rfl rfl ?_
        refine ev_iinc (pc := 86) (lv' := [(5, .int (v5 + 1)), (4, .int x22), (0, .ref 1), (1, .int v1), (2, .int v2), (3, .int v3)]) dX1_tryFilter_86 5 rfl rfl 1 k_iconst_1 rfl ?_
        refine ev_goto (pc := 89) 18 (by decide) dX1_tryFilter_89 ?_
        refine EvW.sub [2, 3, 4, 5, 1, 0] rfl ?_
        exact hr_18 v1 v2 v3 x22 (v5 + 1) I20 L21
def f_X1_tryFilter (N : Nat) (a1 : Int32) (a2 : Int32) (I : PI) (L : PL) : RES := bI (f_X1_tellFilter N a1 a2 I L) (fun x1 I2 L3 => (if x1 = 0 then some (none, I2, L3) else F_X1_tryFilter_18 N N a1 a2 x1 0 1 I2 L3))
set_option maxRecDepth 100000 in
theorem ok_X1_tryFilter (N d : Nat) (a1 : Int32) (a2 : Int32) (I : PI) (L : PL) : MOk M_X1_tryFilter (d + 3) [.ref 1, .int a1, .int a2] I L (f_X1_tryFilter N a1 a2 I L) := by
  refine MOk.of (by decide +kernel) (Nat.le_of_ble_eq_true rfl) ?_
  show EvW _ _ 0 [(0, .ref 1), (1, .int a1), (2, .int a2)] [] I L _
  rw [f_X1_tryFilter]
  refine ev_aload_n (pc := 0) 0 dX1_tryFilter_0 rfl ?_
  refine ev_iload_n (pc := 1) 1 dX1_tryFilter_1 rfl ?_
  refine ev_iload_n (pc := 2) 2 dX1_tryFilter_2 rfl ?_
  refine ev_callVI (pc := 3) (d := d + 2) (As := [.int a1, .int a2]) (st := []) cv_X1_tellFilter rfl w_353 rfl (Nat.le_of_ble_eq_true rfl) (ok_X1_tellFilter N (d + 1) a1 a2 I L) dX1_tryFilter_3 (fun x1 I2 L3 => ?_)
  refine ev_istore_n (pc := 6) (lv' := [(3, .int x1), (0, .ref 1), (1, .int a1), (2, .int a2)]) dX1_tryFilter_6 rfl rfl rfl ?_
  refine ev_iload_n (pc := 7) 0 dX1_tryFilter_7 rfl ?_
  refine ev_if_ne (pc := 8) 12 (by decide) dX1_tryFilter_8 ?_ ?_
  · refine ev_iconst (pc := 12) 0 k_iconst_0 dX1_tryFilter_12 ?_
    refine ev_istore (pc := 13) (lv' := [(4, .int 0), (3, .int x1), (0, .ref 1), (1, .int a1), (2, .int a2)]) dX1_tryFilter_13 rfl rfl ?_
    refine ev_iconst (pc := 15) 1 k_iconst_1 dX1_tryFilter_15 ?_
    refine ev_istore (pc := 16) (lv' := [(5, .int 1), (4, .int 0), (3, .int x1), (0, .ref 1), (1, .int a1), (2, .int a2)]) dX1_tryFilter_16 rfl rfl ?_
    refine EvW.sub [3, 4, 5, 2, 1, 0] rfl ?_
    exact E_X1_tryFilter_18 N d N a1 a2 x1 0 1 I2 L3
  · exact ev_vret (pc := 11) rfl dX1_tryFilter_11
def F_X1_findFilter_49 (N : Nat) : Nat → Int32 → Int32 → Int32 → PI → PL → RES
  | 0, _, _, _, _, _ => none
  | n + 1, v1, v2, v3, I, L => gd (decide (¬ 2 = 0)) ((if (v2 / 2) ≤ v3 then some (none, I, L) else bV (f_X1_tryFilter N v1 v3 I L) (fun I9 L10 => (F_X1_findFilter_49 N n) v1 v2 (v3 + 1) I9 L10)))
set_option maxRecDepth 100000 in
theorem E_X1_findFilter_49 (N d : Nat) : ∀ (n : Nat) (v1 : Int32) (v2 : Int32) (v3 : Int32) (I : PI) (L : PL), EvW M_X1_findFilter (d + 4) 49 [(0, .ref 1), (1, .int v1), (2, .int v2), (3, .int v3)] [] I L (F_X1_findFilter_49 N n v1 v2 v3 I L) := by
  intro n
  induction n with
  | zero =>
    intro v1 v2 v3 I L
    exact EvW.none
  | succ n hr_49 =>
    intro v1 v2 v3 I L
    rw [F_X1_findFilter_49]
    refine ev_iload_n (pc := 49) 3 dX1_findFilter_49 rfl ?_
    refine ev_iload_n (pc := 50) 2 dX1_findFilter_50 rfl ?_
    refine ev_iconst (pc := 51) 2 k_iconst_2 dX1_findFilter_51 ?_
    refine ev_idiv (pc := 52) dX1_findFilter_52 ?_
    refine ev_icmp_ge (pc := 53) 68 (by decide) dX1_findFilter_53 ?_ ?_
    · exact ev_vret (pc := 68) rfl dX1_findFilter_68
    · refine ev_aload_n (pc := 56) 0 dX1_findFilter_56 rfl ?_
      refine ev_iload_n (pc := 57) 1 dX1_findFilter_57 rfl ?_
      refine ev_iload_n (pc := 58) 3 dX1_findFilter_58 rfl ?_
      refine ev_callVV (pc := 59) (d := d + 3) (As := [.int v1, .int v3]) (st := []) cv_X1_tryFilter rfl w_359 rfl (Nat.le_of_ble_eq_true rfl) (ok_X1_tryFilter N (d) v1 v3 I L) dX1_findFilter_59 (fun I9 L10 => ?_)
      refine ev_iinc (pc := 62) (lv' := [(3, .int (v3 + 1)), (0, .ref 1), (1, .int v1), (2, .int v2)]) dX1_findFilter_62 3 rfl rfl 1 k_iconst_1 rfl ?_
      refine ev_goto (pc := 65) 49 (by decide) dX1_findFilter_65 ?_
      refine EvW.sub [1, 2, 3, 0] rfl ?_
      exact hr_49 v1 v2 (v3 + 1) I9 L10
def F_X1_findFilter_4 (N : Nat) : Nat → Int32 → Int32 → Int32 → PI → PL → RES
  | 0, _, _, _, _, _ => none
  | n + 1, v1, v2, v3, I, L => bI (f_X3_lengthOf N v1 I L) (fun x1 I2 L3 => (if x1 ≤ v3 then nmW (uI I2 1 4 (-1 : Int32)) (fun I4 => nmW (uI I4 1 5 1000000) (fun I5 => nmW (uI I5 1 6 1) (fun I6 => nmW (uI I6 1 7 0) (fun I7 => F_X1_findFilter_49 N N v1 v2 0 I7 L3)))) else nmI (v2 * 5) (fun x11 => (F_X1_findFilter_4 N n) v1 x11 (v3 + 1) I2 L3)))
set_option maxRecDepth 100000 in
theorem E_X1_findFilter_4 (N d : Nat) : ∀ (n : Nat) (v1 : Int32) (v2 : Int32) (v3 : Int32) (I : PI) (L : PL), EvW M_X1_findFilter (d + 4) 4 [(0, .ref 1), (1, .int v1), (2, .int v2), (3, .int v3)] [] I L (F_X1_findFilter_4 N n v1 v2 v3 I L) := by
  intro n
  induction n with
  | zero =>
    intro v1 v2 v3 I L
    exact EvW.none
  | succ n hr_4 =>
    intro v1 v2 v3 I L
    rw [F_X1_findFilter_4]
    refine ev_iload_n (pc := 4) 3 dX1_findFilter_4 rfl ?_
    refine ev_aload_n (pc := 5) 0 dX1_findFilter_5 rfl ?_
    refine gf_X1_9 (pc := 6) rfl dX1_findFilter_6 ?_
    refine ev_iload_n (pc := 9) 1 dX1_findFilter_9 rfl ?_
    refine ev_callVI (pc := 10) (d := d + 3) (As := [.int v1]) (st := [.int v3]) cv_X3_lengthOf rfl w_347 rfl (Nat.le_of_ble_eq_true rfl) (ok_X3_lengthOf N (d + 3) v1 I L) dX1_findFilter_10 (fun x1 I2 L3 => ?_)
    refine ev_icmp_ge (pc := 13) 26 (by decide) dX1_findFilter_13 ?_ ?_
    · refine ev_aload_n (pc := 26) 0 dX1_findFilter_26 rfl ?_
      refine ev_iconst (pc := 27) (-1 : Int32) k_iconst_m1 dX1_findFilter_27 ?_
      refine pf_X1_48 (pc := 28) rfl dX1_findFilter_28 ?_
      refine ev_nmW (fun I4 => ?_)
      refine ev_aload_n (pc := 31) 0 dX1_findFilter_31 rfl ?_
      refine ev_ldc (pc := 32) w_320 dX1_findFilter_32 ?_
      refine pf_X1_52 (pc := 34) rfl dX1_findFilter_34 ?_
      refine ev_nmW (fun I5 => ?_)
      refine ev_aload_n (pc := 37) 0 dX1_findFilter_37 rfl ?_
      refine ev_iconst (pc := 38) 1 k_iconst_1 dX1_findFilter_38 ?_
      refine pf_X1_55 (pc := 39) rfl dX1_findFilter_39 ?_
      refine ev_nmW (fun I6 => ?_)
      refine ev_aload_n (pc := 42) 0 dX1_findFilter_42 rfl ?_
      refine ev_iconst (pc := 43) 0 k_iconst_0 dX1_findFilter_43 ?_
      refine pf_X1_58 (pc := 44) rfl dX1_findFilter_44 ?_
      refine ev_nmW (fun I7 => ?_)
      refine ev_iconst (pc := 47) 0 k_iconst_0 dX1_findFilter_47 ?_
      refine ev_istore_n (pc := 48) (lv' := [(3, .int 0), (0, .ref 1), (1, .int v1), (2, .int v2)]) dX1_findFilter_48 rfl rfl rfl ?_
      refine EvW.sub [1, 2, 3, 0] rfl ?_
      exact E_X1_findFilter_49 N d N v1 v2 0 I7 L3
    · refine ev_iload_n (pc := 16) 2 dX1_findFilter_16 rfl ?_
      refine ev_iconst (pc := 17) 5 k_iconst_5 dX1_findFilter_17 ?_
      refine ev_imul (pc := 18) dX1_findFilter_18 ?_
      refine ev_nmI (fun x11 => ?_)
      refine ev_istore_n (pc := 19) (lv' := [(2, .int x11), (0, .ref 1), (1, .int v1), (3, .int v3)]) dX1_findFilter_19 rfl rfl rfl ?_
      refine ev_iinc (pc := 20) (lv' := [(3, .int (v3 + 1)), (2, .int x11), (0, .ref 1), (1, .int v1)]) dX1_findFilter_20 3 rfl rfl 1 k_iconst_1 rfl ?_
      refine ev_goto (pc := 23) 4 (by decide) dX1_findFilter_23 ?_
      refine EvW.sub [2, 3, 1, 0] rfl ?_
      exact hr_4 v1 x11 (v3 + 1) I2 L3
def f_X1_findFilter (N : Nat) (a1 : Int32) (I : PI) (L : PL) : RES := F_X1_findFilter_4 N N a1 1 0 I L
set_option maxRecDepth 100000 in
theorem ok_X1_findFilter (N d : Nat) (a1 : Int32) (I : PI) (L : PL) : MOk M_X1_findFilter (d + 4) [.ref 1, .int a1] I L (f_X1_findFilter N a1 I L) := by
  refine MOk.of (by decide +kernel) (Nat.le_of_ble_eq_true rfl) ?_
  show EvW _ _ 0 [(0, .ref 1), (1, .int a1)] [] I L _
  rw [f_X1_findFilter]
  refine ev_iconst (pc := 0) 1 k_iconst_1 dX1_findFilter_0 ?_
  refine ev_istore_n (pc := 1) (lv' := [(2, .int 1), (0, .ref 1), (1, .int a1)]) dX1_findFilter_1 rfl rfl rfl ?_
  refine ev_iconst (pc := 2) 0 k_iconst_0 dX1_findFilter_2 ?_
  refine ev_istore_n (pc := 3) (lv' := [(3, .int 0), (2, .int 1), (0, .ref 1), (1, .int a1)]) dX1_findFilter_3 rfl rfl rfl ?_
  refine EvW.sub [2, 3, 1, 0] rfl ?_
  exact E_X1_findFilter_4 N d N a1 1 0 I L
def f_X1_keepIn_r24 (N : Nat) (a1 : Int32) (I : PI) (L : PL) : RES := nmI (a1 * 4) (fun x1 => (if x1 < 0 then some (none, I, L) else (if 32 ≤ (x1 + 3) then some (none, I, L) else gd (inb x1 32) (nmW (uI I 24 (Int32.toNatClampNeg x1) (I 1 4)) (fun I2 => gd (inb (x1 + 1) 32) (nmW (uI I2 24 (Int32.toNatClampNeg (x1 + 1)) (I2 1 5)) (fun I3 => gd (inb (x1 + 2) 32) (nmW (uI I3 24 (Int32.toNatClampNeg (x1 + 2)) (I3 1 6)) (fun I4 => gd (inb (x1 + 3) 32) (nmW (uI I4 24 (Int32.toNatClampNeg (x1 + 3)) (I4 1 7)) (fun I5 => some (none, I5, L))))))))))))
set_option maxRecDepth 100000 in
theorem ok_X1_keepIn_r24 (N d : Nat) (a1 : Int32) (I : PI) (L : PL) : MOk M_X1_keepIn (d) [.ref 1, .ref 24, .int a1] I L (f_X1_keepIn_r24 N a1 I L) := by
  refine MOk.of (by decide +kernel) (Nat.le_of_ble_eq_true rfl) ?_
  show EvW _ _ 0 [(0, .ref 1), (1, .ref 24), (2, .int a1)] [] I L _
  rw [f_X1_keepIn_r24]
  refine ev_iload_n (pc := 0) 2 dX1_keepIn_0 rfl ?_
  refine ev_iconst (pc := 1) 4 k_iconst_4 dX1_keepIn_1 ?_
  refine ev_imul (pc := 2) dX1_keepIn_2 ?_
  refine ev_nmI (fun x1 => ?_)
  refine ev_istore_n (pc := 3) (lv' := [(3, .int x1), (0, .ref 1), (1, .ref 24), (2, .int a1)]) dX1_keepIn_3 rfl rfl rfl ?_
  refine ev_iload_n (pc := 4) 0 dX1_keepIn_4 rfl ?_
  refine ev_if_lt (pc := 5) 50 (by decide) dX1_keepIn_5 ?_ ?_
  · exact ev_vret (pc := 50) rfl dX1_keepIn_50
  · refine ev_iload_n (pc := 8) 0 dX1_keepIn_8 rfl ?_
    refine ev_iconst (pc := 9) 3 k_iconst_3 dX1_keepIn_9 ?_
    refine ev_iadd (pc := 10) dX1_keepIn_10 ?_
    refine ev_aload_n (pc := 11) 2 dX1_keepIn_11 rfl ?_
    refine ev_alenI (pc := 12) 32 (by decide +kernel) kK_24 dX1_keepIn_12 ?_
    refine ev_icmp_ge (pc := 13) 50 (by decide) dX1_keepIn_13 ?_ ?_
    · exact ev_vret (pc := 50) rfl dX1_keepIn_50
    · refine ev_aload_n (pc := 16) 2 dX1_keepIn_16 rfl ?_
      refine ev_iload_n (pc := 17) 0 dX1_keepIn_17 rfl ?_
      refine ev_aload_n (pc := 18) 1 dX1_keepIn_18 rfl ?_
      refine gf_X1_48 (pc := 19) rfl dX1_keepIn_19 ?_
      refine ev_iast (pc := 22) kK_24 dX1_keepIn_22 ?_
      refine ev_nmW (fun I2 => ?_)
      refine ev_aload_n (pc := 23) 2 dX1_keepIn_23 rfl ?_
      refine ev_iload_n (pc := 24) 0 dX1_keepIn_24 rfl ?_
      refine ev_iconst (pc := 25) 1 k_iconst_1 dX1_keepIn_25 ?_
      refine ev_iadd (pc := 26) dX1_keepIn_26 ?_
      refine ev_aload_n (pc := 27) 1 dX1_keepIn_27 rfl ?_
      refine gf_X1_52 (pc := 28) rfl dX1_keepIn_28 ?_
      refine ev_iast (pc := 31) kK_24 dX1_keepIn_31 ?_
      refine ev_nmW (fun I3 => ?_)
      refine ev_aload_n (pc := 32) 2 dX1_keepIn_32 rfl ?_
      refine ev_iload_n (pc := 33) 0 dX1_keepIn_33 rfl ?_
      refine ev_iconst (pc := 34) 2 k_iconst_2 dX1_keepIn_34 ?_
      refine ev_iadd (pc := 35) dX1_keepIn_35 ?_
      refine ev_aload_n (pc := 36) 1 dX1_keepIn_36 rfl ?_
      refine gf_X1_55 (pc := 37) rfl dX1_keepIn_37 ?_
      refine ev_iast (pc := 40) kK_24 dX1_keepIn_40 ?_
      refine ev_nmW (fun I4 => ?_)
      refine ev_aload_n (pc := 41) 2 dX1_keepIn_41 rfl ?_
      refine ev_iload_n (pc := 42) 0 dX1_keepIn_42 rfl ?_
      refine ev_iconst (pc := 43) 3 k_iconst_3 dX1_keepIn_43 ?_
      refine ev_iadd (pc := 44) dX1_keepIn_44 ?_
      refine ev_aload_n (pc := 45) 1 dX1_keepIn_45 rfl ?_
      refine gf_X1_58 (pc := 46) rfl dX1_keepIn_46 ?_
      refine ev_iast (pc := 49) kK_24 dX1_keepIn_49 ?_
      refine ev_nmW (fun I5 => ?_)
      exact ev_vret (pc := 50) rfl dX1_keepIn_50
def F_X1_filterOf_48 (N : Nat) (v1 : Int32) (v2 : Int32) (I : PI) (L : PL) : RES := gd (inb ((v1 * 4) + v2) 32) (some (some (.int (I 24 (Int32.toNatClampNeg ((v1 * 4) + v2)))), I, L))
set_option maxRecDepth 100000 in
theorem E_X1_filterOf_48 (N d : Nat) (v1 : Int32) (v2 : Int32) (I : PI) (L : PL) : EvW M_X1_filterOf (d + 5) 48 [(0, .ref 1), (1, .int v1), (2, .int v2)] [] I L (F_X1_filterOf_48 N v1 v2 I L) := by
  rw [F_X1_filterOf_48]
  refine ev_aload_n (pc := 48) 0 dX1_filterOf_48 rfl ?_
  refine gf_X1_25 (pc := 49) rfl dX1_filterOf_49 ?_
  refine ev_iload_n (pc := 52) 1 dX1_filterOf_52 rfl ?_
  refine ev_iconst (pc := 53) 4 k_iconst_4 dX1_filterOf_53 ?_
  refine ev_imul (pc := 54) dX1_filterOf_54 ?_
  refine ev_iload_n (pc := 55) 2 dX1_filterOf_55 rfl ?_
  refine ev_iadd (pc := 56) dX1_filterOf_56 ?_
  refine ev_iald (pc := 57) kK_24 dX1_filterOf_57 ?_
  exact ev_iret (pc := 58) rfl dX1_filterOf_58
def f_X1_filterOf (N : Nat) (a1 : Int32) (a2 : Int32) (I : PI) (L : PL) : RES := bI (f_X3_has N a1 I L) (fun x1 I2 L3 => (if x1 = 0 then some (some (.int (-1 : Int32)), I2, L3) else (if a2 < 0 then some (some (.int (-1 : Int32)), I2, L3) else (if a2 < 4 then gd (inb (a1 * 4) 32) ((if (I2 24 (Int32.toNatClampNeg (a1 * 4))) = (-1 : Int32) then bV (f_X1_findFilter N a1 I2 L3) (fun I5 L6 => bV (f_X1_keepIn_r24 N a1 I5 L6) (fun I8 L9 => F_X1_filterOf_48 N a1 a2 I8 L9)) else F_X1_filterOf_48 N a1 a2 I2 L3)) else some (some (.int (-1 : Int32)), I2, L3)))))
set_option maxRecDepth 100000 in
theorem ok_X1_filterOf (N d : Nat) (a1 : Int32) (a2 : Int32) (I : PI) (L : PL) : MOk M_X1_filterOf (d + 5) [.ref 1, .int a1, .int a2] I L (f_X1_filterOf N a1 a2 I L) := by
  refine MOk.of (by decide +kernel) (Nat.le_of_ble_eq_true rfl) ?_
  show EvW _ _ 0 [(0, .ref 1), (1, .int a1), (2, .int a2)] [] I L _
  rw [f_X1_filterOf]
  refine ev_aload_n (pc := 0) 0 dX1_filterOf_0 rfl ?_
  refine gf_X1_9 (pc := 1) rfl dX1_filterOf_1 ?_
  refine ev_iload_n (pc := 4) 1 dX1_filterOf_4 rfl ?_
  refine ev_callVI (pc := 5) (d := d + 4) (As := [.int a1]) (st := []) cv_X3_has rfl w_345 rfl (Nat.le_of_ble_eq_true rfl) (ok_X3_has N (d + 4) a1 I L) dX1_filterOf_5 (fun x1 I2 L3 => ?_)
  refine ev_if_eq (pc := 8) 20 (by decide) dX1_filterOf_8 ?_ ?_
  · refine ev_iconst (pc := 20) (-1 : Int32) k_iconst_m1 dX1_filterOf_20 ?_
    exact ev_iret (pc := 21) rfl dX1_filterOf_21
  · refine ev_iload_n (pc := 11) 2 dX1_filterOf_11 rfl ?_
    refine ev_if_lt (pc := 12) 20 (by decide) dX1_filterOf_12 ?_ ?_
    · refine ev_iconst (pc := 20) (-1 : Int32) k_iconst_m1 dX1_filterOf_20 ?_
      exact ev_iret (pc := 21) rfl dX1_filterOf_21
    · refine ev_iload_n (pc := 15) 2 dX1_filterOf_15 rfl ?_
      refine ev_iconst (pc := 16) 4 k_iconst_4 dX1_filterOf_16 ?_
      refine ev_icmp_lt (pc := 17) 22 (by decide) dX1_filterOf_17 ?_ ?_
      · refine ev_aload_n (pc := 22) 0 dX1_filterOf_22 rfl ?_
        refine gf_X1_25 (pc := 23) rfl dX1_filterOf_23 ?_
        refine ev_iload_n (pc := 26) 1 dX1_filterOf_26 rfl ?_
        refine ev_iconst (pc := 27) 4 k_iconst_4 dX1_filterOf_27 ?_
        refine ev_imul (pc := 28) dX1_filterOf_28 ?_
        refine ev_iald (pc := 29) kK_24 dX1_filterOf_29 ?_
        refine ev_iconst (pc := 30) (-1 : Int32) k_iconst_m1 dX1_filterOf_30 ?_
        refine ev_icmp_ne (pc := 31) 48 (by decide) dX1_filterOf_31 ?_ ?_
        · exact E_X1_filterOf_48 N d a1 a2 I2 L3
        · refine ev_aload_n (pc := 34) 0 dX1_filterOf_34 rfl ?_
          refine ev_iload_n (pc := 35) 1 dX1_filterOf_35 rfl ?_
          refine ev_callVV (pc := 36) (d := d + 4) (As := [.int a1]) (st := []) cv_X1_findFilter rfl w_363 rfl (Nat.le_of_ble_eq_true rfl) (ok_X1_findFilter N (d) a1 I2 L3) dX1_filterOf_36 (fun I5 L6 => ?_)
          refine ev_aload_n (pc := 39) 0 dX1_filterOf_39 rfl ?_
          refine ev_aload_n (pc := 40) 0 dX1_filterOf_40 rfl ?_
          refine gf_X1_25 (pc := 41) rfl dX1_filterOf_41 ?_
          refine ev_iload_n (pc := 44) 1 dX1_filterOf_44 rfl ?_
          refine ev_callVV (pc := 45) (d := d + 4) (As := [.ref 24, .int a1]) (st := []) cv_X1_keepIn rfl w_339 rfl (Nat.le_of_ble_eq_true rfl) (ok_X1_keepIn_r24 N (d + 4) a1 I5 L6) dX1_filterOf_45 (fun I8 L9 => ?_)
          exact E_X1_filterOf_48 N d a1 a2 I8 L9
      · refine ev_iconst (pc := 20) (-1 : Int32) k_iconst_m1 dX1_filterOf_20 ?_
        exact ev_iret (pc := 21) rfl dX1_filterOf_21
def f_X11_filter (N : Nat) (a1 : Int32) (a2 : Int32) (I : PI) (L : PL) : RES := bI (f_X3_has N a1 I L) (fun x1 I2 L3 => (if x1 = 0 then some (some (.int (-1 : Int32)), I2, L3) else bI (f_X3_lengthOf N a1 I2 L3) (fun x4 I5 L6 => (if 6 < x4 then some (some (.int (-1 : Int32)), I5, L6) else bI (f_X11_within N a2 0 3 I5 L6) (fun x7 I8 L9 => (if x7 = 0 then some (some (.int (-1 : Int32)), I8, L9) else bI (f_X1_filterOf N a1 a2 I8 L9) (fun x10 I11 L12 => some (some (.int x10), I11, L12))))))))
set_option maxRecDepth 100000 in
theorem ok_X11_filter (N d : Nat) (a1 : Int32) (a2 : Int32) (I : PI) (L : PL) : MOk M_X11_filter (d + 6) [.ref 11, .int a1, .int a2] I L (f_X11_filter N a1 a2 I L) := by
  refine MOk.of (by decide +kernel) (Nat.le_of_ble_eq_true rfl) ?_
  show EvW _ _ 0 [(0, .ref 11), (1, .int a1), (2, .int a2)] [] I L _
  rw [f_X11_filter]
  refine ev_aload_n (pc := 0) 0 dX11_filter_0 rfl ?_
  refine gf_X11_23 (pc := 1) rfl dX11_filter_1 ?_
  refine ev_iload_n (pc := 4) 1 dX11_filter_4 rfl ?_
  refine ev_callVI (pc := 5) (d := d + 5) (As := [.int a1]) (st := []) cv_X3_has rfl w_266 rfl (Nat.le_of_ble_eq_true rfl) (ok_X3_has N (d + 5) a1 I L) dX11_filter_5 (fun x1 I2 L3 => ?_)
  refine ev_if_eq (pc := 8) 33 (by decide) dX11_filter_8 ?_ ?_
  · refine ev_iconst (pc := 33) (-1 : Int32) k_iconst_m1 dX11_filter_33 ?_
    exact ev_iret (pc := 34) rfl dX11_filter_34
  · refine ev_aload_n (pc := 11) 0 dX11_filter_11 rfl ?_
    refine gf_X11_23 (pc := 12) rfl dX11_filter_12 ?_
    refine ev_iload_n (pc := 15) 1 dX11_filter_15 rfl ?_
    refine ev_callVI (pc := 16) (d := d + 5) (As := [.int a1]) (st := []) cv_X3_lengthOf rfl w_272 rfl (Nat.le_of_ble_eq_true rfl) (ok_X3_lengthOf N (d + 5) a1 I2 L3) dX11_filter_16 (fun x4 I5 L6 => ?_)
    refine ev_bipush (pc := 19) 6 k_bipush_6 dX11_filter_19 ?_
    refine ev_icmp_gt (pc := 21) 33 (by decide) dX11_filter_21 ?_ ?_
    · refine ev_iconst (pc := 33) (-1 : Int32) k_iconst_m1 dX11_filter_33 ?_
      exact ev_iret (pc := 34) rfl dX11_filter_34
    · refine ev_iload_n (pc := 24) 2 dX11_filter_24 rfl ?_
      refine ev_iconst (pc := 25) 0 k_iconst_0 dX11_filter_25 ?_
      refine ev_iconst (pc := 26) 3 k_iconst_3 dX11_filter_26 ?_
      refine ev_callSI (pc := 27) (d := d + 5) (As := [.int a2, .int 0, .int 3]) (st := []) cv_X11_within rfl w_18 rfl (Nat.le_of_ble_eq_true rfl) (ok_X11_within N (d + 5) a2 0 3 I5 L6) dX11_filter_27 (fun x7 I8 L9 => ?_)
      refine ev_if_ne (pc := 30) 35 (by decide) dX11_filter_30 ?_ ?_
      · refine ev_aload_n (pc := 35) 0 dX11_filter_35 rfl ?_
        refine gf_X11_57 (pc := 36) rfl dX11_filter_36 ?_
        refine ev_iload_n (pc := 39) 1 dX11_filter_39 rfl ?_
        refine ev_iload_n (pc := 40) 2 dX11_filter_40 rfl ?_
        refine ev_callVI (pc := 41) (d := d + 5) (As := [.int a1, .int a2]) (st := []) cv_X1_filterOf rfl w_367 rfl (Nat.le_of_ble_eq_true rfl) (ok_X1_filterOf N (d) a1 a2 I8 L9) dX11_filter_41 (fun x10 I11 L12 => ?_)
        exact ev_iret (pc := 44) rfl dX11_filter_44
      · refine ev_iconst (pc := 33) (-1 : Int32) k_iconst_m1 dX11_filter_33 ?_
        exact ev_iret (pc := 34) rfl dX11_filter_34
def f_X11_set (N : Nat) (a1 : Int32) (a2 : Int32) (I : PI) (L : PL) : RES := bI (f_X11_within N a1 0 5 I L) (fun x1 I2 L3 => (if x1 = 0 then gd (decide (0 &&& 1 = 0)) (some (some (.int 0), I2, L3)) else gd (inb a1 6) (gd (inb a1 6) (bI (f_X11_within N a2 (gLeast (Int32.toNatClampNeg a1)) (gGreat (Int32.toNatClampNeg a1)) I2 L3) (fun x4 I5 L6 => (if x4 = 0 then gd (decide (0 &&& 1 = 0)) (some (some (.int 0), I5, L6)) else gd (inb a1 6) (nmW (uI I5 13 (Int32.toNatClampNeg a1) a2) (fun I7 => gd (decide (1 &&& 1 = 1)) (some (some (.int 1), I7, L6))))))))))
set_option maxRecDepth 100000 in
theorem ok_X11_set (N d : Nat) (a1 : Int32) (a2 : Int32) (I : PI) (L : PL) : MOk M_X11_set (d + 1) [.ref 11, .int a1, .int a2] I L (f_X11_set N a1 a2 I L) := by
  refine MOk.of (by decide +kernel) (Nat.le_of_ble_eq_true rfl) ?_
  show EvW _ _ 0 [(0, .ref 11), (1, .int a1), (2, .int a2)] [] I L _
  rw [f_X11_set]
  refine ev_iload_n (pc := 0) 1 dX11_set_0 rfl ?_
  refine ev_iconst (pc := 1) 0 k_iconst_0 dX11_set_1 ?_
  refine ev_iconst (pc := 2) 5 k_iconst_5 dX11_set_2 ?_
  refine ev_callSI (pc := 3) (d := d) (As := [.int a1, .int 0, .int 5]) (st := []) cv_X11_within rfl w_18 rfl (Nat.le_of_ble_eq_true rfl) (ok_X11_within N (d) a1 0 5 I L) dX11_set_3 (fun x1 I2 L3 => ?_)
  refine ev_if_eq (pc := 6) 26 (by decide) dX11_set_6 ?_ ?_
  · refine ev_iconst (pc := 26) 0 k_iconst_0 dX11_set_26 ?_
    exact ev_zret (pc := 27) rfl dX11_set_27
  · refine ev_iload_n (pc := 9) 2 dX11_set_9 rfl ?_
    refine ev_gets (pc := 10) (c9 := 1000) (nm := "LEAST_SETTINGS") (fun _ _ _ _ h => h.1) w_368 dX11_set_10 ?_
    refine ev_iload_n (pc := 13) 1 dX11_set_13 rfl ?_
    refine ev_tald (pc := 14) (g9 := gLeast) (fun _ _ _ _ h => h.2.2.1) (fun _ => rfl) dX11_set_14 ?_
    refine ev_gets (pc := 15) (c9 := 1001) (nm := "GREATEST_SETTINGS") (fun _ _ _ _ h => h.2.1) w_369 dX11_set_15 ?_
    refine ev_iload_n (pc := 18) 1 dX11_set_18 rfl ?_
    refine ev_tald (pc := 19) (g9 := gGreat) (fun _ _ _ _ h => h.2.2.2) (fun _ => rfl) dX11_set_19 ?_
    refine ev_callSI (pc := 20) (d := d) (As := [.int a2, .int (gLeast (Int32.toNatClampNeg a1)), .int (gGreat (Int32.toNatClampNeg a1))]) (st := []) cv_X11_within rfl w_18 rfl (Nat.le_of_ble_eq_true rfl) (ok_X11_within N (d) a2 (gLeast (Int32.toNatClampNeg a1)) (gGreat (Int32.toNatClampNeg a1)) I2 L3) dX11_set_20 (fun x4 I5 L6 => ?_)
    refine ev_if_ne (pc := 23) 28 (by decide) dX11_set_23 ?_ ?_
    · refine ev_aload_n (pc := 28) 0 dX11_set_28 rfl ?_
      refine gf_X11_7 (pc := 29) rfl dX11_set_29 ?_
      refine ev_iload_n (pc := 32) 1 dX11_set_32 rfl ?_
      refine ev_iload_n (pc := 33) 2 dX11_set_33 rfl ?_
      refine ev_iast (pc := 34) kK_13 dX11_set_34 ?_
      refine ev_nmW (fun I7 => ?_)
      refine ev_iconst (pc := 35) 1 k_iconst_1 dX11_set_35 ?_
      exact ev_zret (pc := 36) rfl dX11_set_36
    · refine ev_iconst (pc := 26) 0 k_iconst_0 dX11_set_26 ?_
      exact ev_zret (pc := 27) rfl dX11_set_27
def f_X8_remainder (N : Nat) (a1 : Int32) (a2 : Int32) (I : PI) (L : PL) : RES := (if a2 ≤ 0 then some (some (.int 0), I, L) else gd (decide (¬ a2 = 0)) (some (some (.int (jirem a1 a2)), I, L)))
set_option maxRecDepth 100000 in
theorem ok_X8_remainder (N d : Nat) (a1 : Int32) (a2 : Int32) (I : PI) (L : PL) : MOk M_X8_remainder (d) [.int a1, .int a2] I L (f_X8_remainder N a1 a2 I L) := by
  refine MOk.of (by decide +kernel) (Nat.le_of_ble_eq_true rfl) ?_
  show EvW _ _ 0 [(0, .int a1), (1, .int a2)] [] I L _
  rw [f_X8_remainder]
  refine ev_iload_n (pc := 0) 1 dX8_remainder_0 rfl ?_
  refine ev_if_le (pc := 1) 10 (by decide) dX8_remainder_1 ?_ ?_
  · refine ev_iconst (pc := 10) 0 k_iconst_0 dX8_remainder_10 ?_
    exact ev_iret (pc := 11) rfl dX8_remainder_11
  · refine ev_iload_n (pc := 4) 0 dX8_remainder_4 rfl ?_
    refine ev_iload_n (pc := 5) 1 dX8_remainder_5 rfl ?_
    refine ev_irem (pc := 6) dX8_remainder_6 ?_
    refine ev_goto (pc := 7) 11 (by decide) dX8_remainder_7 ?_
    exact ev_iret (pc := 11) rfl dX8_remainder_11
def f_X8_isSeenBy (N : Nat) (a1 : Int32) (a2 : Int32) (I : PI) (L : PL) : RES := bI (f_X8_remainder N a2 a1 I L) (fun x1 I2 L3 => gd (inb 0 6) ((if x1 < (I2 13 (Int32.toNatClampNeg 0)) then gd (decide (0 &&& 1 = 0)) (some (some (.int 0), I2, L3)) else gd (decide (1 &&& 1 = 1)) (some (some (.int 1), I2, L3)))))
set_option maxRecDepth 100000 in
theorem ok_X8_isSeenBy (N d : Nat) (a1 : Int32) (a2 : Int32) (I : PI) (L : PL) : MOk M_X8_isSeenBy (d + 1) [.ref 8, .int a1, .int a2] I L (f_X8_isSeenBy N a1 a2 I L) := by
  refine MOk.of (by decide +kernel) (Nat.le_of_ble_eq_true rfl) ?_
  show EvW _ _ 0 [(0, .ref 8), (1, .int a1), (2, .int a2)] [] I L _
  rw [f_X8_isSeenBy]
  refine ev_iload_n (pc := 0) 2 dX8_isSeenBy_0 rfl ?_
  refine ev_iload_n (pc := 1) 1 dX8_isSeenBy_1 rfl ?_
  refine ev_callSI (pc := 2) (d := d) (As := [.int a2, .int a1]) (st := []) cv_X8_remainder rfl w_375 rfl (Nat.le_of_ble_eq_true rfl) (ok_X8_remainder N (d) a2 a1 I L) dX8_isSeenBy_2 (fun x1 I2 L3 => ?_)
  refine ev_aload_n (pc := 5) 0 dX8_isSeenBy_5 rfl ?_
  refine gf_X8_9 (pc := 6) rfl dX8_isSeenBy_6 ?_
  refine ev_iconst (pc := 9) 0 k_iconst_0 dX8_isSeenBy_9 ?_
  refine ev_iald (pc := 10) kK_13 dX8_isSeenBy_10 ?_
  refine ev_icmp_lt (pc := 11) 18 (by decide) dX8_isSeenBy_11 ?_ ?_
  · refine ev_iconst (pc := 18) 0 k_iconst_0 dX8_isSeenBy_18 ?_
    exact ev_zret (pc := 19) rfl dX8_isSeenBy_19
  · refine ev_iconst (pc := 14) 1 k_iconst_1 dX8_isSeenBy_14 ?_
    refine ev_goto (pc := 15) 19 (by decide) dX8_isSeenBy_15 ?_
    exact ev_zret (pc := 19) rfl dX8_isSeenBy_19
def F_X8_seeing_5 (N : Nat) : Nat → Int32 → Int32 → Int32 → Int32 → PI → PL → RES
  | 0, _, _, _, _, _, _ => none
  | n + 1, v1, v2, v3, v4, I, L => bI (f_X8_lengthOf N v1 I L) (fun x1 I2 L3 => (if x1 ≤ v4 then some (some (.int v3), I2, L3) else bI (f_X8_number N v1 v4 I2 L3) (fun x4 I5 L6 => bI (f_X8_isSeenBy N x4 v2 I5 L6) (fun x7 I8 L9 => (if x7 = 0 then (F_X8_seeing_5 N n) v1 v2 v3 (v4 + 1) I8 L9 else nmI (v3 ||| ((1 : Int32) <<< (v4 &&& 31))) (fun x10 => (F_X8_seeing_5 N n) v1 v2 x10 (v4 + 1) I8 L9))))))
set_option maxRecDepth 100000 in
theorem E_X8_seeing_5 (N d : Nat) : ∀ (n : Nat) (v1 : Int32) (v2 : Int32) (v3 : Int32) (v4 : Int32) (I : PI) (L : PL), EvW M_X8_seeing (d + 2) 5 [(0, .ref 8), (1, .int v1), (2, .int v2), (3, .int v3), (4, .int v4)] [] I L (F_X8_seeing_5 N n v1 v2 v3 v4 I L) := by
  intro n
  induction n with
  | zero =>
    intro v1 v2 v3 v4 I L
    exact EvW.none
  | succ n hr_5 =>
    intro v1 v2 v3 v4 I L
    rw [F_X8_seeing_5]
    refine ev_iload (pc := 5) 4 dX8_seeing_5 rfl ?_
    refine ev_aload_n (pc := 7) 0 dX8_seeing_7 rfl ?_
    refine ev_iload_n (pc := 8) 1 dX8_seeing_8 rfl ?_
    refine ev_callVI (pc := 9) (d := d + 1) (As := [.int v1]) (st := [.int v4]) cv_X8_lengthOf rfl w_371 rfl (Nat.le_of_ble_eq_true rfl) (ok_X8_lengthOf N (d + 1) v1 I L) dX8_seeing_9 (fun x1 I2 L3 => ?_)
    refine ev_icmp_ge (pc := 12) 43 (by decide) dX8_seeing_12 ?_ ?_
    · refine ev_iload_n (pc := 43) 3 dX8_seeing_43 rfl ?_
      exact ev_iret (pc := 44) rfl dX8_seeing_44
    · refine ev_aload_n (pc := 15) 0 dX8_seeing_15 rfl ?_
      refine ev_aload_n (pc := 16) 0 dX8_seeing_16 rfl ?_
      refine ev_iload_n (pc := 17) 1 dX8_seeing_17 rfl ?_
      refine ev_iload (pc := 18) 4 dX8_seeing_18 rfl ?_
      refine ev_callVI (pc := 20) (d := d + 1) (As := [.int v1, .int v4]) (st := [.ref 8]) cv_X8_number rfl w_372 rfl (Nat.le_of_ble_eq_true rfl) (ok_X8_number N (d) v1 v4 I2 L3) dX8_seeing_20 (fun x4 I5 L6 => ?_)
      refine ev_iload_n (pc := 23) 2 dX8_seeing_23 rfl ?_
      refine ev_callVI (pc := 24) (d := d + 1) (As := [.int x4, .int v2]) (st := []) cv_X8_isSeenBy rfl w_380 rfl (Nat.le_of_ble_eq_true rfl) (ok_X8_isSeenBy N (d) x4 v2 I5 L6) dX8_seeing_24 (fun x7 I8 L9 => ?_)
      refine ev_if_eq (pc := 27) 37 (by decide) dX8_seeing_27 ?_ ?_
      · refine ev_iinc (pc := 37) (lv' := [(4, .int (v4 + 1)), (0, .ref 8), (1, .int v1), (2, .int v2), (3, .int v3)]) dX8_seeing_37 4 rfl rfl 1 k_iconst_1 rfl ?_
        refine ev_goto (pc := 40) 5 (by decide) dX8_seeing_40 ?_
        refine EvW.sub [1, 2, 3, 4, 0] rfl ?_
        exact hr_5 v1 v2 v3 (v4 + 1) I8 L9
      · refine ev_iload_n (pc := 30) 3 dX8_seeing_30 rfl ?_
        refine ev_iconst (pc := 31) 1 k_iconst_1 dX8_seeing_31 ?_
        refine ev_iload (pc := 32) 4 dX8_seeing_32 rfl ?_
        refine ev_ishl (pc := 34) dX8_seeing_34 ?_
        refine ev_ior (pc := 35) dX8_seeing_35 ?_
        refine ev_nmI (fun x10 => ?_)
        refine ev_istore_n (pc := 36) (lv' := [(3, .int x10), (0, .ref 8), (1, .int v1), (2, .int v2), (4, .int v4)]) dX8_seeing_36 rfl rfl rfl ?_
        refine ev_iinc (pc := 37) (lv' := [(4, .int (v4 + 1)), (3, .int x10), (0, .ref 8), (1, .int v1), (2, .int v2)]) dX8_seeing_37 4 rfl rfl 1 k_iconst_1 rfl ?_
        refine ev_goto (pc := 40) 5 (by decide) dX8_seeing_40 ?_
        refine EvW.sub [2, 3, 4, 1, 0] rfl ?_
        exact hr_5 v1 v2 x10 (v4 + 1) I8 L9
def f_X8_seeing (N : Nat) (a1 : Int32) (a2 : Int32) (I : PI) (L : PL) : RES := F_X8_seeing_5 N N a1 a2 0 0 I L
set_option maxRecDepth 100000 in
theorem ok_X8_seeing (N d : Nat) (a1 : Int32) (a2 : Int32) (I : PI) (L : PL) : MOk M_X8_seeing (d + 2) [.ref 8, .int a1, .int a2] I L (f_X8_seeing N a1 a2 I L) := by
  refine MOk.of (by decide +kernel) (Nat.le_of_ble_eq_true rfl) ?_
  show EvW _ _ 0 [(0, .ref 8), (1, .int a1), (2, .int a2)] [] I L _
  rw [f_X8_seeing]
  refine ev_iconst (pc := 0) 0 k_iconst_0 dX8_seeing_0 ?_
  refine ev_istore_n (pc := 1) (lv' := [(3, .int 0), (0, .ref 8), (1, .int a1), (2, .int a2)]) dX8_seeing_1 rfl rfl rfl ?_
  refine ev_iconst (pc := 2) 0 k_iconst_0 dX8_seeing_2 ?_
  refine ev_istore (pc := 3) (lv' := [(4, .int 0), (3, .int 0), (0, .ref 8), (1, .int a1), (2, .int a2)]) dX8_seeing_3 rfl rfl ?_
  refine EvW.sub [2, 3, 4, 1, 0] rfl ?_
  exact E_X8_seeing_5 N d N a1 a2 0 0 I L
def f_X8_sees (N : Nat) (a1 : Int32) (a2 : Int32) (I : PI) (L : PL) : RES := bI (f_X8_seeing N a1 a2 I L) (fun x1 I2 L3 => bI (f_J6_bitCount_0f7a4 N x1 I2 L3) (fun x4 I5 L6 => gd (inb 1 6) ((if x4 < (I5 13 (Int32.toNatClampNeg 1)) then gd (decide (0 &&& 1 = 0)) (some (some (.int 0), I5, L6)) else gd (decide (1 &&& 1 = 1)) (some (some (.int 1), I5, L6))))))
set_option maxRecDepth 100000 in
theorem ok_X8_sees (N d : Nat) (a1 : Int32) (a2 : Int32) (I : PI) (L : PL) : MOk M_X8_sees (d + 3) [.ref 8, .int a1, .int a2] I L (f_X8_sees N a1 a2 I L) := by
  refine MOk.of (by decide +kernel) (Nat.le_of_ble_eq_true rfl) ?_
  show EvW _ _ 0 [(0, .ref 8), (1, .int a1), (2, .int a2)] [] I L _
  rw [f_X8_sees]
  refine ev_aload_n (pc := 0) 0 dX8_sees_0 rfl ?_
  refine ev_iload_n (pc := 1) 1 dX8_sees_1 rfl ?_
  refine ev_iload_n (pc := 2) 2 dX8_sees_2 rfl ?_
  refine ev_callVI (pc := 3) (d := d + 2) (As := [.int a1, .int a2]) (st := []) cv_X8_seeing rfl w_384 rfl (Nat.le_of_ble_eq_true rfl) (ok_X8_seeing N (d) a1 a2 I L) dX8_sees_3 (fun x1 I2 L3 => ?_)
  refine ev_callSI (pc := 6) (d := d + 2) (As := [.int x1]) (st := []) cv_J6_bitCount_0f7a4 rfl w_385 rfl (Nat.le_of_ble_eq_true rfl) (ok_J6_bitCount_0f7a4 N (d + 2) x1 I2 L3) dX8_sees_6 (fun x4 I5 L6 => ?_)
  refine ev_aload_n (pc := 9) 0 dX8_sees_9 rfl ?_
  refine gf_X8_9 (pc := 10) rfl dX8_sees_10 ?_
  refine ev_iconst (pc := 13) 1 k_iconst_1 dX8_sees_13 ?_
  refine ev_iald (pc := 14) kK_13 dX8_sees_14 ?_
  refine ev_icmp_lt (pc := 15) 22 (by decide) dX8_sees_15 ?_ ?_
  · refine ev_iconst (pc := 22) 0 k_iconst_0 dX8_sees_22 ?_
    exact ev_zret (pc := 23) rfl dX8_sees_23
  · refine ev_iconst (pc := 18) 1 k_iconst_1 dX8_sees_18 ?_
    refine ev_goto (pc := 19) 23 (by decide) dX8_sees_19 ?_
    exact ev_zret (pc := 23) rfl dX8_sees_23
def f_X11_seen (N : Nat) (a1 : Int32) (a2 : Int32) (I : PI) (L : PL) : RES := bI (f_X8_has N a1 I L) (fun x1 I2 L3 => (if x1 = 0 then some (some (.int (-1 : Int32)), I2, L3) else bI (f_X11_within N a2 0 999 I2 L3) (fun x4 I5 L6 => (if x4 = 0 then some (some (.int (-1 : Int32)), I5, L6) else bI (f_X8_sees N a1 a2 I5 L6) (fun x7 I8 L9 => (if x7 = 0 then some (some (.int 0), I8, L9) else some (some (.int 1), I8, L9)))))))
set_option maxRecDepth 100000 in
theorem ok_X11_seen (N d : Nat) (a1 : Int32) (a2 : Int32) (I : PI) (L : PL) : MOk M_X11_seen (d + 4) [.ref 11, .int a1, .int a2] I L (f_X11_seen N a1 a2 I L) := by
  refine MOk.of (by decide +kernel) (Nat.le_of_ble_eq_true rfl) ?_
  show EvW _ _ 0 [(0, .ref 11), (1, .int a1), (2, .int a2)] [] I L _
  rw [f_X11_seen]
  refine ev_aload_n (pc := 0) 0 dX11_seen_0 rfl ?_
  refine gf_X11_66 (pc := 1) rfl dX11_seen_1 ?_
  refine ev_iload_n (pc := 4) 1 dX11_seen_4 rfl ?_
  refine ev_callVI (pc := 5) (d := d + 3) (As := [.int a1]) (st := []) cv_X8_has rfl w_256 rfl (Nat.le_of_ble_eq_true rfl) (ok_X8_has N (d + 3) a1 I L) dX11_seen_5 (fun x1 I2 L3 => ?_)
  refine ev_if_eq (pc := 8) 22 (by decide) dX11_seen_8 ?_ ?_
  · refine ev_iconst (pc := 22) (-1 : Int32) k_iconst_m1 dX11_seen_22 ?_
    exact ev_iret (pc := 23) rfl dX11_seen_23
  · refine ev_iload_n (pc := 11) 2 dX11_seen_11 rfl ?_
    refine ev_iconst (pc := 12) 0 k_iconst_0 dX11_seen_12 ?_
    refine ev_sipush (pc := 13) 999 k_sipush_999 dX11_seen_13 ?_
    refine ev_callSI (pc := 16) (d := d + 3) (As := [.int a2, .int 0, .int 999]) (st := []) cv_X11_within rfl w_18 rfl (Nat.le_of_ble_eq_true rfl) (ok_X11_within N (d + 3) a2 0 999 I2 L3) dX11_seen_16 (fun x4 I5 L6 => ?_)
    refine ev_if_ne (pc := 19) 24 (by decide) dX11_seen_19 ?_ ?_
    · refine ev_aload_n (pc := 24) 0 dX11_seen_24 rfl ?_
      refine gf_X11_66 (pc := 25) rfl dX11_seen_25 ?_
      refine ev_iload_n (pc := 28) 1 dX11_seen_28 rfl ?_
      refine ev_iload_n (pc := 29) 2 dX11_seen_29 rfl ?_
      refine ev_callVI (pc := 30) (d := d + 3) (As := [.int a1, .int a2]) (st := []) cv_X8_sees rfl w_389 rfl (Nat.le_of_ble_eq_true rfl) (ok_X8_sees N (d) a1 a2 I5 L6) dX11_seen_30 (fun x7 I8 L9 => ?_)
      refine ev_if_eq (pc := 33) 40 (by decide) dX11_seen_33 ?_ ?_
      · refine ev_iconst (pc := 40) 0 k_iconst_0 dX11_seen_40 ?_
        exact ev_iret (pc := 41) rfl dX11_seen_41
      · refine ev_iconst (pc := 36) 1 k_iconst_1 dX11_seen_36 ?_
        refine ev_goto (pc := 37) 41 (by decide) dX11_seen_37 ?_
        exact ev_iret (pc := 41) rfl dX11_seen_41
    · refine ev_iconst (pc := 22) (-1 : Int32) k_iconst_m1 dX11_seen_22 ?_
      exact ev_iret (pc := 23) rfl dX11_seen_23
def F_X8_firstUnseen_2 (N : Nat) : Nat → Int32 → Int32 → Int32 → PI → PL → RES
  | 0, _, _, _, _, _ => none
  | n + 1, v1, v2, v3, I, L => (if v2 < v3 then some (some (.int (-1 : Int32)), I, L) else bI (f_X8_sees N v1 v3 I L) (fun x1 I2 L3 => (if x1 = 0 then some (some (.int v3), I2, L3) else (F_X8_firstUnseen_2 N n) v1 v2 (v3 + 1) I2 L3)))
set_option maxRecDepth 100000 in
theorem E_X8_firstUnseen_2 (N d : Nat) : ∀ (n : Nat) (v1 : Int32) (v2 : Int32) (v3 : Int32) (I : PI) (L : PL), EvW M_X8_firstUnseen (d + 4) 2 [(0, .ref 8), (1, .int v1), (2, .int v2), (3, .int v3)] [] I L (F_X8_firstUnseen_2 N n v1 v2 v3 I L) := by
  intro n
  induction n with
  | zero =>
    intro v1 v2 v3 I L
    exact EvW.none
  | succ n hr_2 =>
    intro v1 v2 v3 I L
    rw [F_X8_firstUnseen_2]
    refine ev_iload_n (pc := 2) 3 dX8_firstUnseen_2 rfl ?_
    refine ev_iload_n (pc := 3) 2 dX8_firstUnseen_3 rfl ?_
    refine ev_icmp_gt (pc := 4) 24 (by decide) dX8_firstUnseen_4 ?_ ?_
    · refine ev_iconst (pc := 24) (-1 : Int32) k_iconst_m1 dX8_firstUnseen_24 ?_
      exact ev_iret (pc := 25) rfl dX8_firstUnseen_25
    · refine ev_aload_n (pc := 7) 0 dX8_firstUnseen_7 rfl ?_
      refine ev_iload_n (pc := 8) 1 dX8_firstUnseen_8 rfl ?_
      refine ev_iload_n (pc := 9) 3 dX8_firstUnseen_9 rfl ?_
      refine ev_callVI (pc := 10) (d := d + 3) (As := [.int v1, .int v3]) (st := []) cv_X8_sees rfl w_390 rfl (Nat.le_of_ble_eq_true rfl) (ok_X8_sees N (d) v1 v3 I L) dX8_firstUnseen_10 (fun x1 I2 L3 => ?_)
      refine ev_if_ne (pc := 13) 18 (by decide) dX8_firstUnseen_13 ?_ ?_
      · refine ev_iinc (pc := 18) (lv' := [(3, .int (v3 + 1)), (0, .ref 8), (1, .int v1), (2, .int v2)]) dX8_firstUnseen_18 3 rfl rfl 1 k_iconst_1 rfl ?_
        refine ev_goto (pc := 21) 2 (by decide) dX8_firstUnseen_21 ?_
        refine EvW.sub [1, 2, 3, 0] rfl ?_
        exact hr_2 v1 v2 (v3 + 1) I2 L3
      · refine ev_iload_n (pc := 16) 3 dX8_firstUnseen_16 rfl ?_
        exact ev_iret (pc := 17) rfl dX8_firstUnseen_17
def f_X8_firstUnseen (N : Nat) (a1 : Int32) (a2 : Int32) (I : PI) (L : PL) : RES := F_X8_firstUnseen_2 N N a1 a2 1 I L
set_option maxRecDepth 100000 in
theorem ok_X8_firstUnseen (N d : Nat) (a1 : Int32) (a2 : Int32) (I : PI) (L : PL) : MOk M_X8_firstUnseen (d + 4) [.ref 8, .int a1, .int a2] I L (f_X8_firstUnseen N a1 a2 I L) := by
  refine MOk.of (by decide +kernel) (Nat.le_of_ble_eq_true rfl) ?_
  show EvW _ _ 0 [(0, .ref 8), (1, .int a1), (2, .int a2)] [] I L _
  rw [f_X8_firstUnseen]
  refine ev_iconst (pc := 0) 1 k_iconst_1 dX8_firstUnseen_0 ?_
  refine ev_istore_n (pc := 1) (lv' := [(3, .int 1), (0, .ref 8), (1, .int a1), (2, .int a2)]) dX8_firstUnseen_1 rfl rfl rfl ?_
  refine EvW.sub [1, 2, 3, 0] rfl ?_
  exact E_X8_firstUnseen_2 N d N a1 a2 1 I L
def F_X8_seenTo_5 (N : Nat) : Nat → Int32 → Int32 → Int32 → Int32 → PI → PL → RES
  | 0, _, _, _, _, _, _ => none
  | n + 1, v1, v2, v3, v4, I, L => (if v2 < v4 then some (some (.int v3), I, L) else bI (f_X8_sees N v1 v4 I L) (fun x1 I2 L3 => (if x1 = 0 then (F_X8_seenTo_5 N n) v1 v2 v3 (v4 + 1) I2 L3 else (F_X8_seenTo_5 N n) v1 v2 (v3 + 1) (v4 + 1) I2 L3)))
set_option maxRecDepth 100000 in
theorem E_X8_seenTo_5 (N d : Nat) : ∀ (n : Nat) (v1 : Int32) (v2 : Int32) (v3 : Int32) (v4 : Int32) (I : PI) (L : PL), EvW M_X8_seenTo (d + 4) 5 [(0, .ref 8), (1, .int v1), (2, .int v2), (3, .int v3), (4, .int v4)] [] I L (F_X8_seenTo_5 N n v1 v2 v3 v4 I L) := by
  intro n
  induction n with
  | zero =>
    intro v1 v2 v3 v4 I L
    exact EvW.none
  | succ n hr_5 =>
    intro v1 v2 v3 v4 I L
    rw [F_X8_seenTo_5]
    refine ev_iload (pc := 5) 4 dX8_seenTo_5 rfl ?_
    refine ev_iload_n (pc := 7) 2 dX8_seenTo_7 rfl ?_
    refine ev_icmp_gt (pc := 8) 30 (by decide) dX8_seenTo_8 ?_ ?_
    · refine ev_iload_n (pc := 30) 3 dX8_seenTo_30 rfl ?_
      exact ev_iret (pc := 31) rfl dX8_seenTo_31
    · refine ev_aload_n (pc := 11) 0 dX8_seenTo_11 rfl ?_
      refine ev_iload_n (pc := 12) 1 dX8_seenTo_12 rfl ?_
      refine ev_iload (pc := 13) 4 dX8_seenTo_13 rfl ?_
      refine ev_callVI (pc := 15) (d := d + 3) (As := [.int v1, .int v4]) (st := []) cv_X8_sees rfl w_390 rfl (Nat.le_of_ble_eq_true rfl) (ok_X8_sees N (d) v1 v4 I L) dX8_seenTo_15 (fun x1 I2 L3 => ?_)
      refine ev_if_eq (pc := 18) 24 (by decide) dX8_seenTo_18 ?_ ?_
      · refine ev_iinc (pc := 24) (lv' := [(4, .int (v4 + 1)), (0, .ref 8), (1, .int v1), (2, .int v2), (3, .int v3)]) dX8_seenTo_24 4 rfl rfl 1 k_iconst_1 rfl ?_
        refine ev_goto (pc := 27) 5 (by decide) dX8_seenTo_27 ?_
        refine EvW.sub [1, 2, 3, 4, 0] rfl ?_
        exact hr_5 v1 v2 v3 (v4 + 1) I2 L3
      · refine ev_iinc (pc := 21) (lv' := [(3, .int (v3 + 1)), (0, .ref 8), (1, .int v1), (2, .int v2), (4, .int v4)]) dX8_seenTo_21 3 rfl rfl 1 k_iconst_1 rfl ?_
        refine ev_iinc (pc := 24) (lv' := [(4, .int (v4 + 1)), (3, .int (v3 + 1)), (0, .ref 8), (1, .int v1), (2, .int v2)]) dX8_seenTo_24 4 rfl rfl 1 k_iconst_1 rfl ?_
        refine ev_goto (pc := 27) 5 (by decide) dX8_seenTo_27 ?_
        refine EvW.sub [2, 3, 4, 1, 0] rfl ?_
        exact hr_5 v1 v2 (v3 + 1) (v4 + 1) I2 L3
def f_X8_seenTo (N : Nat) (a1 : Int32) (a2 : Int32) (I : PI) (L : PL) : RES := F_X8_seenTo_5 N N a1 a2 0 1 I L
set_option maxRecDepth 100000 in
theorem ok_X8_seenTo (N d : Nat) (a1 : Int32) (a2 : Int32) (I : PI) (L : PL) : MOk M_X8_seenTo (d + 4) [.ref 8, .int a1, .int a2] I L (f_X8_seenTo N a1 a2 I L) := by
  refine MOk.of (by decide +kernel) (Nat.le_of_ble_eq_true rfl) ?_
  show EvW _ _ 0 [(0, .ref 8), (1, .int a1), (2, .int a2)] [] I L _
  rw [f_X8_seenTo]
  refine ev_iconst (pc := 0) 0 k_iconst_0 dX8_seenTo_0 ?_
  refine ev_istore_n (pc := 1) (lv' := [(3, .int 0), (0, .ref 8), (1, .int a1), (2, .int a2)]) dX8_seenTo_1 rfl rfl rfl ?_
  refine ev_iconst (pc := 2) 1 k_iconst_1 dX8_seenTo_2 ?_
  refine ev_istore (pc := 3) (lv' := [(4, .int 1), (3, .int 0), (0, .ref 8), (1, .int a1), (2, .int a2)]) dX8_seenTo_3 rfl rfl ?_
  refine EvW.sub [2, 3, 4, 1, 0] rfl ?_
  exact E_X8_seenTo_5 N d N a1 a2 0 1 I L
def f_X11_map (N : Nat) (a1 : Int32) (a2 : Int32) (a3 : Int32) (I : PI) (L : PL) : RES := bI (f_X8_has N a1 I L) (fun x1 I2 L3 => (if x1 = 0 then some (some (.int (-1000000 : Int32)), I2, L3) else bI (f_X11_within N a2 1 999 I2 L3) (fun x4 I5 L6 => (if x4 = 0 then some (some (.int (-1000000 : Int32)), I5, L6) else bI (f_X11_within N a3 0 1 I5 L6) (fun x7 I8 L9 => (if x7 = 0 then some (some (.int (-1000000 : Int32)), I8, L9) else (if a3 = 0 then bI (f_X8_seenTo N a1 a2 I8 L9) (fun x13 I14 L15 => some (some (.int x13), I14, L15)) else bI (f_X8_firstUnseen N a1 a2 I8 L9) (fun x10 I11 L12 => some (some (.int x10), I11, L12)))))))))
set_option maxRecDepth 100000 in
theorem ok_X11_map (N d : Nat) (a1 : Int32) (a2 : Int32) (a3 : Int32) (I : PI) (L : PL) : MOk M_X11_map (d + 5) [.ref 11, .int a1, .int a2, .int a3] I L (f_X11_map N a1 a2 a3 I L) := by
  refine MOk.of (by decide +kernel) (Nat.le_of_ble_eq_true rfl) ?_
  show EvW _ _ 0 [(0, .ref 11), (1, .int a1), (2, .int a2), (3, .int a3)] [] I L _
  rw [f_X11_map]
  refine ev_aload_n (pc := 0) 0 dX11_map_0 rfl ?_
  refine gf_X11_66 (pc := 1) rfl dX11_map_1 ?_
  refine ev_iload_n (pc := 4) 1 dX11_map_4 rfl ?_
  refine ev_callVI (pc := 5) (d := d + 4) (As := [.int a1]) (st := []) cv_X8_has rfl w_256 rfl (Nat.le_of_ble_eq_true rfl) (ok_X8_has N (d + 4) a1 I L) dX11_map_5 (fun x1 I2 L3 => ?_)
  refine ev_if_eq (pc := 8) 31 (by decide) dX11_map_8 ?_ ?_
  · refine ev_ldc (pc := 31) w_267 dX11_map_31 ?_
    exact ev_iret (pc := 33) rfl dX11_map_33
  · refine ev_iload_n (pc := 11) 2 dX11_map_11 rfl ?_
    refine ev_iconst (pc := 12) 1 k_iconst_1 dX11_map_12 ?_
    refine ev_sipush (pc := 13) 999 k_sipush_999 dX11_map_13 ?_
    refine ev_callSI (pc := 16) (d := d + 4) (As := [.int a2, .int 1, .int 999]) (st := []) cv_X11_within rfl w_18 rfl (Nat.le_of_ble_eq_true rfl) (ok_X11_within N (d + 4) a2 1 999 I2 L3) dX11_map_16 (fun x4 I5 L6 => ?_)
    refine ev_if_eq (pc := 19) 31 (by decide) dX11_map_19 ?_ ?_
    · refine ev_ldc (pc := 31) w_267 dX11_map_31 ?_
      exact ev_iret (pc := 33) rfl dX11_map_33
    · refine ev_iload_n (pc := 22) 3 dX11_map_22 rfl ?_
      refine ev_iconst (pc := 23) 0 k_iconst_0 dX11_map_23 ?_
      refine ev_iconst (pc := 24) 1 k_iconst_1 dX11_map_24 ?_
      refine ev_callSI (pc := 25) (d := d + 4) (As := [.int a3, .int 0, .int 1]) (st := []) cv_X11_within rfl w_18 rfl (Nat.le_of_ble_eq_true rfl) (ok_X11_within N (d + 4) a3 0 1 I5 L6) dX11_map_25 (fun x7 I8 L9 => ?_)
      refine ev_if_ne (pc := 28) 34 (by decide) dX11_map_28 ?_ ?_
      · refine ev_iload_n (pc := 34) 3 dX11_map_34 rfl ?_
        refine ev_if_ne (pc := 35) 50 (by decide) dX11_map_35 ?_ ?_
        · refine ev_aload_n (pc := 50) 0 dX11_map_50 rfl ?_
          refine gf_X11_66 (pc := 51) rfl dX11_map_51 ?_
          refine ev_iload_n (pc := 54) 1 dX11_map_54 rfl ?_
          refine ev_iload_n (pc := 55) 2 dX11_map_55 rfl ?_
          refine ev_callVI (pc := 56) (d := d + 4) (As := [.int a1, .int a2]) (st := []) cv_X8_firstUnseen rfl w_394 rfl (Nat.le_of_ble_eq_true rfl) (ok_X8_firstUnseen N (d) a1 a2 I8 L9) dX11_map_56 (fun x10 I11 L12 => ?_)
          exact ev_iret (pc := 59) rfl dX11_map_59
        · refine ev_aload_n (pc := 38) 0 dX11_map_38 rfl ?_
          refine gf_X11_66 (pc := 39) rfl dX11_map_39 ?_
          refine ev_iload_n (pc := 42) 1 dX11_map_42 rfl ?_
          refine ev_iload_n (pc := 43) 2 dX11_map_43 rfl ?_
          refine ev_callVI (pc := 44) (d := d + 4) (As := [.int a1, .int a2]) (st := []) cv_X8_seenTo rfl w_398 rfl (Nat.le_of_ble_eq_true rfl) (ok_X8_seenTo N (d) a1 a2 I8 L9) dX11_map_44 (fun x13 I14 L15 => ?_)
          refine ev_goto (pc := 47) 59 (by decide) dX11_map_47 ?_
          exact ev_iret (pc := 59) rfl dX11_map_59
      · refine ev_ldc (pc := 31) w_267 dX11_map_31 ?_
        exact ev_iret (pc := 33) rfl dX11_map_33
