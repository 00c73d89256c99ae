def F_X12_worthOf_55 (N : Nat) (v1 : Int32) (v2 : Int32) (I : PI) (L : PL) : RES := gd (inb v2 630) (gd (inb v2 630) (bI (f_X12_workOut N v1 (I 45 (Int32.toNatClampNeg v2)) (I 46 (Int32.toNatClampNeg v2)) I L) (fun x2 I3 L4 => some (some (.int x2), I3, L4))))
set_option maxRecDepth 100000 in
theorem E_X12_worthOf_55 (N d : Nat) (v1 : Int32) (v2 : Int32) (I : PI) (L : PL) : EvW M_X12_worthOf (d + 4) 55 [(0, .ref 12), (1, .int v1), (2, .int v2)] [] I L (F_X12_worthOf_55 N v1 v2 I L) := by
  rw [F_X12_worthOf_55]
  refine ev_aload_n (pc := 55) 0 dX12_worthOf_55 rfl ?_
  refine ev_iload_n (pc := 56) 1 dX12_worthOf_56 rfl ?_
  refine ev_aload_n (pc := 57) 0 dX12_worthOf_57 rfl ?_
  refine gf_X12_28 (pc := 58) rfl dX12_worthOf_58 ?_
  refine ev_iload_n (pc := 61) 2 dX12_worthOf_61 rfl ?_
  refine ev_iald (pc := 62) kK_45 dX12_worthOf_62 ?_
  refine ev_aload_n (pc := 63) 0 dX12_worthOf_63 rfl ?_
  refine gf_X12_31 (pc := 64) rfl dX12_worthOf_64 ?_
  refine ev_iload_n (pc := 67) 2 dX12_worthOf_67 rfl ?_
  refine ev_iald (pc := 68) kK_46 dX12_worthOf_68 ?_
  refine ev_callVI (pc := 69) (d := d + 3) (As := [.int v1, .int (I 45 (Int32.toNatClampNeg v2)), .int (I 46 (Int32.toNatClampNeg v2))]) (st := []) cv_X12_workOut rfl w_830 rfl (Nat.le_of_ble_eq_true rfl) (ok_X12_workOut N (d) v1 (I 45 (Int32.toNatClampNeg v2)) (I 46 (Int32.toNatClampNeg v2)) I L) dX12_worthOf_69 (fun x2 I3 L4 => ?_)
  exact ev_iret (pc := 72) rfl dX12_worthOf_72
def F_X12_worthOf_5 (N : Nat) : Nat → Int32 → Int32 → PI → PL → RES
  | 0, _, _, _, _ => none
  | n + 1, v1, v2, I, L => gd (inb v1 7) ((if ((90 * v1) + (I 43 (Int32.toNatClampNeg v1))) ≤ v2 then some (some (.int 0), I, L) else gd (inb v2 630) (gd (inb v2 630) ((if (I 44 (Int32.toNatClampNeg v2)) = (I 45 (Int32.toNatClampNeg v2)) then F_X12_worthOf_55 N v1 v2 I L else gd (inb v2 630) (gd (inb v2 630) (bI (f_X12_workOut N v1 (I 44 (Int32.toNatClampNeg v2)) (I 45 (Int32.toNatClampNeg v2)) I L) (fun x5 I6 L7 => (if x5 = 0 then (F_X12_worthOf_5 N n) v1 (v2 + 1) I6 L7 else F_X12_worthOf_55 N v1 v2 I6 L7)))))))))
set_option maxRecDepth 100000 in
theorem E_X12_worthOf_5 (N d : Nat) : ∀ (n : Nat) (v1 : Int32) (v2 : Int32) (I : PI) (L : PL), EvW M_X12_worthOf (d + 4) 5 [(0, .ref 12), (1, .int v1), (2, .int v2)] [] I L (F_X12_worthOf_5 N n v1 v2 I L) := by
  intro n
  induction n with
  | zero =>
    intro v1 v2 I L
    exact EvW.none
  | succ n hr_5 =>
    intro v1 v2 I L
    rw [F_X12_worthOf_5]
    refine ev_iload_n (pc := 5) 2 dX12_worthOf_5 rfl ?_
    refine ev_bipush (pc := 6) 90 k_bipush_90 dX12_worthOf_6 ?_
    refine ev_iload_n (pc := 8) 1 dX12_worthOf_8 rfl ?_
    refine ev_imul (pc := 9) dX12_worthOf_9 ?_
    refine ev_aload_n (pc := 10) 0 dX12_worthOf_10 rfl ?_
    refine gf_X12_22 (pc := 11) rfl dX12_worthOf_11 ?_
    refine ev_iload_n (pc := 14) 1 dX12_worthOf_14 rfl ?_
    refine ev_iald (pc := 15) kK_43 dX12_worthOf_15 ?_
    refine ev_iadd (pc := 16) dX12_worthOf_16 ?_
    refine ev_icmp_ge (pc := 17) 79 (by decide) dX12_worthOf_17 ?_ ?_
    · refine ev_iconst (pc := 79) 0 k_iconst_0 dX12_worthOf_79 ?_
      exact ev_iret (pc := 80) rfl dX12_worthOf_80
    · refine ev_aload_n (pc := 20) 0 dX12_worthOf_20 rfl ?_
      refine gf_X12_25 (pc := 21) rfl dX12_worthOf_21 ?_
      refine ev_iload_n (pc := 24) 2 dX12_worthOf_24 rfl ?_
      refine ev_iald (pc := 25) kK_44 dX12_worthOf_25 ?_
      refine ev_aload_n (pc := 26) 0 dX12_worthOf_26 rfl ?_
      refine gf_X12_28 (pc := 27) rfl dX12_worthOf_27 ?_
      refine ev_iload_n (pc := 30) 2 dX12_worthOf_30 rfl ?_
      refine ev_iald (pc := 31) kK_45 dX12_worthOf_31 ?_
      refine ev_icmp_eq (pc := 32) 55 (by decide) dX12_worthOf_32 ?_ ?_
      · exact E_X12_worthOf_55 N d v1 v2 I L
      · refine ev_aload_n (pc := 35) 0 dX12_worthOf_35 rfl ?_
        refine ev_iload_n (pc := 36) 1 dX12_worthOf_36 rfl ?_
        refine ev_aload_n (pc := 37) 0 dX12_worthOf_37 rfl ?_
        refine gf_X12_25 (pc := 38) rfl dX12_worthOf_38 ?_
        refine ev_iload_n (pc := 41) 2 dX12_worthOf_41 rfl ?_
        refine ev_iald (pc := 42) kK_44 dX12_worthOf_42 ?_
        refine ev_aload_n (pc := 43) 0 dX12_worthOf_43 rfl ?_
        refine gf_X12_28 (pc := 44) rfl dX12_worthOf_44 ?_
        refine ev_iload_n (pc := 47) 2 dX12_worthOf_47 rfl ?_
        refine ev_iald (pc := 48) kK_45 dX12_worthOf_48 ?_
        refine ev_callVI (pc := 49) (d := d + 3) (As := [.int v1, .int (I 44 (Int32.toNatClampNeg v2)), .int (I 45 (Int32.toNatClampNeg v2))]) (st := []) cv_X12_workOut rfl w_830 rfl (Nat.le_of_ble_eq_true rfl) (ok_X12_workOut N (d) v1 (I 44 (Int32.toNatClampNeg v2)) (I 45 (Int32.toNatClampNeg v2)) I L) dX12_worthOf_49 (fun x5 I6 L7 => ?_)
        refine ev_if_eq (pc := 52) 73 (by decide) dX12_worthOf_52 ?_ ?_
        · refine ev_iinc (pc := 73) (lv' := [(2, .int (v2 + 1)), (0, .ref 12), (1, .int v1)]) dX12_worthOf_73 2 rfl rfl 1 k_iconst_1 rfl ?_
          refine ev_goto (pc := 76) 5 (by decide) dX12_worthOf_76 ?_
          refine EvW.sub [1, 2, 0] rfl ?_
          exact hr_5 v1 (v2 + 1) I6 L7
        · exact E_X12_worthOf_55 N d v1 v2 I6 L7
def f_X12_worthOf (N : Nat) (a1 : Int32) (I : PI) (L : PL) : RES := nmI (90 * a1) (fun x1 => F_X12_worthOf_5 N N a1 x1 I L)
set_option maxRecDepth 100000 in
theorem ok_X12_worthOf (N d : Nat) (a1 : Int32) (I : PI) (L : PL) : MOk M_X12_worthOf (d + 4) [.ref 12, .int a1] I L (f_X12_worthOf N a1 I L) := by
  refine MOk.of (by decide +kernel) (Nat.le_of_ble_eq_true rfl) ?_
  show EvW _ _ 0 [(0, .ref 12), (1, .int a1)] [] I L _
  rw [f_X12_worthOf]
  refine ev_bipush (pc := 0) 90 k_bipush_90 dX12_worthOf_0 ?_
  refine ev_iload_n (pc := 2) 1 dX12_worthOf_2 rfl ?_
  refine ev_imul (pc := 3) dX12_worthOf_3 ?_
  refine ev_nmI (fun x1 => ?_)
  refine ev_istore_n (pc := 4) (lv' := [(2, .int x1), (0, .ref 12), (1, .int a1)]) dX12_worthOf_4 rfl rfl rfl ?_
  refine EvW.sub [1, 2, 0] rfl ?_
  exact E_X12_worthOf_5 N d N a1 x1 I L
def f_X12_weightOf (N : Nat) (a1 : Int32) (a2 : Int32) (a3 : Int32) (I : PI) (L : PL) : RES := (if a2 = (-1 : Int32) then some (some (.int 1), I, L) else gd (inb ((24 * a1) + a3) 216) (nmI (I 49 (Int32.toNatClampNeg ((24 * a1) + a3))) (fun x1 => gd (inb 0 4) (nmW (uI I 47 (Int32.toNatClampNeg 0) a3) (fun I2 => gd (inb a1 9) (gd (inb 1 4) (nmW (uI I2 47 (Int32.toNatClampNeg 1) (I2 50 (Int32.toNatClampNeg a1))) (fun I3 => bI (f_X12_partOf N x1 1 I3 L) (fun x4 I5 L6 => gd (inb 2 4) (nmW (uI I5 47 (Int32.toNatClampNeg 2) x4) (fun I7 => bI (f_X12_partOf N x1 0 I7 L6) (fun x8 I9 L10 => gd (inb 3 4) (nmW (uI I9 47 (Int32.toNatClampNeg 3) x8) (fun I11 => bI (f_X12_worthOf N a2 I11 L10) (fun x12 I13 L14 => some (some (.int (jmax (-9 : Int32) (jmin 9 x12))), I13, L14))))))))))))))))
set_option maxRecDepth 100000 in
theorem ok_X12_weightOf (N d : Nat) (a1 : Int32) (a2 : Int32) (a3 : Int32) (I : PI) (L : PL) : MOk M_X12_weightOf (d + 5) [.ref 12, .int a1, .int a2, .int a3] I L (f_X12_weightOf N a1 a2 a3 I L) := by
  refine MOk.of (by decide +kernel) (Nat.le_of_ble_eq_true rfl) ?_
  show EvW _ _ 0 [(0, .ref 12), (1, .int a1), (2, .int a2), (3, .int a3)] [] I L _
  rw [f_X12_weightOf]
  refine ev_iload_n (pc := 0) 2 dX12_weightOf_0 rfl ?_
  refine ev_iconst (pc := 1) (-1 : Int32) k_iconst_m1 dX12_weightOf_1 ?_
  refine ev_icmp_ne (pc := 2) 7 (by decide) dX12_weightOf_2 ?_ ?_
  · refine ev_aload_n (pc := 7) 0 dX12_weightOf_7 rfl ?_
    refine gf_X12_40 (pc := 8) rfl dX12_weightOf_8 ?_
    refine ev_bipush (pc := 11) 24 k_bipush_24 dX12_weightOf_11 ?_
    refine ev_iload_n (pc := 13) 1 dX12_weightOf_13 rfl ?_
    refine ev_imul (pc := 14) dX12_weightOf_14 ?_
    refine ev_iload_n (pc := 15) 3 dX12_weightOf_15 rfl ?_
    refine ev_iadd (pc := 16) dX12_weightOf_16 ?_
    refine ev_iald (pc := 17) kK_49 dX12_weightOf_17 ?_
    refine ev_nmI (fun x1 => ?_)
    refine ev_istore (pc := 18) (lv' := [(4, .int x1), (0, .ref 12), (1, .int a1), (2, .int a2), (3, .int a3)]) dX12_weightOf_18 rfl rfl ?_
    refine ev_aload_n (pc := 20) 1 dX12_weightOf_20 rfl ?_
    refine gf_X12_34 (pc := 21) rfl dX12_weightOf_21 ?_
    refine ev_iconst (pc := 24) 0 k_iconst_0 dX12_weightOf_24 ?_
    refine ev_iload_n (pc := 25) 4 dX12_weightOf_25 rfl ?_
    refine ev_iast (pc := 26) kK_47 dX12_weightOf_26 ?_
    refine ev_nmW (fun I2 => ?_)
    refine ev_aload_n (pc := 27) 1 dX12_weightOf_27 rfl ?_
    refine gf_X12_34 (pc := 28) rfl dX12_weightOf_28 ?_
    refine ev_iconst (pc := 31) 1 k_iconst_1 dX12_weightOf_31 ?_
    refine ev_aload_n (pc := 32) 1 dX12_weightOf_32 rfl ?_
    refine gf_X12_43 (pc := 33) rfl dX12_weightOf_33 ?_
    refine ev_iload_n (pc := 36) 2 dX12_weightOf_36 rfl ?_
    refine ev_iald (pc := 37) kK_50 dX12_weightOf_37 ?_
    refine ev_iast (pc := 38) kK_47 dX12_weightOf_38 ?_
    refine ev_nmW (fun I3 => ?_)
    refine ev_aload_n (pc := 39) 1 dX12_weightOf_39 rfl ?_
    refine gf_X12_34 (pc := 40) rfl dX12_weightOf_40 ?_
    refine ev_iconst (pc := 43) 2 k_iconst_2 dX12_weightOf_43 ?_
    refine ev_iload (pc := 44) 0 dX12_weightOf_44 rfl ?_
    refine ev_iconst (pc := 46) 1 k_iconst_1 dX12_weightOf_46 ?_
    refine ev_callSI (pc := 47) (d := d + 4) (As := [.int x1, .int 1]) (st := [.int 2, .ref 47]) cv_X12_partOf rfl w_815 rfl (Nat.le_of_ble_eq_true rfl) (ok_X12_partOf N (d + 4) x1 1 I3 L) dX12_weightOf_47 (fun x4 I5 L6 => ?_)
    refine ev_iast (pc := 50) kK_47 dX12_weightOf_50 ?_
    refine ev_nmW (fun I7 => ?_)
    refine ev_aload_n (pc := 51) 1 dX12_weightOf_51 rfl ?_
    refine gf_X12_34 (pc := 52) rfl dX12_weightOf_52 ?_
    refine ev_iconst (pc := 55) 3 k_iconst_3 dX12_weightOf_55 ?_
    refine ev_iload (pc := 56) 0 dX12_weightOf_56 rfl ?_
    refine ev_iconst (pc := 58) 0 k_iconst_0 dX12_weightOf_58 ?_
    refine ev_callSI (pc := 59) (d := d + 4) (As := [.int x1, .int 0]) (st := [.int 3, .ref 47]) cv_X12_partOf rfl w_815 rfl (Nat.le_of_ble_eq_true rfl) (ok_X12_partOf N (d + 4) x1 0 I7 L6) dX12_weightOf_59 (fun x8 I9 L10 => ?_)
    refine ev_iast (pc := 62) kK_47 dX12_weightOf_62 ?_
    refine ev_nmW (fun I11 => ?_)
    refine ev_bipush (pc := 63) (-9 : Int32) k_bipush_m9 dX12_weightOf_63 ?_
    refine ev_bipush (pc := 65) 9 k_bipush_9 dX12_weightOf_65 ?_
    refine ev_aload_n (pc := 67) 1 dX12_weightOf_67 rfl ?_
    refine ev_iload_n (pc := 68) 3 dX12_weightOf_68 rfl ?_
    refine ev_callVI (pc := 69) (d := d + 4) (As := [.int a2]) (st := [.int 9, .int (-9 : Int32)]) cv_X12_worthOf rfl w_834 rfl (Nat.le_of_ble_eq_true rfl) (ok_X12_worthOf N (d) a2 I11 L10) dX12_weightOf_69 (fun x12 I13 L14 => ?_)
    refine ev_mmin (pc := 72) (d := d + 4) w_835 w_134 w_131 w_135 (Nat.le_of_ble_eq_true rfl) dX12_weightOf_72 ?_
    refine ev_mmax (pc := 75) (d := d + 4) w_836 w_130 w_131 w_132 (Nat.le_of_ble_eq_true rfl) dX12_weightOf_75 ?_
    exact ev_iret (pc := 78) rfl dX12_weightOf_78
  · refine ev_iconst (pc := 5) 1 k_iconst_1 dX12_weightOf_5 ?_
    exact ev_iret (pc := 6) rfl dX12_weightOf_6
def f_X12_weight (N : Nat) (a1 : Int32) (a2 : Int32) (a3 : Int32) (I : PI) (L : PL) : RES := bI (f_X12_isCode N a1 I L) (fun x1 I2 L3 => (if x1 = 0 then some (some (.int (-1000000 : Int32)), I2, L3) else bI (f_X12_isLaw N a2 I2 L3) (fun x4 I5 L6 => (if x4 = 0 then some (some (.int (-1000000 : Int32)), I5, L6) else gd (inb a1 9) (bI (f_X12_in N a3 0 ((I5 50 (Int32.toNatClampNeg a1)) - 1) I5 L6) (fun x7 I8 L9 => (if x7 = 0 then some (some (.int (-1000000 : Int32)), I8, L9) else bI (f_X12_weightOf N a1 a2 a3 I8 L9) (fun x10 I11 L12 => some (some (.int x10), I11, L12)))))))))
set_option maxRecDepth 100000 in
theorem ok_X12_weight (N d : Nat) (a1 : Int32) (a2 : Int32) (a3 : Int32) (I : PI) (L : PL) : MOk M_X12_weight (d + 6) [.ref 12, .int a1, .int a2, .int a3] I L (f_X12_weight N a1 a2 a3 I L) := by
  refine MOk.of (by decide +kernel) (Nat.le_of_ble_eq_true rfl) ?_
  show EvW _ _ 0 [(0, .ref 12), (1, .int a1), (2, .int a2), (3, .int a3)] [] I L _
  rw [f_X12_weight]
  refine ev_aload_n (pc := 0) 0 dX12_weight_0 rfl ?_
  refine ev_iload_n (pc := 1) 1 dX12_weight_1 rfl ?_
  refine ev_callVI (pc := 2) (d := d + 5) (As := [.int a1]) (st := []) cv_X12_isCode rfl w_802 rfl (Nat.le_of_ble_eq_true rfl) (ok_X12_isCode N (d + 4) a1 I L) dX12_weight_2 (fun x1 I2 L3 => ?_)
  refine ev_if_eq (pc := 5) 42 (by decide) dX12_weight_5 ?_ ?_
  · refine ev_ldcw (pc := 42) w_807 dX12_weight_42 ?_
    exact ev_iret (pc := 45) rfl dX12_weight_45
  · refine ev_aload_n (pc := 8) 0 dX12_weight_8 rfl ?_
    refine ev_iload_n (pc := 9) 2 dX12_weight_9 rfl ?_
    refine ev_callVI (pc := 10) (d := d + 5) (As := [.int a2]) (st := []) cv_X12_isLaw rfl w_811 rfl (Nat.le_of_ble_eq_true rfl) (ok_X12_isLaw N (d + 4) a2 I2 L3) dX12_weight_10 (fun x4 I5 L6 => ?_)
    refine ev_if_eq (pc := 13) 42 (by decide) dX12_weight_13 ?_ ?_
    · refine ev_ldcw (pc := 42) w_807 dX12_weight_42 ?_
      exact ev_iret (pc := 45) rfl dX12_weight_45
    · refine ev_iload_n (pc := 16) 3 dX12_weight_16 rfl ?_
      refine ev_iconst (pc := 17) 0 k_iconst_0 dX12_weight_17 ?_
      refine ev_aload_n (pc := 18) 0 dX12_weight_18 rfl ?_
      refine gf_X12_43 (pc := 19) rfl dX12_weight_19 ?_
      refine ev_iload_n (pc := 22) 1 dX12_weight_22 rfl ?_
      refine ev_iald (pc := 23) kK_50 dX12_weight_23 ?_
      refine ev_iconst (pc := 24) 1 k_iconst_1 dX12_weight_24 ?_
      refine ev_isub (pc := 25) dX12_weight_25 ?_
      refine ev_callSI (pc := 26) (d := d + 5) (As := [.int a3, .int 0, .int ((I5 50 (Int32.toNatClampNeg a1)) - 1)]) (st := []) cv_X12_in rfl w_790 rfl (Nat.le_of_ble_eq_true rfl) (ok_X12_in N (d + 5) a3 0 ((I5 50 (Int32.toNatClampNeg a1)) - 1) I5 L6) dX12_weight_26 (fun x7 I8 L9 => ?_)
      refine ev_if_eq (pc := 29) 42 (by decide) dX12_weight_29 ?_ ?_
      · refine ev_ldcw (pc := 42) w_807 dX12_weight_42 ?_
        exact ev_iret (pc := 45) rfl dX12_weight_45
      · refine ev_aload_n (pc := 32) 0 dX12_weight_32 rfl ?_
        refine ev_iload_n (pc := 33) 1 dX12_weight_33 rfl ?_
        refine ev_iload_n (pc := 34) 2 dX12_weight_34 rfl ?_
        refine ev_iload_n (pc := 35) 3 dX12_weight_35 rfl ?_
        refine ev_callVI (pc := 36) (d := d + 5) (As := [.int a1, .int a2, .int a3]) (st := []) cv_X12_weightOf rfl w_840 rfl (Nat.le_of_ble_eq_true rfl) (ok_X12_weightOf N (d) a1 a2 a3 I8 L9) dX12_weight_36 (fun x10 I11 L12 => ?_)
        refine ev_goto (pc := 39) 45 (by decide) dX12_weight_39 ?_
        exact ev_iret (pc := 45) rfl dX12_weight_45
def F_X12_lay_2 (N : Nat) : Nat → Int32 → Int32 → Int32 → PI → PL → RES
  | 0, _, _, _, _, _ => none
  | n + 1, v1, v2, v3, I, L => gd (inb v1 9) ((if (I 50 (Int32.toNatClampNeg v1)) ≤ v3 then some (none, I, L) else bI (f_X12_weightOf N v1 v2 v3 I L) (fun x1 I2 L3 => gd (inb v3 24) (nmW (uI I2 53 (Int32.toNatClampNeg v3) x1) (fun I4 => (F_X12_lay_2 N n) v1 v2 (v3 + 1) I4 L3)))))
set_option maxRecDepth 100000 in
theorem E_X12_lay_2 (N d : Nat) : ∀ (n : Nat) (v1 : Int32) (v2 : Int32) (v3 : Int32) (I : PI) (L : PL), EvW M_X12_lay (d + 6) 2 [(0, .ref 12), (1, .int v1), (2, .int v2), (3, .int v3)] [] I L (F_X12_lay_2 N n v1 v2 v3 I L) := by
  intro n
  induction n with
  | zero =>
    intro v1 v2 v3 I L
    exact EvW.none
  | succ n hr_2 =>
    intro v1 v2 v3 I L
    rw [F_X12_lay_2]
    refine ev_iload_n (pc := 2) 3 dX12_lay_2 rfl ?_
    refine ev_aload_n (pc := 3) 0 dX12_lay_3 rfl ?_
    refine gf_X12_43 (pc := 4) rfl dX12_lay_4 ?_
    refine ev_iload_n (pc := 7) 1 dX12_lay_7 rfl ?_
    refine ev_iald (pc := 8) kK_50 dX12_lay_8 ?_
    refine ev_icmp_ge (pc := 9) 31 (by decide) dX12_lay_9 ?_ ?_
    · exact ev_vret (pc := 31) rfl dX12_lay_31
    · refine ev_aload_n (pc := 12) 0 dX12_lay_12 rfl ?_
      refine gf_X12_52 (pc := 13) rfl dX12_lay_13 ?_
      refine ev_iload_n (pc := 16) 3 dX12_lay_16 rfl ?_
      refine ev_aload_n (pc := 17) 0 dX12_lay_17 rfl ?_
      refine ev_iload_n (pc := 18) 1 dX12_lay_18 rfl ?_
      refine ev_iload_n (pc := 19) 2 dX12_lay_19 rfl ?_
      refine ev_iload_n (pc := 20) 3 dX12_lay_20 rfl ?_
      refine ev_callVI (pc := 21) (d := d + 5) (As := [.int v1, .int v2, .int v3]) (st := [.int v3, .ref 53]) cv_X12_weightOf rfl w_840 rfl (Nat.le_of_ble_eq_true rfl) (ok_X12_weightOf N (d) v1 v2 v3 I L) dX12_lay_21 (fun x1 I2 L3 => ?_)
      refine ev_iast (pc := 24) kK_53 dX12_lay_24 ?_
      refine ev_nmW (fun I4 => ?_)
      refine ev_iinc (pc := 25) (lv' := [(3, .int (v3 + 1)), (0, .ref 12), (1, .int v1), (2, .int v2)]) dX12_lay_25 3 rfl rfl 1 k_iconst_1 rfl ?_
      refine ev_goto (pc := 28) 2 (by decide) dX12_lay_28 ?_
      refine EvW.sub [1, 2, 3, 0] rfl ?_
      exact hr_2 v1 v2 (v3 + 1) I4 L3
def f_X12_lay (N : Nat) (a1 : Int32) (a2 : Int32) (I : PI) (L : PL) : RES := F_X12_lay_2 N N a1 a2 0 I L
set_option maxRecDepth 100000 in
theorem ok_X12_lay (N d : Nat) (a1 : Int32) (a2 : Int32) (I : PI) (L : PL) : MOk M_X12_lay (d + 6) [.ref 12, .int a1, .int a2] I L (f_X12_lay N a1 a2 I L) := by
  refine MOk.of (by decide +kernel) (Nat.le_of_ble_eq_true rfl) ?_
  show EvW _ _ 0 [(0, .ref 12), (1, .int a1), (2, .int a2)] [] I L _
  rw [f_X12_lay]
  refine ev_iconst (pc := 0) 0 k_iconst_0 dX12_lay_0 ?_
  refine ev_istore_n (pc := 1) (lv' := [(3, .int 0), (0, .ref 12), (1, .int a1), (2, .int a2)]) dX12_lay_1 rfl rfl rfl ?_
  refine EvW.sub [1, 2, 3, 0] rfl ?_
  exact E_X12_lay_2 N d N a1 a2 0 I L
def F_X12_sum__13 (N : Nat) : Nat → Int32 → Int32 → Int32 → Int32 → Int32 → PI → PL → RES
  | 0, _, _, _, _, _, _, _ => none
  | n + 1, v1, v2, v3, v4, v5, I, L => gd (inb v1 9) ((if (I 50 (Int32.toNatClampNeg v1)) ≤ v5 then nmW (uI I 12 26 (((I 12 24) * (I 12 24)) + ((I 12 25) * (I 12 25)))) (fun I3 => some (none, I3, L)) else nmI (v5 - v3) (fun x4 => gd (inb v2 9) (bI (f_X12_in N x4 0 ((I 50 (Int32.toNatClampNeg v2)) - 1) I L) (fun x5 I6 L7 => (if x5 = 0 then (F_X12_sum__13 N n) v1 v2 v3 v4 (v5 + 1) I6 L7 else gd (inb ((24 * v1) + v5) 216) (gd (inb ((24 * v2) + x4) 216) (nmI (((I6 49 (Int32.toNatClampNeg ((24 * v1) + v5))) + (v4 * v5)) - (I6 49 (Int32.toNatClampNeg ((24 * v2) + x4)))) (fun x8 => gd (inb x4 24) (bI (f_X12_partOf N x8 1 I6 L7) (fun x9 I10 L11 => nmW (uI I10 12 24 ((I6 12 24) + ((I6 53 (Int32.toNatClampNeg x4)) * x9))) (fun I12 => gd (inb x4 24) (bI (f_X12_partOf N x8 0 I12 L11) (fun x13 I14 L15 => nmW (uI I14 12 25 ((I12 12 25) + ((I12 53 (Int32.toNatClampNeg x4)) * x13))) (fun I16 => (F_X12_sum__13 N n) v1 v2 v3 v4 (v5 + 1) I16 L15)))))))))))))))
set_option maxRecDepth 100000 in
theorem E_X12_sum__13 (N d : Nat) : ∀ (n : Nat) (v1 : Int32) (v2 : Int32) (v3 : Int32) (v4 : Int32) (v5 : Int32) (I : PI) (L : PL), EvW M_X12_sum_ (d + 1) 13 [(0, .ref 12), (1, .int v1), (2, .int v2), (3, .int v3), (4, .int v4), (5, .int v5)] [] I L (F_X12_sum__13 N n v1 v2 v3 v4 v5 I L) := by
  intro n
  induction n with
  | zero =>
    intro v1 v2 v3 v4 v5 I L
    exact EvW.none
  | succ n hr_13 =>
    intro v1 v2 v3 v4 v5 I L
    rw [F_X12_sum__13]
    refine ev_iload (pc := 13) 5 dX12_sum__13 rfl ?_
    refine ev_aload_n (pc := 15) 0 dX12_sum__15 rfl ?_
    refine gf_X12_43 (pc := 16) rfl dX12_sum__16 ?_
    refine ev_iload_n (pc := 19) 1 dX12_sum__19 rfl ?_
    refine ev_iald (pc := 20) kK_50 dX12_sum__20 ?_
    refine ev_icmp_ge (pc := 21) 132 (by decide) dX12_sum__21 ?_ ?_
    · refine ev_aload_n (pc := 132) 0 dX12_sum__132 rfl ?_
      refine ev_aload_n (pc := 133) 0 dX12_sum__133 rfl ?_
      refine gf_X12_269 (pc := 134) rfl dX12_sum__134 ?_
      refine ev_aload_n (pc := 137) 0 dX12_sum__137 rfl ?_
      refine gf_X12_269 (pc := 138) rfl dX12_sum__138 ?_
      refine ev_imul (pc := 141) dX12_sum__141 ?_
      refine ev_aload_n (pc := 142) 0 dX12_sum__142 rfl ?_
      refine gf_X12_272 (pc := 143) rfl dX12_sum__143 ?_
      refine ev_aload_n (pc := 146) 0 dX12_sum__146 rfl ?_
      refine gf_X12_272 (pc := 147) rfl dX12_sum__147 ?_
      refine ev_imul (pc := 150) dX12_sum__150 ?_
      refine ev_iadd (pc := 151) dX12_sum__151 ?_
      refine pf_X12_275 (pc := 152) rfl dX12_sum__152 ?_
      refine ev_nmW (fun I3 => ?_)
      exact ev_vret (pc := 155) rfl dX12_sum__155
    · refine ev_iload (pc := 24) 5 dX12_sum__24 rfl ?_
      refine ev_iload_n (pc := 26) 3 dX12_sum__26 rfl ?_
      refine ev_isub (pc := 27) dX12_sum__27 ?_
      refine ev_nmI (fun x4 => ?_)
      refine ev_istore (pc := 28) (lv' := [(6, .int x4), (0, .ref 12), (1, .int v1), (2, .int v2), (3, .int v3), (4, .int v4), (5, .int v5)]) dX12_sum__28 rfl rfl ?_
      refine ev_iload (pc := 30) 0 dX12_sum__30 rfl ?_
      refine ev_iconst (pc := 32) 0 k_iconst_0 dX12_sum__32 ?_
      refine ev_aload_n (pc := 33) 1 dX12_sum__33 rfl ?_
      refine gf_X12_43 (pc := 34) rfl dX12_sum__34 ?_
      refine ev_iload_n (pc := 37) 3 dX12_sum__37 rfl ?_
      refine ev_iald (pc := 38) kK_50 dX12_sum__38 ?_
      refine ev_iconst (pc := 39) 1 k_iconst_1 dX12_sum__39 ?_
      refine ev_isub (pc := 40) dX12_sum__40 ?_
      refine ev_callSI (pc := 41) (d := d) (As := [.int x4, .int 0, .int ((I 50 (Int32.toNatClampNeg v2)) - 1)]) (st := []) cv_X12_in rfl w_790 rfl (Nat.le_of_ble_eq_true rfl) (ok_X12_in N (d) x4 0 ((I 50 (Int32.toNatClampNeg v2)) - 1) I L) dX12_sum__41 (fun x5 I6 L7 => ?_)
      refine ev_if_eq (pc := 44) 126 (by decide) dX12_sum__44 ?_ ?_
      · refine ev_iinc (pc := 126) (lv' := [(5, .int (v5 + 1)), (6, .int x4), (0, .ref 12), (1, .int v1), (2, .int v2), (3, .int v3), (4, .int v4)]) dX12_sum__126 6 rfl rfl 1 k_iconst_1 rfl ?_
        refine ev_goto (pc := 129) 13 (by decide) dX12_sum__129 ?_
        refine EvW.sub [2, 3, 4, 5, 6, 0] rfl ?_
        exact hr_13 v1 v2 v3 v4 (v5 + 1) I6 L7
      · refine ev_aload_n (pc := 47) 1 dX12_sum__47 rfl ?_
        refine gf_X12_40 (pc := 48) rfl dX12_sum__48 ?_
        refine ev_bipush (pc := 51) 24 k_bipush_24 dX12_sum__51 ?_
        refine ev_iload_n (pc := 53) 2 dX12_sum__53 rfl ?_
        refine ev_imul (pc := 54) dX12_sum__54 ?_
        refine ev_iload (pc := 55) 6 dX12_sum__55 rfl ?_
        refine ev_iadd (pc := 57) dX12_sum__57 ?_
        refine ev_iald (pc := 58) kK_49 dX12_sum__58 ?_
        refine ev_iload (pc := 59) 5 dX12_sum__59 rfl ?_
        refine ev_iload (pc := 61) 6 dX12_sum__61 rfl ?_
        refine ev_imul (pc := 63) dX12_sum__63 ?_
        refine ev_iadd (pc := 64) dX12_sum__64 ?_
        refine ev_aload_n (pc := 65) 1 dX12_sum__65 rfl ?_
        refine gf_X12_40 (pc := 66) rfl dX12_sum__66 ?_
        refine ev_bipush (pc := 69) 24 k_bipush_24 dX12_sum__69 ?_
        refine ev_iload_n (pc := 71) 3 dX12_sum__71 rfl ?_
        refine ev_imul (pc := 72) dX12_sum__72 ?_
        refine ev_iload (pc := 73) 0 dX12_sum__73 rfl ?_
        refine ev_iadd (pc := 75) dX12_sum__75 ?_
        refine ev_iald (pc := 76) kK_49 dX12_sum__76 ?_
        refine ev_isub (pc := 77) dX12_sum__77 ?_
        refine ev_nmI (fun x8 => ?_)
        refine ev_istore (pc := 78) (lv' := [(7, .int x8), (6, .int x4), (0, .ref 12), (1, .int v1), (2, .int v2), (3, .int v3), (4, .int v4), (5, .int v5)]) dX12_sum__78 rfl rfl ?_
        refine ev_aload_n (pc := 80) 2 dX12_sum__80 rfl ?_
        refine ev_dup (pc := 81) rfl dX12_sum__81 ?_
        refine gf_X12_269 (pc := 82) rfl dX12_sum__82 ?_
        refine ev_aload_n (pc := 85) 2 dX12_sum__85 rfl ?_
        refine gf_X12_52 (pc := 86) rfl dX12_sum__86 ?_
        refine ev_iload (pc := 89) 1 dX12_sum__89 rfl ?_
        refine ev_iald (pc := 91) kK_53 dX12_sum__91 ?_
        refine ev_iload (pc := 92) 0 dX12_sum__92 rfl ?_
        refine ev_iconst (pc := 94) 1 k_iconst_1 dX12_sum__94 ?_
        refine ev_callSI (pc := 95) (d := d) (As := [.int x8, .int 1]) (st := [.int (I6 53 (Int32.toNatClampNeg x4)), .int (I6 12 24), .ref 12]) cv_X12_partOf rfl w_815 rfl (Nat.le_of_ble_eq_true rfl) (ok_X12_partOf N (d) x8 1 I6 L7) dX12_sum__95 (fun x9 I10 L11 => ?_)
        refine ev_imul (pc := 98) dX12_sum__98 ?_
        refine ev_iadd (pc := 99) dX12_sum__99 ?_
        refine pf_X12_269 (pc := 100) rfl dX12_sum__100 ?_
        refine ev_nmW (fun I12 => ?_)
        refine ev_aload_n (pc := 103) 2 dX12_sum__103 rfl ?_
        refine ev_dup (pc := 104) rfl dX12_sum__104 ?_
        refine gf_X12_272 (pc := 105) rfl dX12_sum__105 ?_
        refine ev_aload_n (pc := 108) 2 dX12_sum__108 rfl ?_
        refine gf_X12_52 (pc := 109) rfl dX12_sum__109 ?_
        refine ev_iload (pc := 112) 1 dX12_sum__112 rfl ?_
        refine ev_iald (pc := 114) kK_53 dX12_sum__114 ?_
        refine ev_iload (pc := 115) 0 dX12_sum__115 rfl ?_
        refine ev_iconst (pc := 117) 0 k_iconst_0 dX12_sum__117 ?_
        refine ev_callSI (pc := 118) (d := d) (As := [.int x8, .int 0]) (st := [.int (I12 53 (Int32.toNatClampNeg x4)), .int (I12 12 25), .ref 12]) cv_X12_partOf rfl w_815 rfl (Nat.le_of_ble_eq_true rfl) (ok_X12_partOf N (d) x8 0 I12 L11) dX12_sum__118 (fun x13 I14 L15 => ?_)
        refine ev_imul (pc := 121) dX12_sum__121 ?_
        refine ev_iadd (pc := 122) dX12_sum__122 ?_
        refine pf_X12_272 (pc := 123) rfl dX12_sum__123 ?_
        refine ev_nmW (fun I16 => ?_)
        refine ev_iinc (pc := 126) (lv' := [(5, .int (v5 + 1)), (7, .int x8), (6, .int x4), (0, .ref 12), (1, .int v1), (2, .int v2), (3, .int v3), (4, .int v4)]) dX12_sum__126 7 rfl rfl 1 k_iconst_1 rfl ?_
        refine ev_goto (pc := 129) 13 (by decide) dX12_sum__129 ?_
        refine EvW.sub [3, 4, 5, 6, 7, 0] rfl ?_
        exact hr_13 v1 v2 v3 v4 (v5 + 1) I16 L15
def f_X12_sum_ (N : Nat) (a1 : Int32) (a2 : Int32) (a3 : Int32) (a4 : Int32) (I : PI) (L : PL) : RES := nmW (uI I 12 24 0) (fun I1 => nmW (uI I1 12 25 0) (fun I2 => F_X12_sum__13 N N a1 a2 a3 a4 0 I2 L))
set_option maxRecDepth 100000 in
theorem ok_X12_sum_ (N d : Nat) (a1 : Int32) (a2 : Int32) (a3 : Int32) (a4 : Int32) (I : PI) (L : PL) : MOk M_X12_sum_ (d + 1) [.ref 12, .int a1, .int a2, .int a3, .int a4] I L (f_X12_sum_ N a1 a2 a3 a4 I L) := by
  refine MOk.of (by decide +kernel) (Nat.le_of_ble_eq_true rfl) ?_
  show EvW _ _ 0 [(0, .ref 12), (1, .int a1), (2, .int a2), (3, .int a3), (4, .int a4)] [] I L _
  rw [f_X12_sum_]
  refine ev_aload_n (pc := 0) 0 dX12_sum__0 rfl ?_
  refine ev_iconst (pc := 1) 0 k_iconst_0 dX12_sum__1 ?_
  refine pf_X12_269 (pc := 2) rfl dX12_sum__2 ?_
  refine ev_nmW (fun I1 => ?_)
  refine ev_aload_n (pc := 5) 0 dX12_sum__5 rfl ?_
  refine ev_iconst (pc := 6) 0 k_iconst_0 dX12_sum__6 ?_
  refine pf_X12_272 (pc := 7) rfl dX12_sum__7 ?_
  refine ev_nmW (fun I2 => ?_)
  refine ev_iconst (pc := 10) 0 k_iconst_0 dX12_sum__10 ?_
  refine ev_istore (pc := 11) (lv' := [(5, .int 0), (0, .ref 12), (1, .int a1), (2, .int a2), (3, .int a3), (4, .int a4)]) dX12_sum__11 rfl rfl ?_
  refine EvW.sub [1, 2, 3, 4, 5, 0] rfl ?_
  exact E_X12_sum__13 N d N a1 a2 a3 a4 0 I2 L
def f_X12_comes (N : Nat) (a1 : Int32) (a2 : Int32) (a3 : Int32) (a4 : Int32) (a5 : Int32) (a6 : Int32) (I : PI) (L : PL) : RES := bI (f_X12_isCode N a1 I L) (fun x1 I2 L3 => (if x1 = 0 then some (some (.int (-1000000 : Int32)), I2, L3) else bI (f_X12_isCode N a2 I2 L3) (fun x4 I5 L6 => (if x4 = 0 then some (some (.int (-1000000 : Int32)), I5, L6) else bI (f_X12_isLaw N a3 I5 L6) (fun x7 I8 L9 => (if x7 = 0 then some (some (.int (-1000000 : Int32)), I8, L9) else bI (f_X12_in N a4 (-23 : Int32) 23 I8 L9) (fun x10 I11 L12 => (if x10 = 0 then some (some (.int (-1000000 : Int32)), I11, L12) else bI (f_X12_in N a5 0 3 I11 L12) (fun x13 I14 L15 => (if x13 = 0 then some (some (.int (-1000000 : Int32)), I14, L15) else bI (f_X12_in N a6 0 2 I14 L15) (fun x16 I17 L18 => (if x16 = 0 then some (some (.int (-1000000 : Int32)), I17, L18) else bV (f_X12_lay N a2 a3 I17 L18) (fun I20 L21 => bV (f_X12_sum_ N a1 a2 a4 a5 I20 L21) (fun I23 L24 => (if a6 = 0 then some (some (.int (I23 12 24)), I23, L24) else (if a6 = 1 then some (some (.int (I23 12 25)), I23, L24) else some (some (.int (I23 12 26)), I23, L24)))))))))))))))))
set_option maxRecDepth 100000 in
theorem ok_X12_comes (N d : Nat) (a1 : Int32) (a2 : Int32) (a3 : Int32) (a4 : Int32) (a5 : Int32) (a6 : Int32) (I : PI) (L : PL) : MOk M_X12_comes (d + 7) [.ref 12, .int a1, .int a2, .int a3, .int a4, .int a5, .int a6] I L (f_X12_comes N a1 a2 a3 a4 a5 a6 I L) := by
  refine MOk.of (by decide +kernel) (Nat.le_of_ble_eq_true rfl) ?_
  show EvW _ _ 0 [(0, .ref 12), (1, .int a1), (2, .int a2), (3, .int a3), (4, .int a4), (5, .int a5), (6, .int a6)] [] I L _
  rw [f_X12_comes]
  refine ev_aload_n (pc := 0) 0 dX12_comes_0 rfl ?_
  refine ev_iload_n (pc := 1) 1 dX12_comes_1 rfl ?_
  refine ev_callVI (pc := 2) (d := d + 6) (As := [.int a1]) (st := []) cv_X12_isCode rfl w_802 rfl (Nat.le_of_ble_eq_true rfl) (ok_X12_isCode N (d + 5) a1 I L) dX12_comes_2 (fun x1 I2 L3 => ?_)
  refine ev_if_eq (pc := 5) 56 (by decide) dX12_comes_5 ?_ ?_
  · refine ev_ldcw (pc := 56) w_807 dX12_comes_56 ?_
    exact ev_iret (pc := 59) rfl dX12_comes_59
  · refine ev_aload_n (pc := 8) 0 dX12_comes_8 rfl ?_
    refine ev_iload_n (pc := 9) 2 dX12_comes_9 rfl ?_
    refine ev_callVI (pc := 10) (d := d + 6) (As := [.int a2]) (st := []) cv_X12_isCode rfl w_802 rfl (Nat.le_of_ble_eq_true rfl) (ok_X12_isCode N (d + 5) a2 I2 L3) dX12_comes_10 (fun x4 I5 L6 => ?_)
    refine ev_if_eq (pc := 13) 56 (by decide) dX12_comes_13 ?_ ?_
    · refine ev_ldcw (pc := 56) w_807 dX12_comes_56 ?_
      exact ev_iret (pc := 59) rfl dX12_comes_59
    · refine ev_aload_n (pc := 16) 0 dX12_comes_16 rfl ?_
      refine ev_iload_n (pc := 17) 3 dX12_comes_17 rfl ?_
      refine ev_callVI (pc := 18) (d := d + 6) (As := [.int a3]) (st := []) cv_X12_isLaw rfl w_811 rfl (Nat.le_of_ble_eq_true rfl) (ok_X12_isLaw N (d + 5) a3 I5 L6) dX12_comes_18 (fun x7 I8 L9 => ?_)
      refine ev_if_eq (pc := 21) 56 (by decide) dX12_comes_21 ?_ ?_
      · refine ev_ldcw (pc := 56) w_807 dX12_comes_56 ?_
        exact ev_iret (pc := 59) rfl dX12_comes_59
      · refine ev_iload (pc := 24) 4 dX12_comes_24 rfl ?_
        refine ev_bipush (pc := 26) (-23 : Int32) k_bipush_m23 dX12_comes_26 ?_
        refine ev_bipush (pc := 28) 23 k_bipush_23 dX12_comes_28 ?_
        refine ev_callSI (pc := 30) (d := d + 6) (As := [.int a4, .int (-23 : Int32), .int 23]) (st := []) cv_X12_in rfl w_790 rfl (Nat.le_of_ble_eq_true rfl) (ok_X12_in N (d + 6) a4 (-23 : Int32) 23 I8 L9) dX12_comes_30 (fun x10 I11 L12 => ?_)
        refine ev_if_eq (pc := 33) 56 (by decide) dX12_comes_33 ?_ ?_
        · refine ev_ldcw (pc := 56) w_807 dX12_comes_56 ?_
          exact ev_iret (pc := 59) rfl dX12_comes_59
        · refine ev_iload (pc := 36) 5 dX12_comes_36 rfl ?_
          refine ev_iconst (pc := 38) 0 k_iconst_0 dX12_comes_38 ?_
          refine ev_iconst (pc := 39) 3 k_iconst_3 dX12_comes_39 ?_
          refine ev_callSI (pc := 40) (d := d + 6) (As := [.int a5, .int 0, .int 3]) (st := []) cv_X12_in rfl w_790 rfl (Nat.le_of_ble_eq_true rfl) (ok_X12_in N (d + 6) a5 0 3 I11 L12) dX12_comes_40 (fun x13 I14 L15 => ?_)
          refine ev_if_eq (pc := 43) 56 (by decide) dX12_comes_43 ?_ ?_
          · refine ev_ldcw (pc := 56) w_807 dX12_comes_56 ?_
            exact ev_iret (pc := 59) rfl dX12_comes_59
          · refine ev_iload (pc := 46) 6 dX12_comes_46 rfl ?_
            refine ev_iconst (pc := 48) 0 k_iconst_0 dX12_comes_48 ?_
            refine ev_iconst (pc := 49) 2 k_iconst_2 dX12_comes_49 ?_
            refine ev_callSI (pc := 50) (d := d + 6) (As := [.int a6, .int 0, .int 2]) (st := []) cv_X12_in rfl w_790 rfl (Nat.le_of_ble_eq_true rfl) (ok_X12_in N (d + 6) a6 0 2 I14 L15) dX12_comes_50 (fun x16 I17 L18 => ?_)
            refine ev_if_ne (pc := 53) 60 (by decide) dX12_comes_53 ?_ ?_
            · refine ev_aload_n (pc := 60) 0 dX12_comes_60 rfl ?_
              refine ev_iload_n (pc := 61) 2 dX12_comes_61 rfl ?_
              refine ev_iload_n (pc := 62) 3 dX12_comes_62 rfl ?_
              refine ev_callVV (pc := 63) (d := d + 6) (As := [.int a2, .int a3]) (st := []) cv_X12_lay rfl w_845 rfl (Nat.le_of_ble_eq_true rfl) (ok_X12_lay N (d) a2 a3 I17 L18) dX12_comes_63 (fun I20 L21 => ?_)
              refine ev_aload_n (pc := 66) 0 dX12_comes_66 rfl ?_
              refine ev_iload_n (pc := 67) 1 dX12_comes_67 rfl ?_
              refine ev_iload_n (pc := 68) 2 dX12_comes_68 rfl ?_
              refine ev_iload (pc := 69) 4 dX12_comes_69 rfl ?_
              refine ev_iload (pc := 71) 5 dX12_comes_71 rfl ?_
              refine ev_callVV (pc := 73) (d := d + 6) (As := [.int a1, .int a2, .int a4, .int a5]) (st := []) cv_X12_sum_ rfl w_852 rfl (Nat.le_of_ble_eq_true rfl) (ok_X12_sum_ N (d + 5) a1 a2 a4 a5 I20 L21) dX12_comes_73 (fun I23 L24 => ?_)
              refine ev_iload (pc := 76) 6 dX12_comes_76 rfl ?_
              refine ev_if_ne (pc := 78) 88 (by decide) dX12_comes_78 ?_ ?_
              · refine ev_iload (pc := 88) 6 dX12_comes_88 rfl ?_
                refine ev_iconst (pc := 90) 1 k_iconst_1 dX12_comes_90 ?_
                refine ev_icmp_ne (pc := 91) 101 (by decide) dX12_comes_91 ?_ ?_
                · refine ev_aload_n (pc := 101) 0 dX12_comes_101 rfl ?_
                  refine gf_X12_275 (pc := 102) rfl dX12_comes_102 ?_
                  exact ev_iret (pc := 105) rfl dX12_comes_105
                · refine ev_aload_n (pc := 94) 0 dX12_comes_94 rfl ?_
                  refine gf_X12_272 (pc := 95) rfl dX12_comes_95 ?_
                  refine ev_goto (pc := 98) 105 (by decide) dX12_comes_98 ?_
                  exact ev_iret (pc := 105) rfl dX12_comes_105
              · refine ev_aload_n (pc := 81) 0 dX12_comes_81 rfl ?_
                refine gf_X12_269 (pc := 82) rfl dX12_comes_82 ?_
                refine ev_goto (pc := 85) 105 (by decide) dX12_comes_85 ?_
                exact ev_iret (pc := 105) rfl dX12_comes_105
            · refine ev_ldcw (pc := 56) w_807 dX12_comes_56 ?_
              exact ev_iret (pc := 59) rfl dX12_comes_59
def F_X12_lobesOf_155 (N : Nat) (r_54 : Int32 → Int32 → Int32 → PI → PL → RES) (r_63 : Int32 → Int32 → Int32 → Int32 → PI → PL → RES) (v1 : Int32) (v2 : Int32) (v3 : Int32) (v4 : Int32) (s0 : Int32) (s1 : Int32) (I : PI) (L : PL) : RES := nmW (uI I 12 29 (s1 + s0)) (fun I11 => (if v4 ≤ 0 then nmW (uI I11 12 30 (I11 12 30)) (fun I12 => r_63 v1 v2 v3 (v4 + 1) I12 L) else nmW (uI I11 12 30 (jmax (I11 12 30) (I11 12 26))) (fun I13 => r_63 v1 v2 v3 (v4 + 1) I13 L)))
set_option maxRecDepth 100000 in
theorem E_X12_lobesOf_155 (N d : Nat) (r_54 : Int32 → Int32 → Int32 → PI → PL → RES) (r_63 : Int32 → Int32 → Int32 → Int32 → PI → PL → RES) (hr_54 : ∀ (v1 : Int32) (v2 : Int32) (v3 : Int32) (I : PI) (L : PL), EvW M_X12_lobesOf (d + 2) 54 [(0, .ref 12), (1, .int v1), (2, .int v2), (3, .int v3)] [] I L (r_54 v1 v2 v3 I L)) (hr_63 : ∀ (v1 : Int32) (v2 : Int32) (v3 : Int32) (v4 : Int32) (I : PI) (L : PL), EvW M_X12_lobesOf (d + 2) 63 [(0, .ref 12), (1, .int v1), (2, .int v2), (3, .int v3), (4, .int v4)] [] I L (r_63 v1 v2 v3 v4 I L)) (v1 : Int32) (v2 : Int32) (v3 : Int32) (v4 : Int32) (s0 : Int32) (s1 : Int32) (I : PI) (L : PL) : EvW M_X12_lobesOf (d + 2) 155 [(0, .ref 12), (1, .int v1), (2, .int v2), (3, .int v3), (4, .int v4)] [.int s0, .int s1, .ref 12] I L (F_X12_lobesOf_155 N r_54 r_63 v1 v2 v3 v4 s0 s1 I L) := by
  rw [F_X12_lobesOf_155]
  refine ev_iadd (pc := 155) dX12_lobesOf_155 ?_
  refine pf_X12_287 (pc := 156) rfl dX12_lobesOf_156 ?_
  refine ev_nmW (fun I11 => ?_)
  refine ev_aload_n (pc := 159) 0 dX12_lobesOf_159 rfl ?_
  refine ev_iload (pc := 160) 4 dX12_lobesOf_160 rfl ?_
  refine ev_if_le (pc := 162) 179 (by decide) dX12_lobesOf_162 ?_ ?_
  · refine ev_aload_n (pc := 179) 0 dX12_lobesOf_179 rfl ?_
    refine gf_X12_290 (pc := 180) rfl dX12_lobesOf_180 ?_
    refine pf_X12_290 (pc := 183) rfl dX12_lobesOf_183 ?_
    refine ev_nmW (fun I12 => ?_)
    refine ev_iinc (pc := 186) (lv' := [(4, .int (v4 + 1)), (0, .ref 12), (1, .int v1), (2, .int v2), (3, .int v3)]) dX12_lobesOf_186 4 rfl rfl 1 k_iconst_1 rfl ?_
    refine ev_goto (pc := 189) 63 (by decide) dX12_lobesOf_189 ?_
    refine EvW.sub [1, 2, 3, 4, 0] rfl ?_
    exact hr_63 v1 v2 v3 (v4 + 1) I12 L
  · refine ev_aload_n (pc := 165) 0 dX12_lobesOf_165 rfl ?_
    refine gf_X12_290 (pc := 166) rfl dX12_lobesOf_166 ?_
    refine ev_aload_n (pc := 169) 0 dX12_lobesOf_169 rfl ?_
    refine gf_X12_275 (pc := 170) rfl dX12_lobesOf_170 ?_
    refine ev_mmax (pc := 173) (d := d + 1) w_836 w_130 w_131 w_132 (Nat.le_of_ble_eq_true rfl) dX12_lobesOf_173 ?_
    refine ev_goto (pc := 176) 183 (by decide) dX12_lobesOf_176 ?_
    refine pf_X12_290 (pc := 183) rfl dX12_lobesOf_183 ?_
    refine ev_nmW (fun I13 => ?_)
    refine ev_iinc (pc := 186) (lv' := [(4, .int (v4 + 1)), (0, .ref 12), (1, .int v1), (2, .int v2), (3, .int v3)]) dX12_lobesOf_186 4 rfl rfl 1 k_iconst_1 rfl ?_
    refine ev_goto (pc := 189) 63 (by decide) dX12_lobesOf_189 ?_
    refine EvW.sub [1, 2, 3, 4, 0] rfl ?_
    exact hr_63 v1 v2 v3 (v4 + 1) I13 L
def F_X12_lobesOf_154 (N : Nat) (r_54 : Int32 → Int32 → Int32 → PI → PL → RES) (r_63 : Int32 → Int32 → Int32 → Int32 → PI → PL → RES) (v1 : Int32) (v2 : Int32) (v3 : Int32) (v4 : Int32) (s0 : Int32) (I : PI) (L : PL) : RES := F_X12_lobesOf_155 N r_54 r_63 v1 v2 v3 v4 0 s0 I L
set_option maxRecDepth 100000 in
theorem E_X12_lobesOf_154 (N d : Nat) (r_54 : Int32 → Int32 → Int32 → PI → PL → RES) (r_63 : Int32 → Int32 → Int32 → Int32 → PI → PL → RES) (hr_54 : ∀ (v1 : Int32) (v2 : Int32) (v3 : Int32) (I : PI) (L : PL), EvW M_X12_lobesOf (d + 2) 54 [(0, .ref 12), (1, .int v1), (2, .int v2), (3, .int v3)] [] I L (r_54 v1 v2 v3 I L)) (hr_63 : ∀ (v1 : Int32) (v2 : Int32) (v3 : Int32) (v4 : Int32) (I : PI) (L : PL), EvW M_X12_lobesOf (d + 2) 63 [(0, .ref 12), (1, .int v1), (2, .int v2), (3, .int v3), (4, .int v4)] [] I L (r_63 v1 v2 v3 v4 I L)) (v1 : Int32) (v2 : Int32) (v3 : Int32) (v4 : Int32) (s0 : Int32) (I : PI) (L : PL) : EvW M_X12_lobesOf (d + 2) 154 [(0, .ref 12), (1, .int v1), (2, .int v2), (3, .int v3), (4, .int v4)] [.int s0, .ref 12] I L (F_X12_lobesOf_154 N r_54 r_63 v1 v2 v3 v4 s0 I L) := by
  rw [F_X12_lobesOf_154]
  refine ev_iconst (pc := 154) 0 k_iconst_0 dX12_lobesOf_154 ?_
  exact E_X12_lobesOf_155 N d r_54 r_63 hr_54 hr_63 v1 v2 v3 v4 0 s0 I L
def F_X12_lobesOf_130 (N : Nat) (r_54 : Int32 → Int32 → Int32 → PI → PL → RES) (r_63 : Int32 → Int32 → Int32 → Int32 → PI → PL → RES) (v1 : Int32) (v2 : Int32) (v3 : Int32) (v4 : Int32) (s0 : Int32) (I : PI) (L : PL) : RES := nmW (uI I 12 28 s0) (fun I10 => (if v3 = 0 then F_X12_lobesOf_154 N r_54 r_63 v1 v2 v3 v4 (I10 12 29) I10 L else (if v4 = 0 then F_X12_lobesOf_155 N r_54 r_63 v1 v2 v3 v4 (I10 12 26) (I10 12 29) I10 L else F_X12_lobesOf_154 N r_54 r_63 v1 v2 v3 v4 (I10 12 29) I10 L)))
set_option maxRecDepth 100000 in
theorem E_X12_lobesOf_130 (N d : Nat) (r_54 : Int32 → Int32 → Int32 → PI → PL → RES) (r_63 : Int32 → Int32 → Int32 → Int32 → PI → PL → RES) (hr_54 : ∀ (v1 : Int32) (v2 : Int32) (v3 : Int32) (I : PI) (L : PL), EvW M_X12_lobesOf (d + 2) 54 [(0, .ref 12), (1, .int v1), (2, .int v2), (3, .int v3)] [] I L (r_54 v1 v2 v3 I L)) (hr_63 : ∀ (v1 : Int32) (v2 : Int32) (v3 : Int32) (v4 : Int32) (I : PI) (L : PL), EvW M_X12_lobesOf (d + 2) 63 [(0, .ref 12), (1, .int v1), (2, .int v2), (3, .int v3), (4, .int v4)] [] I L (r_63 v1 v2 v3 v4 I L)) (v1 : Int32) (v2 : Int32) (v3 : Int32) (v4 : Int32) (s0 : Int32) (I : PI) (L : PL) : EvW M_X12_lobesOf (d + 2) 130 [(0, .ref 12), (1, .int v1), (2, .int v2), (3, .int v3), (4, .int v4)] [.int s0, .ref 12] I L (F_X12_lobesOf_130 N r_54 r_63 v1 v2 v3 v4 s0 I L) := by
  rw [F_X12_lobesOf_130]
  refine pf_X12_284 (pc := 130) rfl dX12_lobesOf_130 ?_
  refine ev_nmW (fun I10 => ?_)
  refine ev_aload_n (pc := 133) 0 dX12_lobesOf_133 rfl ?_
  refine ev_dup (pc := 134) rfl dX12_lobesOf_134 ?_
  refine gf_X12_287 (pc := 135) rfl dX12_lobesOf_135 ?_
  refine ev_iload_n (pc := 138) 3 dX12_lobesOf_138 rfl ?_
  refine ev_if_eq (pc := 139) 154 (by decide) dX12_lobesOf_139 ?_ ?_
  · exact E_X12_lobesOf_154 N d r_54 r_63 hr_54 hr_63 v1 v2 v3 v4 (I10 12 29) I10 L
  · refine ev_iload (pc := 142) 4 dX12_lobesOf_142 rfl ?_
    refine ev_if_ne (pc := 144) 154 (by decide) dX12_lobesOf_144 ?_ ?_
    · exact E_X12_lobesOf_154 N d r_54 r_63 hr_54 hr_63 v1 v2 v3 v4 (I10 12 29) I10 L
    · refine ev_aload_n (pc := 147) 0 dX12_lobesOf_147 rfl ?_
      refine gf_X12_275 (pc := 148) rfl dX12_lobesOf_148 ?_
      refine ev_goto (pc := 151) 155 (by decide) dX12_lobesOf_151 ?_
      exact E_X12_lobesOf_155 N d r_54 r_63 hr_54 hr_63 v1 v2 v3 v4 (I10 12 26) (I10 12 29) I10 L
def F_X12_lobesOf_126 (N : Nat) (r_54 : Int32 → Int32 → Int32 → PI → PL → RES) (r_63 : Int32 → Int32 → Int32 → Int32 → PI → PL → RES) (v1 : Int32) (v2 : Int32) (v3 : Int32) (v4 : Int32) (I : PI) (L : PL) : RES := F_X12_lobesOf_130 N r_54 r_63 v1 v2 v3 v4 (I 12 28) I L
set_option maxRecDepth 100000 in
theorem E_X12_lobesOf_126 (N d : Nat) (r_54 : Int32 → Int32 → Int32 → PI → PL → RES) (r_63 : Int32 → Int32 → Int32 → Int32 → PI → PL → RES) (hr_54 : ∀ (v1 : Int32) (v2 : Int32) (v3 : Int32) (I : PI) (L : PL), EvW M_X12_lobesOf (d + 2) 54 [(0, .ref 12), (1, .int v1), (2, .int v2), (3, .int v3)] [] I L (r_54 v1 v2 v3 I L)) (hr_63 : ∀ (v1 : Int32) (v2 : Int32) (v3 : Int32) (v4 : Int32) (I : PI) (L : PL), EvW M_X12_lobesOf (d + 2) 63 [(0, .ref 12), (1, .int v1), (2, .int v2), (3, .int v3), (4, .int v4)] [] I L (r_63 v1 v2 v3 v4 I L)) (v1 : Int32) (v2 : Int32) (v3 : Int32) (v4 : Int32) (I : PI) (L : PL) : EvW M_X12_lobesOf (d + 2) 126 [(0, .ref 12), (1, .int v1), (2, .int v2), (3, .int v3), (4, .int v4)] [.ref 12] I L (F_X12_lobesOf_126 N r_54 r_63 v1 v2 v3 v4 I L) := by
  rw [F_X12_lobesOf_126]
  refine ev_aload_n (pc := 126) 0 dX12_lobesOf_126 rfl ?_
  refine gf_X12_284 (pc := 127) rfl dX12_lobesOf_127 ?_
  exact E_X12_lobesOf_130 N d r_54 r_63 hr_54 hr_63 v1 v2 v3 v4 (I 12 28) I L
def F_X12_lobesOf_99 (N : Nat) (r_54 : Int32 → Int32 → Int32 → PI → PL → RES) (r_63 : Int32 → Int32 → Int32 → Int32 → PI → PL → RES) (v1 : Int32) (v2 : Int32) (v3 : Int32) (v4 : Int32) (s0 : Int32) (I : PI) (L : PL) : RES := nmW (uI I 12 27 s0) (fun I9 => (if v3 = 0 then F_X12_lobesOf_126 N r_54 r_63 v1 v2 v3 v4 I9 L else (if v4 = 0 then F_X12_lobesOf_130 N r_54 r_63 v1 v2 v3 v4 (jmax (I9 12 28) (I9 12 26)) I9 L else F_X12_lobesOf_126 N r_54 r_63 v1 v2 v3 v4 I9 L)))
set_option maxRecDepth 100000 in
theorem E_X12_lobesOf_99 (N d : Nat) (r_54 : Int32 → Int32 → Int32 → PI → PL → RES) (r_63 : Int32 → Int32 → Int32 → Int32 → PI → PL → RES) (hr_54 : ∀ (v1 : Int32) (v2 : Int32) (v3 : Int32) (I : PI) (L : PL), EvW M_X12_lobesOf (d + 2) 54 [(0, .ref 12), (1, .int v1), (2, .int v2), (3, .int v3)] [] I L (r_54 v1 v2 v3 I L)) (hr_63 : ∀ (v1 : Int32) (v2 : Int32) (v3 : Int32) (v4 : Int32) (I : PI) (L : PL), EvW M_X12_lobesOf (d + 2) 63 [(0, .ref 12), (1, .int v1), (2, .int v2), (3, .int v3), (4, .int v4)] [] I L (r_63 v1 v2 v3 v4 I L)) (v1 : Int32) (v2 : Int32) (v3 : Int32) (v4 : Int32) (s0 : Int32) (I : PI) (L : PL) : EvW M_X12_lobesOf (d + 2) 99 [(0, .ref 12), (1, .int v1), (2, .int v2), (3, .int v3), (4, .int v4)] [.int s0, .ref 12] I L (F_X12_lobesOf_99 N r_54 r_63 v1 v2 v3 v4 s0 I L) := by
  rw [F_X12_lobesOf_99]
  refine pf_X12_293 (pc := 99) rfl dX12_lobesOf_99 ?_
  refine ev_nmW (fun I9 => ?_)
  refine ev_aload_n (pc := 102) 0 dX12_lobesOf_102 rfl ?_
  refine ev_iload_n (pc := 103) 3 dX12_lobesOf_103 rfl ?_
  refine ev_if_eq (pc := 104) 126 (by decide) dX12_lobesOf_104 ?_ ?_
  · exact E_X12_lobesOf_126 N d r_54 r_63 hr_54 hr_63 v1 v2 v3 v4 I9 L
  · refine ev_iload (pc := 107) 4 dX12_lobesOf_107 rfl ?_
    refine ev_if_ne (pc := 109) 126 (by decide) dX12_lobesOf_109 ?_ ?_
    · exact E_X12_lobesOf_126 N d r_54 r_63 hr_54 hr_63 v1 v2 v3 v4 I9 L
    · refine ev_aload_n (pc := 112) 0 dX12_lobesOf_112 rfl ?_
      refine gf_X12_284 (pc := 113) rfl dX12_lobesOf_113 ?_
      refine ev_aload_n (pc := 116) 0 dX12_lobesOf_116 rfl ?_
      refine gf_X12_275 (pc := 117) rfl dX12_lobesOf_117 ?_
      refine ev_mmax (pc := 120) (d := d + 1) w_836 w_130 w_131 w_132 (Nat.le_of_ble_eq_true rfl) dX12_lobesOf_120 ?_
      refine ev_goto (pc := 123) 130 (by decide) dX12_lobesOf_123 ?_
      exact E_X12_lobesOf_130 N d r_54 r_63 hr_54 hr_63 v1 v2 v3 v4 (jmax (I9 12 28) (I9 12 26)) I9 L
def F_X12_lobesOf_95 (N : Nat) (r_54 : Int32 → Int32 → Int32 → PI → PL → RES) (r_63 : Int32 → Int32 → Int32 → Int32 → PI → PL → RES) (v1 : Int32) (v2 : Int32) (v3 : Int32) (v4 : Int32) (I : PI) (L : PL) : RES := F_X12_lobesOf_99 N r_54 r_63 v1 v2 v3 v4 (I 12 27) I L
set_option maxRecDepth 100000 in
theorem E_X12_lobesOf_95 (N d : Nat) (r_54 : Int32 → Int32 → Int32 → PI → PL → RES) (r_63 : Int32 → Int32 → Int32 → Int32 → PI → PL → RES) (hr_54 : ∀ (v1 : Int32) (v2 : Int32) (v3 : Int32) (I : PI) (L : PL), EvW M_X12_lobesOf (d + 2) 54 [(0, .ref 12), (1, .int v1), (2, .int v2), (3, .int v3)] [] I L (r_54 v1 v2 v3 I L)) (hr_63 : ∀ (v1 : Int32) (v2 : Int32) (v3 : Int32) (v4 : Int32) (I : PI) (L : PL), EvW M_X12_lobesOf (d + 2) 63 [(0, .ref 12), (1, .int v1), (2, .int v2), (3, .int v3), (4, .int v4)] [] I L (r_63 v1 v2 v3 v4 I L)) (v1 : Int32) (v2 : Int32) (v3 : Int32) (v4 : Int32) (I : PI) (L : PL) : EvW M_X12_lobesOf (d + 2) 95 [(0, .ref 12), (1, .int v1), (2, .int v2), (3, .int v3), (4, .int v4)] [.ref 12] I L (F_X12_lobesOf_95 N r_54 r_63 v1 v2 v3 v4 I L) := by
  rw [F_X12_lobesOf_95]
  refine ev_aload_n (pc := 95) 0 dX12_lobesOf_95 rfl ?_
  refine gf_X12_293 (pc := 96) rfl dX12_lobesOf_96 ?_
  exact E_X12_lobesOf_99 N d r_54 r_63 hr_54 hr_63 v1 v2 v3 v4 (I 12 27) I L
def F_X12_lobesOf_63 (N : Nat) (r_54 : Int32 → Int32 → Int32 → PI → PL → RES) : Nat → Int32 → Int32 → Int32 → Int32 → PI → PL → RES
  | 0, _, _, _, _, _, _ => none
  | n + 1, v1, v2, v3, v4, I, L => (if 4 ≤ v4 then r_54 v1 v2 (v3 + 1) I L else bV (f_X12_sum_ N v1 v1 v3 v4 I L) (fun I7 L8 => (if v3 = 0 then (if v4 = 0 then F_X12_lobesOf_99 N r_54 (F_X12_lobesOf_63 N r_54 n) v1 v2 v3 v4 (I7 12 26) I7 L8 else F_X12_lobesOf_95 N r_54 (F_X12_lobesOf_63 N r_54 n) v1 v2 v3 v4 I7 L8) else F_X12_lobesOf_95 N r_54 (F_X12_lobesOf_63 N r_54 n) v1 v2 v3 v4 I7 L8)))
set_option maxRecDepth 100000 in
theorem E_X12_lobesOf_63 (N d : Nat) (r_54 : Int32 → Int32 → Int32 → PI → PL → RES) (hr_54 : ∀ (v1 : Int32) (v2 : Int32) (v3 : Int32) (I : PI) (L : PL), EvW M_X12_lobesOf (d + 2) 54 [(0, .ref 12), (1, .int v1), (2, .int v2), (3, .int v3)] [] I L (r_54 v1 v2 v3 I L)) : ∀ (n : Nat) (v1 : Int32) (v2 : Int32) (v3 : Int32) (v4 : Int32) (I : PI) (L : PL), EvW M_X12_lobesOf (d + 2) 63 [(0, .ref 12), (1, .int v1), (2, .int v2), (3, .int v3), (4, .int v4)] [] I L (F_X12_lobesOf_63 N r_54 n v1 v2 v3 v4 I L) := by
  intro n
  induction n with
  | zero =>
    intro v1 v2 v3 v4 I L
    exact EvW.none
  | succ n hr_63 =>
    intro v1 v2 v3 v4 I L
    rw [F_X12_lobesOf_63]
    refine ev_iload (pc := 63) 4 dX12_lobesOf_63 rfl ?_
    refine ev_iconst (pc := 65) 4 k_iconst_4 dX12_lobesOf_65 ?_
    refine ev_icmp_ge (pc := 66) 192 (by decide) dX12_lobesOf_66 ?_ ?_
    · refine ev_iinc (pc := 192) (lv' := [(3, .int (v3 + 1)), (0, .ref 12), (1, .int v1), (2, .int v2), (4, .int v4)]) dX12_lobesOf_192 3 rfl rfl 1 k_iconst_1 rfl ?_
      refine ev_goto (pc := 195) 54 (by decide) dX12_lobesOf_195 ?_
      refine EvW.sub [1, 2, 3, 0] rfl ?_
      exact hr_54 v1 v2 (v3 + 1) I L
    · refine ev_aload_n (pc := 69) 0 dX12_lobesOf_69 rfl ?_
      refine ev_iload_n (pc := 70) 1 dX12_lobesOf_70 rfl ?_
      refine ev_iload_n (pc := 71) 1 dX12_lobesOf_71 rfl ?_
      refine ev_iload_n (pc := 72) 3 dX12_lobesOf_72 rfl ?_
      refine ev_iload (pc := 73) 4 dX12_lobesOf_73 rfl ?_
      refine ev_callVV (pc := 75) (d := d + 1) (As := [.int v1, .int v1, .int v3, .int v4]) (st := []) cv_X12_sum_ rfl w_852 rfl (Nat.le_of_ble_eq_true rfl) (ok_X12_sum_ N (d) v1 v1 v3 v4 I L) dX12_lobesOf_75 (fun I7 L8 => ?_)
      refine ev_aload_n (pc := 78) 0 dX12_lobesOf_78 rfl ?_
      refine ev_iload_n (pc := 79) 3 dX12_lobesOf_79 rfl ?_
      refine ev_if_ne (pc := 80) 95 (by decide) dX12_lobesOf_80 ?_ ?_
      · exact E_X12_lobesOf_95 N d r_54 (F_X12_lobesOf_63 N r_54 n) hr_54 hr_63 v1 v2 v3 v4 I7 L8
      · refine ev_iload (pc := 83) 4 dX12_lobesOf_83 rfl ?_
        refine ev_if_ne (pc := 85) 95 (by decide) dX12_lobesOf_85 ?_ ?_
        · exact E_X12_lobesOf_95 N d r_54 (F_X12_lobesOf_63 N r_54 n) hr_54 hr_63 v1 v2 v3 v4 I7 L8
        · refine ev_aload_n (pc := 88) 0 dX12_lobesOf_88 rfl ?_
          refine gf_X12_275 (pc := 89) rfl dX12_lobesOf_89 ?_
          refine ev_goto (pc := 92) 99 (by decide) dX12_lobesOf_92 ?_
          exact E_X12_lobesOf_99 N d r_54 (F_X12_lobesOf_63 N r_54 n) hr_54 hr_63 v1 v2 v3 v4 (I7 12 26) I7 L8
def F_X12_lobesOf_54 (N : Nat) : Nat → Int32 → Int32 → Int32 → PI → PL → RES
  | 0, _, _, _, _, _ => none
  | n + 1, v1, v2, v3, I, L => (if 24 ≤ v3 then (if v2 = 0 then nmW (uI I 12 31 0) (fun I5 => some (none, I5, L)) else gd (inb v1 9) (gd (decide (¬ ((Int32.toInt64 (I 50 (Int32.toNatClampNeg v1))) * (Int32.toInt64 v2)) = 0)) (nmW (uI I 12 31 (Int64.toInt32 ((1000000 * (Int32.toInt64 (I 12 27))) / ((Int32.toInt64 (I 50 (Int32.toNatClampNeg v1))) * (Int32.toInt64 v2))))) (fun I4 => some (none, I4, L))))) else F_X12_lobesOf_63 N (F_X12_lobesOf_54 N n) N v1 v2 v3 0 I L)
set_option maxRecDepth 100000 in
theorem E_X12_lobesOf_54 (N d : Nat) : ∀ (n : Nat) (v1 : Int32) (v2 : Int32) (v3 : Int32) (I : PI) (L : PL), EvW M_X12_lobesOf (d + 2) 54 [(0, .ref 12), (1, .int v1), (2, .int v2), (3, .int v3)] [] I L (F_X12_lobesOf_54 N n v1 v2 v3 I L) := by
  intro n
  induction n with
  | zero =>
    intro v1 v2 v3 I L
    exact EvW.none
  | succ n hr_54 =>
    intro v1 v2 v3 I L
    rw [F_X12_lobesOf_54]
    refine ev_iload_n (pc := 54) 3 dX12_lobesOf_54 rfl ?_
    refine ev_bipush (pc := 55) 24 k_bipush_24 dX12_lobesOf_55 ?_
    refine ev_icmp_ge (pc := 57) 198 (by decide) dX12_lobesOf_57 ?_ ?_
    · refine ev_aload_n (pc := 198) 0 dX12_lobesOf_198 rfl ?_
      refine ev_iload_n (pc := 199) 2 dX12_lobesOf_199 rfl ?_
      refine ev_if_ne (pc := 200) 207 (by decide) dX12_lobesOf_200 ?_ ?_
      · refine ev_ldc2 (pc := 207) w_818 dX12_lobesOf_207 ?_
        refine ev_aload_n (pc := 210) 0 dX12_lobesOf_210 rfl ?_
        refine gf_X12_293 (pc := 211) rfl dX12_lobesOf_211 ?_
        refine ev_i2l (pc := 214) dX12_lobesOf_214 ?_
        refine ev_lmul (pc := 215) dX12_lobesOf_215 ?_
        refine ev_aload_n (pc := 216) 0 dX12_lobesOf_216 rfl ?_
        refine gf_X12_43 (pc := 217) rfl dX12_lobesOf_217 ?_
        refine ev_iload_n (pc := 220) 1 dX12_lobesOf_220 rfl ?_
        refine ev_iald (pc := 221) kK_50 dX12_lobesOf_221 ?_
        refine ev_i2l (pc := 222) dX12_lobesOf_222 ?_
        refine ev_iload_n (pc := 223) 2 dX12_lobesOf_223 rfl ?_
        refine ev_i2l (pc := 224) dX12_lobesOf_224 ?_
        refine ev_lmul (pc := 225) dX12_lobesOf_225 ?_
        refine ev_ldiv (pc := 226) dX12_lobesOf_226 ?_
        refine ev_l2i (pc := 227) dX12_lobesOf_227 ?_
        refine pf_X12_296 (pc := 228) rfl dX12_lobesOf_228 ?_
        refine ev_nmW (fun I4 => ?_)
        exact ev_vret (pc := 231) rfl dX12_lobesOf_231
      · refine ev_iconst (pc := 203) 0 k_iconst_0 dX12_lobesOf_203 ?_
        refine ev_goto (pc := 204) 228 (by decide) dX12_lobesOf_204 ?_
        refine pf_X12_296 (pc := 228) rfl dX12_lobesOf_228 ?_
        refine ev_nmW (fun I5 => ?_)
        exact ev_vret (pc := 231) rfl dX12_lobesOf_231
    · refine ev_iconst (pc := 60) 0 k_iconst_0 dX12_lobesOf_60 ?_
      refine ev_istore (pc := 61) (lv' := [(4, .int 0), (0, .ref 12), (1, .int v1), (2, .int v2), (3, .int v3)]) dX12_lobesOf_61 rfl rfl ?_
      refine EvW.sub [1, 2, 3, 4, 0] rfl ?_
      exact E_X12_lobesOf_63 N d (F_X12_lobesOf_54 N n) hr_54 N v1 v2 v3 0 I L
def F_X12_lobesOf_4 (N : Nat) : Nat → Int32 → Int32 → Int32 → PI → PL → RES
  | 0, _, _, _, _, _ => none
  | n + 1, v1, v2, v3, I, L => gd (inb v1 9) ((if (I 50 (Int32.toNatClampNeg v1)) ≤ v3 then nmW (uI I 12 28 0) (fun I1 => nmW (uI I1 12 29 0) (fun I2 => nmW (uI I2 12 30 0) (fun I3 => F_X12_lobesOf_54 N N v1 v2 (-23 : Int32) I3 L))) else gd (inb v3 24) (gd (inb v3 24) (nmI (v2 + ((I 53 (Int32.toNatClampNeg v3)) * (I 53 (Int32.toNatClampNeg v3)))) (fun x14 => (F_X12_lobesOf_4 N n) v1 x14 (v3 + 1) I L)))))
set_option maxRecDepth 100000 in
theorem E_X12_lobesOf_4 (N d : Nat) : ∀ (n : Nat) (v1 : Int32) (v2 : Int32) (v3 : Int32) (I : PI) (L : PL), EvW M_X12_lobesOf (d + 2) 4 [(0, .ref 12), (1, .int v1), (2, .int v2), (3, .int v3)] [] I L (F_X12_lobesOf_4 N n v1 v2 v3 I L) := by
  intro n
  induction n with
  | zero =>
    intro v1 v2 v3 I L
    exact EvW.none
  | succ n hr_4 =>
    intro v1 v2 v3 I L
    rw [F_X12_lobesOf_4]
    refine ev_iload_n (pc := 4) 3 dX12_lobesOf_4 rfl ?_
    refine ev_aload_n (pc := 5) 0 dX12_lobesOf_5 rfl ?_
    refine gf_X12_43 (pc := 6) rfl dX12_lobesOf_6 ?_
    refine ev_iload_n (pc := 9) 1 dX12_lobesOf_9 rfl ?_
    refine ev_iald (pc := 10) kK_50 dX12_lobesOf_10 ?_
    refine ev_icmp_ge (pc := 11) 36 (by decide) dX12_lobesOf_11 ?_ ?_
    · refine ev_aload_n (pc := 36) 0 dX12_lobesOf_36 rfl ?_
      refine ev_iconst (pc := 37) 0 k_iconst_0 dX12_lobesOf_37 ?_
      refine pf_X12_284 (pc := 38) rfl dX12_lobesOf_38 ?_
      refine ev_nmW (fun I1 => ?_)
      refine ev_aload_n (pc := 41) 0 dX12_lobesOf_41 rfl ?_
      refine ev_iconst (pc := 42) 0 k_iconst_0 dX12_lobesOf_42 ?_
      refine pf_X12_287 (pc := 43) rfl dX12_lobesOf_43 ?_
      refine ev_nmW (fun I2 => ?_)
      refine ev_aload_n (pc := 46) 0 dX12_lobesOf_46 rfl ?_
      refine ev_iconst (pc := 47) 0 k_iconst_0 dX12_lobesOf_47 ?_
      refine pf_X12_290 (pc := 48) rfl dX12_lobesOf_48 ?_
      refine ev_nmW (fun I3 => ?_)
      refine ev_bipush (pc := 51) (-23 : Int32) k_bipush_m23 dX12_lobesOf_51 ?_
      refine ev_istore_n (pc := 53) (lv' := [(3, .int (-23 : Int32)), (0, .ref 12), (1, .int v1), (2, .int v2)]) dX12_lobesOf_53 rfl rfl rfl ?_
      refine EvW.sub [1, 2, 3, 0] rfl ?_
      exact E_X12_lobesOf_54 N d N v1 v2 (-23 : Int32) I3 L
    · refine ev_iload_n (pc := 14) 2 dX12_lobesOf_14 rfl ?_
      refine ev_aload_n (pc := 15) 0 dX12_lobesOf_15 rfl ?_
      refine gf_X12_52 (pc := 16) rfl dX12_lobesOf_16 ?_
      refine ev_iload_n (pc := 19) 3 dX12_lobesOf_19 rfl ?_
      refine ev_iald (pc := 20) kK_53 dX12_lobesOf_20 ?_
      refine ev_aload_n (pc := 21) 0 dX12_lobesOf_21 rfl ?_
      refine gf_X12_52 (pc := 22) rfl dX12_lobesOf_22 ?_
      refine ev_iload_n (pc := 25) 3 dX12_lobesOf_25 rfl ?_
      refine ev_iald (pc := 26) kK_53 dX12_lobesOf_26 ?_
      refine ev_imul (pc := 27) dX12_lobesOf_27 ?_
      refine ev_iadd (pc := 28) dX12_lobesOf_28 ?_
      refine ev_nmI (fun x14 => ?_)
      refine ev_istore_n (pc := 29) (lv' := [(2, .int x14), (0, .ref 12), (1, .int v1), (3, .int v3)]) dX12_lobesOf_29 rfl rfl rfl ?_
      refine ev_iinc (pc := 30) (lv' := [(3, .int (v3 + 1)), (2, .int x14), (0, .ref 12), (1, .int v1)]) dX12_lobesOf_30 3 rfl rfl 1 k_iconst_1 rfl ?_
      refine ev_goto (pc := 33) 4 (by decide) dX12_lobesOf_33 ?_
      refine EvW.sub [2, 3, 1, 0] rfl ?_
      exact hr_4 v1 x14 (v3 + 1) I L
def f_X12_lobesOf (N : Nat) (a1 : Int32) (I : PI) (L : PL) : RES := F_X12_lobesOf_4 N N a1 0 0 I L
set_option maxRecDepth 100000 in
theorem ok_X12_lobesOf (N d : Nat) (a1 : Int32) (I : PI) (L : PL) : MOk M_X12_lobesOf (d + 2) [.ref 12, .int a1] I L (f_X12_lobesOf N a1 I L) := by
  refine MOk.of (by decide +kernel) (Nat.le_of_ble_eq_true rfl) ?_
  show EvW _ _ 0 [(0, .ref 12), (1, .int a1)] [] I L _
  rw [f_X12_lobesOf]
  refine ev_iconst (pc := 0) 0 k_iconst_0 dX12_lobesOf_0 ?_
  refine ev_istore_n (pc := 1) (lv' := [(2, .int 0), (0, .ref 12), (1, .int a1)]) dX12_lobesOf_1 rfl rfl rfl ?_
  refine ev_iconst (pc := 2) 0 k_iconst_0 dX12_lobesOf_2 ?_
  refine ev_istore_n (pc := 3) (lv' := [(3, .int 0), (2, .int 0), (0, .ref 12), (1, .int a1)]) dX12_lobesOf_3 rfl rfl rfl ?_
  refine EvW.sub [2, 3, 1, 0] rfl ?_
  exact E_X12_lobesOf_4 N d N a1 0 0 I L
def f_X12_lobes (N : Nat) (a1 : Int32) (a2 : Int32) (a3 : Int32) (I : PI) (L : PL) : RES := bI (f_X12_isCode N a1 I L) (fun x1 I2 L3 => (if x1 = 0 then some (some (.int (-1 : Int32)), I2, L3) else bI (f_X12_isLaw N a2 I2 L3) (fun x4 I5 L6 => (if x4 = 0 then some (some (.int (-1 : Int32)), I5, L6) else bI (f_X12_in N a3 0 4 I5 L6) (fun x7 I8 L9 => (if x7 = 0 then some (some (.int (-1 : Int32)), I8, L9) else bV (f_X12_lay N a1 a2 I8 L9) (fun I11 L12 => bV (f_X12_lobesOf N a1 I11 L12) (fun I14 L15 => (if a3 = 0 then some (some (.int (I14 12 27)), I14, L15) else (if a3 = 1 then some (some (.int (I14 12 28)), I14, L15) else (if a3 = 2 then some (some (.int (I14 12 29)), I14, L15) else (if a3 = 3 then some (some (.int (I14 12 30)), I14, L15) else some (some (.int (I14 12 31)), I14, L15)))))))))))))
set_option maxRecDepth 100000 in
theorem ok_X12_lobes (N d : Nat) (a1 : Int32) (a2 : Int32) (a3 : Int32) (I : PI) (L : PL) : MOk M_X12_lobes (d + 7) [.ref 12, .int a1, .int a2, .int a3] I L (f_X12_lobes N a1 a2 a3 I L) := by
  refine MOk.of (by decide +kernel) (Nat.le_of_ble_eq_true rfl) ?_
  show EvW _ _ 0 [(0, .ref 12), (1, .int a1), (2, .int a2), (3, .int a3)] [] I L _
  rw [f_X12_lobes]
  refine ev_aload_n (pc := 0) 0 dX12_lobes_0 rfl ?_
  refine ev_iload_n (pc := 1) 1 dX12_lobes_1 rfl ?_
  refine ev_callVI (pc := 2) (d := d + 6) (As := [.int a1]) (st := []) cv_X12_isCode rfl w_802 rfl (Nat.le_of_ble_eq_true rfl) (ok_X12_isCode N (d + 5) a1 I L) dX12_lobes_2 (fun x1 I2 L3 => ?_)
  refine ev_if_eq (pc := 5) 25 (by decide) dX12_lobes_5 ?_ ?_
  · refine ev_iconst (pc := 25) (-1 : Int32) k_iconst_m1 dX12_lobes_25 ?_
    exact ev_iret (pc := 26) rfl dX12_lobes_26
  · refine ev_aload_n (pc := 8) 0 dX12_lobes_8 rfl ?_
    refine ev_iload_n (pc := 9) 2 dX12_lobes_9 rfl ?_
    refine ev_callVI (pc := 10) (d := d + 6) (As := [.int a2]) (st := []) cv_X12_isLaw rfl w_811 rfl (Nat.le_of_ble_eq_true rfl) (ok_X12_isLaw N (d + 5) a2 I2 L3) dX12_lobes_10 (fun x4 I5 L6 => ?_)
    refine ev_if_eq (pc := 13) 25 (by decide) dX12_lobes_13 ?_ ?_
    · refine ev_iconst (pc := 25) (-1 : Int32) k_iconst_m1 dX12_lobes_25 ?_
      exact ev_iret (pc := 26) rfl dX12_lobes_26
    · refine ev_iload_n (pc := 16) 3 dX12_lobes_16 rfl ?_
      refine ev_iconst (pc := 17) 0 k_iconst_0 dX12_lobes_17 ?_
      refine ev_iconst (pc := 18) 4 k_iconst_4 dX12_lobes_18 ?_
      refine ev_callSI (pc := 19) (d := d + 6) (As := [.int a3, .int 0, .int 4]) (st := []) cv_X12_in rfl w_790 rfl (Nat.le_of_ble_eq_true rfl) (ok_X12_in N (d + 6) a3 0 4 I5 L6) dX12_lobes_19 (fun x7 I8 L9 => ?_)
      refine ev_if_ne (pc := 22) 27 (by decide) dX12_lobes_22 ?_ ?_
      · refine ev_aload_n (pc := 27) 0 dX12_lobes_27 rfl ?_
        refine ev_iload_n (pc := 28) 1 dX12_lobes_28 rfl ?_
        refine ev_iload_n (pc := 29) 2 dX12_lobes_29 rfl ?_
        refine ev_callVV (pc := 30) (d := d + 6) (As := [.int a1, .int a2]) (st := []) cv_X12_lay rfl w_845 rfl (Nat.le_of_ble_eq_true rfl) (ok_X12_lay N (d) a1 a2 I8 L9) dX12_lobes_30 (fun I11 L12 => ?_)
        refine ev_aload_n (pc := 33) 0 dX12_lobes_33 rfl ?_
        refine ev_iload_n (pc := 34) 1 dX12_lobes_34 rfl ?_
        refine ev_callVV (pc := 35) (d := d + 6) (As := [.int a1]) (st := []) cv_X12_lobesOf rfl w_861 rfl (Nat.le_of_ble_eq_true rfl) (ok_X12_lobesOf N (d + 4) a1 I11 L12) dX12_lobes_35 (fun I14 L15 => ?_)
        refine ev_iload_n (pc := 38) 3 dX12_lobes_38 rfl ?_
        refine ev_if_ne (pc := 39) 49 (by decide) dX12_lobes_39 ?_ ?_
        · refine ev_iload_n (pc := 49) 3 dX12_lobes_49 rfl ?_
          refine ev_iconst (pc := 50) 1 k_iconst_1 dX12_lobes_50 ?_
          refine ev_icmp_ne (pc := 51) 61 (by decide) dX12_lobes_51 ?_ ?_
          · refine ev_iload_n (pc := 61) 3 dX12_lobes_61 rfl ?_
            refine ev_iconst (pc := 62) 2 k_iconst_2 dX12_lobes_62 ?_
            refine ev_icmp_ne (pc := 63) 73 (by decide) dX12_lobes_63 ?_ ?_
            · refine ev_iload_n (pc := 73) 3 dX12_lobes_73 rfl ?_
              refine ev_iconst (pc := 74) 3 k_iconst_3 dX12_lobes_74 ?_
              refine ev_icmp_ne (pc := 75) 85 (by decide) dX12_lobes_75 ?_ ?_
              · refine ev_aload_n (pc := 85) 0 dX12_lobes_85 rfl ?_
                refine gf_X12_296 (pc := 86) rfl dX12_lobes_86 ?_
                exact ev_iret (pc := 89) rfl dX12_lobes_89
              · refine ev_aload_n (pc := 78) 0 dX12_lobes_78 rfl ?_
                refine gf_X12_290 (pc := 79) rfl dX12_lobes_79 ?_
                refine ev_goto (pc := 82) 89 (by decide) dX12_lobes_82 ?_
                exact ev_iret (pc := 89) rfl dX12_lobes_89
            · refine ev_aload_n (pc := 66) 0 dX12_lobes_66 rfl ?_
              refine gf_X12_287 (pc := 67) rfl dX12_lobes_67 ?_
              refine ev_goto (pc := 70) 89 (by decide) dX12_lobes_70 ?_
              exact ev_iret (pc := 89) rfl dX12_lobes_89
          · refine ev_aload_n (pc := 54) 0 dX12_lobes_54 rfl ?_
            refine gf_X12_284 (pc := 55) rfl dX12_lobes_55 ?_
            refine ev_goto (pc := 58) 89 (by decide) dX12_lobes_58 ?_
            exact ev_iret (pc := 89) rfl dX12_lobes_89
        · refine ev_aload_n (pc := 42) 0 dX12_lobes_42 rfl ?_
          refine gf_X12_293 (pc := 43) rfl dX12_lobes_43 ?_
          refine ev_goto (pc := 46) 89 (by decide) dX12_lobes_46 ?_
          exact ev_iret (pc := 89) rfl dX12_lobes_89
      · refine ev_iconst (pc := 25) (-1 : Int32) k_iconst_m1 dX12_lobes_25 ?_
        exact ev_iret (pc := 26) rfl dX12_lobes_26
def F_X12_hinderOf_12 (N : Nat) : Nat → Int32 → Int32 → Int32 → Int32 → PI → PL → RES
  | 0, _, _, _, _, _, _ => none
  | n + 1, v1, v2, v3, v4, I, L => (if 24 ≤ v4 then some (some (.int v3), I, L) else bV (f_X12_sum_ N v1 v2 v4 0 I L) (fun I5 L6 => nmI (jmax v3 (I5 12 26)) (fun x7 => (F_X12_hinderOf_12 N n) v1 v2 x7 (v4 + 1) I5 L6)))
set_option maxRecDepth 100000 in
theorem E_X12_hinderOf_12 (N d : Nat) : ∀ (n : Nat) (v1 : Int32) (v2 : Int32) (v3 : Int32) (v4 : Int32) (I : PI) (L : PL), EvW M_X12_hinderOf (d + 7) 12 [(0, .ref 12), (1, .int v1), (2, .int v2), (3, .int v3), (4, .int v4)] [] I L (F_X12_hinderOf_12 N n v1 v2 v3 v4 I L) := by
  intro n
  induction n with
  | zero =>
    intro v1 v2 v3 v4 I L
    exact EvW.none
  | succ n hr_12 =>
    intro v1 v2 v3 v4 I L
    rw [F_X12_hinderOf_12]
    refine ev_iload (pc := 12) 4 dX12_hinderOf_12 rfl ?_
    refine ev_bipush (pc := 14) 24 k_bipush_24 dX12_hinderOf_14 ?_
    refine ev_icmp_ge (pc := 16) 43 (by decide) dX12_hinderOf_16 ?_ ?_
    · refine ev_iload_n (pc := 43) 3 dX12_hinderOf_43 rfl ?_
      exact ev_iret (pc := 44) rfl dX12_hinderOf_44
    · refine ev_aload_n (pc := 19) 0 dX12_hinderOf_19 rfl ?_
      refine ev_iload_n (pc := 20) 1 dX12_hinderOf_20 rfl ?_
      refine ev_iload_n (pc := 21) 2 dX12_hinderOf_21 rfl ?_
      refine ev_iload (pc := 22) 4 dX12_hinderOf_22 rfl ?_
      refine ev_iconst (pc := 24) 0 k_iconst_0 dX12_hinderOf_24 ?_
      refine ev_callVV (pc := 25) (d := d + 6) (As := [.int v1, .int v2, .int v4, .int 0]) (st := []) cv_X12_sum_ rfl w_852 rfl (Nat.le_of_ble_eq_true rfl) (ok_X12_sum_ N (d + 5) v1 v2 v4 0 I L) dX12_hinderOf_25 (fun I5 L6 => ?_)
      refine ev_iload_n (pc := 28) 3 dX12_hinderOf_28 rfl ?_
      refine ev_aload_n (pc := 29) 0 dX12_hinderOf_29 rfl ?_
      refine gf_X12_275 (pc := 30) rfl dX12_hinderOf_30 ?_
      refine ev_mmax (pc := 33) (d := d + 6) w_836 w_130 w_131 w_132 (Nat.le_of_ble_eq_true rfl) dX12_hinderOf_33 ?_
      refine ev_nmI (fun x7 => ?_)
      refine ev_istore_n (pc := 36) (lv' := [(3, .int x7), (0, .ref 12), (1, .int v1), (2, .int v2), (4, .int v4)]) dX12_hinderOf_36 rfl rfl rfl ?_
      refine ev_iinc (pc := 37) (lv' := [(4, .int (v4 + 1)), (3, .int x7), (0, .ref 12), (1, .int v1), (2, .int v2)]) dX12_hinderOf_37 4 rfl rfl 1 k_iconst_1 rfl ?_
      refine ev_goto (pc := 40) 12 (by decide) dX12_hinderOf_40 ?_
      refine EvW.sub [2, 3, 4, 1, 0] rfl ?_
      exact hr_12 v1 v2 x7 (v4 + 1) I5 L6
def f_X12_hinderOf (N : Nat) (a1 : Int32) (a2 : Int32) (I : PI) (L : PL) : RES := bV (f_X12_lay N a2 (-1 : Int32) I L) (fun I2 L3 => F_X12_hinderOf_12 N N a1 a2 0 (-23 : Int32) I2 L3)
set_option maxRecDepth 100000 in
theorem ok_X12_hinderOf (N d : Nat) (a1 : Int32) (a2 : Int32) (I : PI) (L : PL) : MOk M_X12_hinderOf (d + 7) [.ref 12, .int a1, .int a2] I L (f_X12_hinderOf N a1 a2 I L) := by
  refine MOk.of (by decide +kernel) (Nat.le_of_ble_eq_true rfl) ?_
  show EvW _ _ 0 [(0, .ref 12), (1, .int a1), (2, .int a2)] [] I L _
  rw [f_X12_hinderOf]
  refine ev_aload_n (pc := 0) 0 dX12_hinderOf_0 rfl ?_
  refine ev_iload_n (pc := 1) 2 dX12_hinderOf_1 rfl ?_
  refine ev_iconst (pc := 2) (-1 : Int32) k_iconst_m1 dX12_hinderOf_2 ?_
  refine ev_callVV (pc := 3) (d := d + 6) (As := [.int a2, .int (-1 : Int32)]) (st := []) cv_X12_lay rfl w_845 rfl (Nat.le_of_ble_eq_true rfl) (ok_X12_lay N (d) a2 (-1 : Int32) I L) dX12_hinderOf_3 (fun I2 L3 => ?_)
  refine ev_iconst (pc := 6) 0 k_iconst_0 dX12_hinderOf_6 ?_
  refine ev_istore_n (pc := 7) (lv' := [(3, .int 0), (0, .ref 12), (1, .int a1), (2, .int a2)]) dX12_hinderOf_7 rfl rfl rfl ?_
  refine ev_bipush (pc := 8) (-23 : Int32) k_bipush_m23 dX12_hinderOf_8 ?_
  refine ev_istore (pc := 10) (lv' := [(4, .int (-23 : Int32)), (3, .int 0), (0, .ref 12), (1, .int a1), (2, .int a2)]) dX12_hinderOf_10 rfl rfl ?_
  refine EvW.sub [2, 3, 4, 1, 0] rfl ?_
  exact E_X12_hinderOf_12 N d N a1 a2 0 (-23 : Int32) I2 L3
def f_X12_hinder (N : Nat) (a1 : Int32) (a2 : Int32) (I : PI) (L : PL) : RES := bI (f_X12_isCode N a1 I L) (fun x1 I2 L3 => (if x1 = 0 then some (some (.int (-1 : Int32)), I2, L3) else bI (f_X12_isCode N a2 I2 L3) (fun x4 I5 L6 => (if x4 = 0 then some (some (.int (-1 : Int32)), I5, L6) else bI (f_X12_hinderOf N a1 a2 I5 L6) (fun x7 I8 L9 => some (some (.int x7), I8, L9))))))
set_option maxRecDepth 100000 in
theorem ok_X12_hinder (N d : Nat) (a1 : Int32) (a2 : Int32) (I : PI) (L : PL) : MOk M_X12_hinder (d + 8) [.ref 12, .int a1, .int a2] I L (f_X12_hinder N a1 a2 I L) := by
  refine MOk.of (by decide +kernel) (Nat.le_of_ble_eq_true rfl) ?_
  show EvW _ _ 0 [(0, .ref 12), (1, .int a1), (2, .int a2)] [] I L _
  rw [f_X12_hinder]
  refine ev_aload_n (pc := 0) 0 dX12_hinder_0 rfl ?_
  refine ev_iload_n (pc := 1) 1 dX12_hinder_1 rfl ?_
  refine ev_callVI (pc := 2) (d := d + 7) (As := [.int a1]) (st := []) cv_X12_isCode rfl w_802 rfl (Nat.le_of_ble_eq_true rfl) (ok_X12_isCode N (d + 6) a1 I L) dX12_hinder_2 (fun x1 I2 L3 => ?_)
  refine ev_if_eq (pc := 5) 25 (by decide) dX12_hinder_5 ?_ ?_
  · refine ev_iconst (pc := 25) (-1 : Int32) k_iconst_m1 dX12_hinder_25 ?_
    exact ev_iret (pc := 26) rfl dX12_hinder_26
  · refine ev_aload_n (pc := 8) 0 dX12_hinder_8 rfl ?_
    refine ev_iload_n (pc := 9) 2 dX12_hinder_9 rfl ?_
    refine ev_callVI (pc := 10) (d := d + 7) (As := [.int a2]) (st := []) cv_X12_isCode rfl w_802 rfl (Nat.le_of_ble_eq_true rfl) (ok_X12_isCode N (d + 6) a2 I2 L3) dX12_hinder_10 (fun x4 I5 L6 => ?_)
    refine ev_if_eq (pc := 13) 25 (by decide) dX12_hinder_13 ?_ ?_
    · refine ev_iconst (pc := 25) (-1 : Int32) k_iconst_m1 dX12_hinder_25 ?_
      exact ev_iret (pc := 26) rfl dX12_hinder_26
    · refine ev_aload_n (pc := 16) 0 dX12_hinder_16 rfl ?_
      refine ev_iload_n (pc := 17) 1 dX12_hinder_17 rfl ?_
      refine ev_iload_n (pc := 18) 2 dX12_hinder_18 rfl ?_
      refine ev_callVI (pc := 19) (d := d + 7) (As := [.int a1, .int a2]) (st := []) cv_X12_hinderOf rfl w_865 rfl (Nat.le_of_ble_eq_true rfl) (ok_X12_hinderOf N (d) a1 a2 I5 L6) dX12_hinder_19 (fun x7 I8 L9 => ?_)
      refine ev_goto (pc := 22) 26 (by decide) dX12_hinder_22 ?_
      exact ev_iret (pc := 26) rfl dX12_hinder_26
def f_X12_has (N : Nat) (a1 : Int32) (a2 : Int32) (I : PI) (L : PL) : RES := (if ((a1 >>> (a2 &&& 31)) &&& 1) = 1 then gd (decide (1 &&& 1 = 1)) (some (some (.int 1), I, L)) else gd (decide (0 &&& 1 = 0)) (some (some (.int 0), I, L)))
set_option maxRecDepth 100000 in
theorem ok_X12_has (N d : Nat) (a1 : Int32) (a2 : Int32) (I : PI) (L : PL) : MOk M_X12_has (d) [.int a1, .int a2] I L (f_X12_has N a1 a2 I L) := by
  refine MOk.of (by decide +kernel) (Nat.le_of_ble_eq_true rfl) ?_
  show EvW _ _ 0 [(0, .int a1), (1, .int a2)] [] I L _
  rw [f_X12_has]
  refine ev_iload_n (pc := 0) 0 dX12_has_0 rfl ?_
  refine ev_iload_n (pc := 1) 1 dX12_has_1 rfl ?_
  refine ev_ishr (pc := 2) dX12_has_2 ?_
  refine ev_iconst (pc := 3) 1 k_iconst_1 dX12_has_3 ?_
  refine ev_iand (pc := 4) dX12_has_4 ?_
  refine ev_iconst (pc := 5) 1 k_iconst_1 dX12_has_5 ?_
  refine ev_icmp_ne (pc := 6) 13 (by decide) dX12_has_6 ?_ ?_
  · refine ev_iconst (pc := 13) 0 k_iconst_0 dX12_has_13 ?_
    exact ev_zret (pc := 14) rfl dX12_has_14
  · refine ev_iconst (pc := 9) 1 k_iconst_1 dX12_has_9 ?_
    refine ev_goto (pc := 10) 14 (by decide) dX12_has_10 ?_
    exact ev_zret (pc := 14) rfl dX12_has_14
def F_X12_areFriends_13 (N : Nat) (r_2 : Int32 → Int32 → Int32 → PI → PL → RES) : Nat → Int32 → Int32 → Int32 → Int32 → PI → PL → RES
  | 0, _, _, _, _, _, _ => none
  | n + 1, v1, v2, v3, v4, I, L => (if v3 ≤ v4 then r_2 v1 v2 (v3 + 1) I L else bI (f_X12_has N v1 v3 I L) (fun x1 I2 L3 => (if x1 = 0 then (F_X12_areFriends_13 N r_2 n) v1 v2 v3 (v4 + 1) I2 L3 else bI (f_X12_has N v1 v4 I2 L3) (fun x4 I5 L6 => (if x4 = 0 then (F_X12_areFriends_13 N r_2 n) v1 v2 v3 (v4 + 1) I5 L6 else bI (f_X12_hinderOf N v3 v4 I5 L6) (fun x7 I8 L9 => (if x7 ≤ v2 then (F_X12_areFriends_13 N r_2 n) v1 v2 v3 (v4 + 1) I8 L9 else gd (decide (0 &&& 1 = 0)) (some (some (.int 0), I8, L9)))))))))
set_option maxRecDepth 100000 in
theorem E_X12_areFriends_13 (N d : Nat) (r_2 : Int32 → Int32 → Int32 → PI → PL → RES) (hr_2 : ∀ (v1 : Int32) (v2 : Int32) (v3 : Int32) (I : PI) (L : PL), EvW M_X12_areFriends (d + 8) 2 [(0, .ref 12), (1, .int v1), (2, .int v2), (3, .int v3)] [] I L (r_2 v1 v2 v3 I L)) : ∀ (n : Nat) (v1 : Int32) (v2 : Int32) (v3 : Int32) (v4 : Int32) (I : PI) (L : PL), EvW M_X12_areFriends (d + 8) 13 [(0, .ref 12), (1, .int v1), (2, .int v2), (3, .int v3), (4, .int v4)] [] I L (F_X12_areFriends_13 N r_2 n v1 v2 v3 v4 I L) := by
  intro n
  induction n with
  | zero =>
    intro v1 v2 v3 v4 I L
    exact EvW.none
  | succ n hr_13 =>
    intro v1 v2 v3 v4 I L
    rw [F_X12_areFriends_13]
    refine ev_iload (pc := 13) 4 dX12_areFriends_13 rfl ?_
    refine ev_iload_n (pc := 15) 3 dX12_areFriends_15 rfl ?_
    refine ev_icmp_ge (pc := 16) 55 (by decide) dX12_areFriends_16 ?_ ?_
    · refine ev_iinc (pc := 55) (lv' := [(3, .int (v3 + 1)), (0, .ref 12), (1, .int v1), (2, .int v2), (4, .int v4)]) dX12_areFriends_55 3 rfl rfl 1 k_iconst_1 rfl ?_
      refine ev_goto (pc := 58) 2 (by decide) dX12_areFriends_58 ?_
      refine EvW.sub [1, 2, 3, 0] rfl ?_
      exact hr_2 v1 v2 (v3 + 1) I L
    · refine ev_iload_n (pc := 19) 1 dX12_areFriends_19 rfl ?_
      refine ev_iload_n (pc := 20) 3 dX12_areFriends_20 rfl ?_
      refine ev_callSI (pc := 21) (d := d + 7) (As := [.int v1, .int v3]) (st := []) cv_X12_has rfl w_869 rfl (Nat.le_of_ble_eq_true rfl) (ok_X12_has N (d + 7) v1 v3 I L) dX12_areFriends_21 (fun x1 I2 L3 => ?_)
      refine ev_if_eq (pc := 24) 49 (by decide) dX12_areFriends_24 ?_ ?_
      · refine ev_iinc (pc := 49) (lv' := [(4, .int (v4 + 1)), (0, .ref 12), (1, .int v1), (2, .int v2), (3, .int v3)]) dX12_areFriends_49 4 rfl rfl 1 k_iconst_1 rfl ?_
        refine ev_goto (pc := 52) 13 (by decide) dX12_areFriends_52 ?_
        refine EvW.sub [1, 2, 3, 4, 0] rfl ?_
        exact hr_13 v1 v2 v3 (v4 + 1) I2 L3
      · refine ev_iload_n (pc := 27) 1 dX12_areFriends_27 rfl ?_
        refine ev_iload (pc := 28) 4 dX12_areFriends_28 rfl ?_
        refine ev_callSI (pc := 30) (d := d + 7) (As := [.int v1, .int v4]) (st := []) cv_X12_has rfl w_869 rfl (Nat.le_of_ble_eq_true rfl) (ok_X12_has N (d + 7) v1 v4 I2 L3) dX12_areFriends_30 (fun x4 I5 L6 => ?_)
        refine ev_if_eq (pc := 33) 49 (by decide) dX12_areFriends_33 ?_ ?_
        · refine ev_iinc (pc := 49) (lv' := [(4, .int (v4 + 1)), (0, .ref 12), (1, .int v1), (2, .int v2), (3, .int v3)]) dX12_areFriends_49 4 rfl rfl 1 k_iconst_1 rfl ?_
          refine ev_goto (pc := 52) 13 (by decide) dX12_areFriends_52 ?_
          refine EvW.sub [1, 2, 3, 4, 0] rfl ?_
          exact hr_13 v1 v2 v3 (v4 + 1) I5 L6
        · refine ev_aload_n (pc := 36) 0 dX12_areFriends_36 rfl ?_
          refine ev_iload_n (pc := 37) 3 dX12_areFriends_37 rfl ?_
          refine ev_iload (pc := 38) 4 dX12_areFriends_38 rfl ?_
          refine ev_callVI (pc := 40) (d := d + 7) (As := [.int v3, .int v4]) (st := []) cv_X12_hinderOf rfl w_865 rfl (Nat.le_of_ble_eq_true rfl) (ok_X12_hinderOf N (d) v3 v4 I5 L6) dX12_areFriends_40 (fun x7 I8 L9 => ?_)
          refine ev_iload_n (pc := 43) 2 dX12_areFriends_43 rfl ?_
          refine ev_icmp_le (pc := 44) 49 (by decide) dX12_areFriends_44 ?_ ?_
          · refine ev_iinc (pc := 49) (lv' := [(4, .int (v4 + 1)), (0, .ref 12), (1, .int v1), (2, .int v2), (3, .int v3)]) dX12_areFriends_49 4 rfl rfl 1 k_iconst_1 rfl ?_
            refine ev_goto (pc := 52) 13 (by decide) dX12_areFriends_52 ?_
            refine EvW.sub [1, 2, 3, 4, 0] rfl ?_
            exact hr_13 v1 v2 v3 (v4 + 1) I8 L9
          · refine ev_iconst (pc := 47) 0 k_iconst_0 dX12_areFriends_47 ?_
            exact ev_zret (pc := 48) rfl dX12_areFriends_48
def F_X12_areFriends_2 (N : Nat) : Nat → Int32 → Int32 → Int32 → PI → PL → RES
  | 0, _, _, _, _, _ => none
  | n + 1, v1, v2, v3, I, L => (if (I 12 21) ≤ v3 then gd (decide (1 &&& 1 = 1)) (some (some (.int 1), I, L)) else F_X12_areFriends_13 N (F_X12_areFriends_2 N n) N v1 v2 v3 0 I L)
set_option maxRecDepth 100000 in
theorem E_X12_areFriends_2 (N d : Nat) : ∀ (n : Nat) (v1 : Int32) (v2 : Int32) (v3 : Int32) (I : PI) (L : PL), EvW M_X12_areFriends (d + 8) 2 [(0, .ref 12), (1, .int v1), (2, .int v2), (3, .int v3)] [] I L (F_X12_areFriends_2 N n v1 v2 v3 I L) := by
  intro n
  induction n with
  | zero =>
    intro v1 v2 v3 I L
    exact EvW.none
  | succ n hr_2 =>
    intro v1 v2 v3 I L
    rw [F_X12_areFriends_2]
    refine ev_iload_n (pc := 2) 3 dX12_areFriends_2 rfl ?_
    refine ev_aload_n (pc := 3) 0 dX12_areFriends_3 rfl ?_
    refine gf_X12_235 (pc := 4) rfl dX12_areFriends_4 ?_
    refine ev_icmp_ge (pc := 7) 61 (by decide) dX12_areFriends_7 ?_ ?_
    · refine ev_iconst (pc := 61) 1 k_iconst_1 dX12_areFriends_61 ?_
      exact ev_zret (pc := 62) rfl dX12_areFriends_62
    · refine ev_iconst (pc := 10) 0 k_iconst_0 dX12_areFriends_10 ?_
      refine ev_istore (pc := 11) (lv' := [(4, .int 0), (0, .ref 12), (1, .int v1), (2, .int v2), (3, .int v3)]) dX12_areFriends_11 rfl rfl ?_
      refine EvW.sub [1, 2, 3, 4, 0] rfl ?_
      exact E_X12_areFriends_13 N d (F_X12_areFriends_2 N n) hr_2 N v1 v2 v3 0 I L
def f_X12_areFriends (N : Nat) (a1 : Int32) (a2 : Int32) (I : PI) (L : PL) : RES := F_X12_areFriends_2 N N a1 a2 0 I L
set_option maxRecDepth 100000 in
theorem ok_X12_areFriends (N d : Nat) (a1 : Int32) (a2 : Int32) (I : PI) (L : PL) : MOk M_X12_areFriends (d + 8) [.ref 12, .int a1, .int a2] I L (f_X12_areFriends N a1 a2 I L) := by
  refine MOk.of (by decide +kernel) (Nat.le_of_ble_eq_true rfl) ?_
  show EvW _ _ 0 [(0, .ref 12), (1, .int a1), (2, .int a2)] [] I L _
  rw [f_X12_areFriends]
  refine ev_iconst (pc := 0) 0 k_iconst_0 dX12_areFriends_0 ?_
  refine ev_istore_n (pc := 1) (lv' := [(3, .int 0), (0, .ref 12), (1, .int a1), (2, .int a2)]) dX12_areFriends_1 rfl rfl rfl ?_
  refine EvW.sub [1, 2, 3, 0] rfl ?_
  exact E_X12_areFriends_2 N d N a1 a2 0 I L
def F_X12_friends_17 (N : Nat) : Nat → Int32 → Int32 → Int32 → PI → PL → RES
  | 0, _, _, _, _, _ => none
  | n + 1, v1, v2, v3, I, L => (if ((1 : Int32) <<< ((I 12 21) &&& 31)) ≤ v3 then some (some (.int v2), I, L) else bI (f_J6_bitCount_0f7a4 N v3 I L) (fun x1 I2 L3 => bI (f_J6_bitCount_0f7a4 N v2 I2 L3) (fun x4 I5 L6 => (if x1 ≤ x4 then (F_X12_friends_17 N n) v1 v2 (v3 + 1) I5 L6 else bI (f_X12_areFriends N v3 v1 I5 L6) (fun x7 I8 L9 => (if x7 = 0 then (F_X12_friends_17 N n) v1 v2 (v3 + 1) I8 L9 else (F_X12_friends_17 N n) v1 v3 (v3 + 1) I8 L9))))))
set_option maxRecDepth 100000 in
theorem E_X12_friends_17 (N d : Nat) : ∀ (n : Nat) (v1 : Int32) (v2 : Int32) (v3 : Int32) (I : PI) (L : PL), EvW M_X12_friends (d + 9) 17 [(0, .ref 12), (1, .int v1), (2, .int v2), (3, .int v3)] [] I L (F_X12_friends_17 N n v1 v2 v3 I L) := by
  intro n
  induction n with
  | zero =>
    intro v1 v2 v3 I L
    exact EvW.none
  | succ n hr_17 =>
    intro v1 v2 v3 I L
    rw [F_X12_friends_17]
    refine ev_iload_n (pc := 17) 3 dX12_friends_17 rfl ?_
    refine ev_iconst (pc := 18) 1 k_iconst_1 dX12_friends_18 ?_
    refine ev_aload_n (pc := 19) 0 dX12_friends_19 rfl ?_
    refine gf_X12_235 (pc := 20) rfl dX12_friends_20 ?_
    refine ev_ishl (pc := 23) dX12_friends_23 ?_
    refine ev_icmp_ge (pc := 24) 55 (by decide) dX12_friends_24 ?_ ?_
    · refine ev_iload_n (pc := 55) 2 dX12_friends_55 rfl ?_
      exact ev_iret (pc := 56) rfl dX12_friends_56
    · refine ev_iload_n (pc := 27) 3 dX12_friends_27 rfl ?_
      refine ev_callSI (pc := 28) (d := d + 8) (As := [.int v3]) (st := []) cv_J6_bitCount_0f7a4 rfl w_866 rfl (Nat.le_of_ble_eq_true rfl) (ok_J6_bitCount_0f7a4 N (d + 8) v3 I L) dX12_friends_28 (fun x1 I2 L3 => ?_)
      refine ev_iload_n (pc := 31) 2 dX12_friends_31 rfl ?_
      refine ev_callSI (pc := 32) (d := d + 8) (As := [.int v2]) (st := [.int x1]) cv_J6_bitCount_0f7a4 rfl w_866 rfl (Nat.le_of_ble_eq_true rfl) (ok_J6_bitCount_0f7a4 N (d + 8) v2 I2 L3) dX12_friends_32 (fun x4 I5 L6 => ?_)
      refine ev_icmp_le (pc := 35) 49 (by decide) dX12_friends_35 ?_ ?_
      · refine ev_iinc (pc := 49) (lv' := [(3, .int (v3 + 1)), (0, .ref 12), (1, .int v1), (2, .int v2)]) dX12_friends_49 3 rfl rfl 1 k_iconst_1 rfl ?_
        refine ev_goto (pc := 52) 17 (by decide) dX12_friends_52 ?_
        refine EvW.sub [1, 2, 3, 0] rfl ?_
        exact hr_17 v1 v2 (v3 + 1) I5 L6
      · refine ev_aload_n (pc := 38) 0 dX12_friends_38 rfl ?_
        refine ev_iload_n (pc := 39) 3 dX12_friends_39 rfl ?_
        refine ev_iload_n (pc := 40) 1 dX12_friends_40 rfl ?_
        refine ev_callVI (pc := 41) (d := d + 8) (As := [.int v3, .int v1]) (st := []) cv_X12_areFriends rfl w_873 rfl (Nat.le_of_ble_eq_true rfl) (ok_X12_areFriends N (d) v3 v1 I5 L6) dX12_friends_41 (fun x7 I8 L9 => ?_)
        refine ev_if_eq (pc := 44) 49 (by decide) dX12_friends_44 ?_ ?_
        · refine ev_iinc (pc := 49) (lv' := [(3, .int (v3 + 1)), (0, .ref 12), (1, .int v1), (2, .int v2)]) dX12_friends_49 3 rfl rfl 1 k_iconst_1 rfl ?_
          refine ev_goto (pc := 52) 17 (by decide) dX12_friends_52 ?_
          refine EvW.sub [1, 2, 3, 0] rfl ?_
          exact hr_17 v1 v2 (v3 + 1) I8 L9
        · refine ev_iload_n (pc := 47) 3 dX12_friends_47 rfl ?_
          refine ev_istore_n (pc := 48) (lv' := [(2, .int v3), (0, .ref 12), (1, .int v1), (3, .int v3)]) dX12_friends_48 rfl rfl rfl ?_
          refine ev_iinc (pc := 49) (lv' := [(3, .int (v3 + 1)), (2, .int v3), (0, .ref 12), (1, .int v1)]) dX12_friends_49 3 rfl rfl 1 k_iconst_1 rfl ?_
          refine ev_goto (pc := 52) 17 (by decide) dX12_friends_52 ?_
          refine EvW.sub [2, 3, 1, 0] rfl ?_
          exact hr_17 v1 v3 (v3 + 1) I8 L9
def f_X12_friends (N : Nat) (a1 : Int32) (I : PI) (L : PL) : RES := (if (I 12 21) = 0 then some (some (.int (-1 : Int32)), I, L) else (if 0 ≤ a1 then F_X12_friends_17 N N a1 0 1 I L else some (some (.int (-1 : Int32)), I, L)))
set_option maxRecDepth 100000 in
theorem ok_X12_friends (N d : Nat) (a1 : Int32) (I : PI) (L : PL) : MOk M_X12_friends (d + 9) [.ref 12, .int a1] I L (f_X12_friends N a1 I L) := by
  refine MOk.of (by decide +kernel) (Nat.le_of_ble_eq_true rfl) ?_
  show EvW _ _ 0 [(0, .ref 12), (1, .int a1)] [] I L _
  rw [f_X12_friends]
  refine ev_aload_n (pc := 0) 0 dX12_friends_0 rfl ?_
  refine gf_X12_235 (pc := 1) rfl dX12_friends_1 ?_
  refine ev_if_eq (pc := 4) 11 (by decide) dX12_friends_4 ?_ ?_
  · refine ev_iconst (pc := 11) (-1 : Int32) k_iconst_m1 dX12_friends_11 ?_
    exact ev_iret (pc := 12) rfl dX12_friends_12
  · refine ev_iload_n (pc := 7) 1 dX12_friends_7 rfl ?_
    refine ev_if_ge (pc := 8) 13 (by decide) dX12_friends_8 ?_ ?_
    · refine ev_iconst (pc := 13) 0 k_iconst_0 dX12_friends_13 ?_
      refine ev_istore_n (pc := 14) (lv' := [(2, .int 0), (0, .ref 12), (1, .int a1)]) dX12_friends_14 rfl rfl rfl ?_
      refine ev_iconst (pc := 15) 1 k_iconst_1 dX12_friends_15 ?_
      refine ev_istore_n (pc := 16) (lv' := [(3, .int 1), (2, .int 0), (0, .ref 12), (1, .int a1)]) dX12_friends_16 rfl rfl rfl ?_
      refine EvW.sub [2, 3, 1, 0] rfl ?_
      exact E_X12_friends_17 N d N a1 0 1 I L
    · refine ev_iconst (pc := 11) (-1 : Int32) k_iconst_m1 dX12_friends_11 ?_
      exact ev_iret (pc := 12) rfl dX12_friends_12
def F_X12_alikeAt_5 (N : Nat) : Nat → Int32 → Int32 → Int32 → Int32 → Int32 → PI → PL → RES
  | 0, _, _, _, _, _, _, _ => none
  | n + 1, v0, v1, v2, v3, v4, I, L => (if v1 ≤ v4 then some (some (.int v3), I, L) else bI (f_X12_has N v0 v4 I L) (fun x1 I2 L3 => bI (f_X12_has N v0 (v4 - v2) I2 L3) (fun x4 I5 L6 => (if x1 = x4 then nmI (v3 + 1) (fun x8 => (F_X12_alikeAt_5 N n) v0 v1 v2 x8 (v4 + 1) I5 L6) else nmI (v3 + (-1 : Int32)) (fun x7 => (F_X12_alikeAt_5 N n) v0 v1 v2 x7 (v4 + 1) I5 L6)))))
set_option maxRecDepth 100000 in
theorem E_X12_alikeAt_5 (N d : Nat) : ∀ (n : Nat) (v0 : Int32) (v1 : Int32) (v2 : Int32) (v3 : Int32) (v4 : Int32) (I : PI) (L : PL), EvW M_X12_alikeAt (d + 1) 5 [(0, .int v0), (1, .int v1), (2, .int v2), (3, .int v3), (4, .int v4)] [] I L (F_X12_alikeAt_5 N n v0 v1 v2 v3 v4 I L) := by
  intro n
  induction n with
  | zero =>
    intro v0 v1 v2 v3 v4 I L
    exact EvW.none
  | succ n hr_5 =>
    intro v0 v1 v2 v3 v4 I L
    rw [F_X12_alikeAt_5]
    refine ev_iload (pc := 5) 4 dX12_alikeAt_5 rfl ?_
    refine ev_iload_n (pc := 7) 1 dX12_alikeAt_7 rfl ?_
    refine ev_icmp_ge (pc := 8) 42 (by decide) dX12_alikeAt_8 ?_ ?_
    · refine ev_iload_n (pc := 42) 3 dX12_alikeAt_42 rfl ?_
      exact ev_iret (pc := 43) rfl dX12_alikeAt_43
    · refine ev_iload_n (pc := 11) 3 dX12_alikeAt_11 rfl ?_
      refine ev_iload_n (pc := 12) 0 dX12_alikeAt_12 rfl ?_
      refine ev_iload (pc := 13) 4 dX12_alikeAt_13 rfl ?_
      refine ev_callSI (pc := 15) (d := d) (As := [.int v0, .int v4]) (st := [.int v3]) cv_X12_has rfl w_869 rfl (Nat.le_of_ble_eq_true rfl) (ok_X12_has N (d) v0 v4 I L) dX12_alikeAt_15 (fun x1 I2 L3 => ?_)
      refine ev_iload_n (pc := 18) 0 dX12_alikeAt_18 rfl ?_
      refine ev_iload (pc := 19) 4 dX12_alikeAt_19 rfl ?_
      refine ev_iload_n (pc := 21) 2 dX12_alikeAt_21 rfl ?_
      refine ev_isub (pc := 22) dX12_alikeAt_22 ?_
      refine ev_callSI (pc := 23) (d := d) (As := [.int v0, .int (v4 - v2)]) (st := [.int x1, .int v3]) cv_X12_has rfl w_869 rfl (Nat.le_of_ble_eq_true rfl) (ok_X12_has N (d) v0 (v4 - v2) I2 L3) dX12_alikeAt_23 (fun x4 I5 L6 => ?_)
      refine ev_icmp_ne (pc := 26) 33 (by decide) dX12_alikeAt_26 ?_ ?_
      · refine ev_iconst (pc := 33) (-1 : Int32) k_iconst_m1 dX12_alikeAt_33 ?_
        refine ev_iadd (pc := 34) dX12_alikeAt_34 ?_
        refine ev_nmI (fun x7 => ?_)
        refine ev_istore_n (pc := 35) (lv' := [(3, .int x7), (0, .int v0), (1, .int v1), (2, .int v2), (4, .int v4)]) dX12_alikeAt_35 rfl rfl rfl ?_
        refine ev_iinc (pc := 36) (lv' := [(4, .int (v4 + 1)), (3, .int x7), (0, .int v0), (1, .int v1), (2, .int v2)]) dX12_alikeAt_36 4 rfl rfl 1 k_iconst_1 rfl ?_
        refine ev_goto (pc := 39) 5 (by decide) dX12_alikeAt_39 ?_
        refine EvW.sub [2, 3, 4, 1, 0] rfl ?_
        exact hr_5 v0 v1 v2 x7 (v4 + 1) I5 L6
      · refine ev_iconst (pc := 29) 1 k_iconst_1 dX12_alikeAt_29 ?_
        refine ev_goto (pc := 30) 34 (by decide) dX12_alikeAt_30 ?_
        refine ev_iadd (pc := 34) dX12_alikeAt_34 ?_
        refine ev_nmI (fun x8 => ?_)
        refine ev_istore_n (pc := 35) (lv' := [(3, .int x8), (0, .int v0), (1, .int v1), (2, .int v2), (4, .int v4)]) dX12_alikeAt_35 rfl rfl rfl ?_
        refine ev_iinc (pc := 36) (lv' := [(4, .int (v4 + 1)), (3, .int x8), (0, .int v0), (1, .int v1), (2, .int v2)]) dX12_alikeAt_36 4 rfl rfl 1 k_iconst_1 rfl ?_
        refine ev_goto (pc := 39) 5 (by decide) dX12_alikeAt_39 ?_
        refine EvW.sub [2, 3, 4, 1, 0] rfl ?_
        exact hr_5 v0 v1 v2 x8 (v4 + 1) I5 L6
def f_X12_alikeAt (N : Nat) (a1 : Int32) (a2 : Int32) (a3 : Int32) (I : PI) (L : PL) : RES := F_X12_alikeAt_5 N N a1 a2 a3 0 a3 I L
set_option maxRecDepth 100000 in
theorem ok_X12_alikeAt (N d : Nat) (a1 : Int32) (a2 : Int32) (a3 : Int32) (I : PI) (L : PL) : MOk M_X12_alikeAt (d + 1) [.int a1, .int a2, .int a3] I L (f_X12_alikeAt N a1 a2 a3 I L) := by
  refine MOk.of (by decide +kernel) (Nat.le_of_ble_eq_true rfl) ?_
  show EvW _ _ 0 [(0, .int a1), (1, .int a2), (2, .int a3)] [] I L _
  rw [f_X12_alikeAt]
  refine ev_iconst (pc := 0) 0 k_iconst_0 dX12_alikeAt_0 ?_
  refine ev_istore_n (pc := 1) (lv' := [(3, .int 0), (0, .int a1), (1, .int a2), (2, .int a3)]) dX12_alikeAt_1 rfl rfl rfl ?_
  refine ev_iload_n (pc := 2) 3 dX12_alikeAt_2 rfl ?_
  refine ev_istore (pc := 3) (lv' := [(4, .int a3), (3, .int 0), (0, .int a1), (1, .int a2), (2, .int a3)]) dX12_alikeAt_3 rfl rfl ?_
  refine EvW.sub [2, 3, 4, 1, 0] rfl ?_
  exact E_X12_alikeAt_5 N d N a1 a2 a3 0 a3 I L
def F_X12_best_158 (N : Nat) (r_35 : Int32 → Int32 → Int32 → Int32 → Int32 → Int32 → Int32 → PI → PL → RES) (v1 : Int32) (v2 : Int32) (v6 : Int32) (v7 : Int32) (v8 : Int32) (v9 : Int32) (I : PI) (L : PL) : RES := r_35 v1 v2 v7 v8 v9 v6 (v7 + 1) I L
set_option maxRecDepth 100000 in
theorem E_X12_best_158 (N d : Nat) (r_35 : Int32 → Int32 → Int32 → Int32 → Int32 → Int32 → Int32 → PI → PL → RES) (hr_35 : ∀ (v1 : Int32) (v2 : Int32) (v3 : Int32) (v4 : Int32) (v5 : Int32) (v6 : Int32) (v7 : Int32) (I : PI) (L : PL), EvW M_X12_best (d + 2) 35 [(1, .int v1), (2, .int v2), (3, .int v3), (4, .int v4), (5, .int v5), (6, .int v6), (7, .int v7)] [] I L (r_35 v1 v2 v3 v4 v5 v6 v7 I L)) (v1 : Int32) (v2 : Int32) (v6 : Int32) (v7 : Int32) (v8 : Int32) (v9 : Int32) (I : PI) (L : PL) : EvW M_X12_best (d + 2) 158 [(1, .int v1), (2, .int v2), (6, .int v6), (7, .int v7), (8, .int v8), (9, .int v9)] [] I L (F_X12_best_158 N r_35 v1 v2 v6 v7 v8 v9 I L) := by
  rw [F_X12_best_158]
  refine ev_iload (pc := 158) 3 dX12_best_158 rfl ?_
  refine ev_istore_n (pc := 160) (lv' := [(3, .int v7), (1, .int v1), (2, .int v2), (6, .int v6), (7, .int v7), (8, .int v8), (9, .int v9)]) dX12_best_160 rfl rfl rfl ?_
  refine ev_iload (pc := 161) 5 dX12_best_161 rfl ?_
  refine ev_istore (pc := 163) (lv' := [(4, .int v8), (3, .int v7), (1, .int v1), (2, .int v2), (6, .int v6), (7, .int v7), (8, .int v8), (9, .int v9)]) dX12_best_163 rfl rfl ?_
  refine ev_iload (pc := 165) 7 dX12_best_165 rfl ?_
  refine ev_istore (pc := 167) (lv' := [(5, .int v9), (4, .int v8), (3, .int v7), (1, .int v1), (2, .int v2), (6, .int v6), (7, .int v7), (8, .int v8), (9, .int v9)]) dX12_best_167 rfl rfl ?_
  refine ev_iinc (pc := 169) (lv' := [(7, .int (v7 + 1)), (5, .int v9), (4, .int v8), (3, .int v7), (1, .int v1), (2, .int v2), (6, .int v6), (8, .int v8), (9, .int v9)]) dX12_best_169 6 rfl rfl 1 k_iconst_1 rfl ?_
  refine ev_goto (pc := 172) 35 (by decide) dX12_best_172 ?_
  refine EvW.sub [4, 5, 3, 2, 1, 6, 0] rfl ?_
  exact hr_35 v1 v2 v7 v8 v9 v6 (v7 + 1) I L
def F_X12_best_130 (N : Nat) (r_35 : Int32 → Int32 → Int32 → Int32 → Int32 → Int32 → Int32 → PI → PL → RES) (v1 : Int32) (v2 : Int32) (v3 : Int32) (v4 : Int32) (v5 : Int32) (v7 : Int32) (v8 : Int32) (v9 : Int32) (s0 : Int32) (I : PI) (L : PL) : RES := (if v3 = (-1 : Int32) then F_X12_best_158 N r_35 v1 v2 s0 v7 v8 v9 I L else (if v8 < v4 then F_X12_best_158 N r_35 v1 v2 s0 v7 v8 v9 I L else (if v8 = v4 then (if v5 ≤ v9 then r_35 v1 v2 v3 v4 v5 s0 (v7 + 1) I L else F_X12_best_158 N r_35 v1 v2 s0 v7 v8 v9 I L) else r_35 v1 v2 v3 v4 v5 s0 (v7 + 1) I L)))
set_option maxRecDepth 100000 in
theorem E_X12_best_130 (N d : Nat) (r_35 : Int32 → Int32 → Int32 → Int32 → Int32 → Int32 → Int32 → PI → PL → RES) (hr_35 : ∀ (v1 : Int32) (v2 : Int32) (v3 : Int32) (v4 : Int32) (v5 : Int32) (v6 : Int32) (v7 : Int32) (I : PI) (L : PL), EvW M_X12_best (d + 2) 35 [(1, .int v1), (2, .int v2), (3, .int v3), (4, .int v4), (5, .int v5), (6, .int v6), (7, .int v7)] [] I L (r_35 v1 v2 v3 v4 v5 v6 v7 I L)) (v1 : Int32) (v2 : Int32) (v3 : Int32) (v4 : Int32) (v5 : Int32) (v7 : Int32) (v8 : Int32) (v9 : Int32) (s0 : Int32) (I : PI) (L : PL) : EvW M_X12_best (d + 2) 130 [(1, .int v1), (2, .int v2), (3, .int v3), (4, .int v4), (5, .int v5), (7, .int v7), (8, .int v8), (9, .int v9)] [.int s0] I L (F_X12_best_130 N r_35 v1 v2 v3 v4 v5 v7 v8 v9 s0 I L) := by
  rw [F_X12_best_130]
  refine ev_istore (pc := 130) (lv' := [(6, .int s0), (1, .int v1), (2, .int v2), (3, .int v3), (4, .int v4), (5, .int v5), (7, .int v7), (8, .int v8), (9, .int v9)]) dX12_best_130 rfl rfl ?_
  refine ev_iload_n (pc := 132) 3 dX12_best_132 rfl ?_
  refine ev_iconst (pc := 133) (-1 : Int32) k_iconst_m1 dX12_best_133 ?_
  refine ev_icmp_eq (pc := 134) 158 (by decide) dX12_best_134 ?_ ?_
  · refine EvW.sub [1, 2, 0, 6, 7, 8] rfl ?_
    exact E_X12_best_158 N d r_35 hr_35 v1 v2 s0 v7 v8 v9 I L
  · refine ev_iload (pc := 137) 7 dX12_best_137 rfl ?_
    refine ev_iload (pc := 139) 4 dX12_best_139 rfl ?_
    refine ev_icmp_lt (pc := 141) 158 (by decide) dX12_best_141 ?_ ?_
    · refine EvW.sub [1, 2, 0, 6, 7, 8] rfl ?_
      exact E_X12_best_158 N d r_35 hr_35 v1 v2 s0 v7 v8 v9 I L
    · refine ev_iload (pc := 144) 7 dX12_best_144 rfl ?_
      refine ev_iload (pc := 146) 4 dX12_best_146 rfl ?_
      refine ev_icmp_ne (pc := 148) 169 (by decide) dX12_best_148 ?_ ?_
      · refine ev_iinc (pc := 169) (lv' := [(7, .int (v7 + 1)), (6, .int s0), (1, .int v1), (2, .int v2), (3, .int v3), (4, .int v4), (5, .int v5), (8, .int v8), (9, .int v9)]) dX12_best_169 6 rfl rfl 1 k_iconst_1 rfl ?_
        refine ev_goto (pc := 172) 35 (by decide) dX12_best_172 ?_
        refine EvW.sub [2, 3, 4, 5, 6, 1, 0] rfl ?_
        exact hr_35 v1 v2 v3 v4 v5 s0 (v7 + 1) I L
      · refine ev_iload (pc := 151) 8 dX12_best_151 rfl ?_
        refine ev_iload (pc := 153) 5 dX12_best_153 rfl ?_
        refine ev_icmp_ge (pc := 155) 169 (by decide) dX12_best_155 ?_ ?_
        · refine ev_iinc (pc := 169) (lv' := [(7, .int (v7 + 1)), (6, .int s0), (1, .int v1), (2, .int v2), (3, .int v3), (4, .int v4), (5, .int v5), (8, .int v8), (9, .int v9)]) dX12_best_169 6 rfl rfl 1 k_iconst_1 rfl ?_
          refine ev_goto (pc := 172) 35 (by decide) dX12_best_172 ?_
          refine EvW.sub [2, 3, 4, 5, 6, 1, 0] rfl ?_
          exact hr_35 v1 v2 v3 v4 v5 s0 (v7 + 1) I L
        · refine EvW.sub [1, 2, 0, 6, 7, 8] rfl ?_
          exact E_X12_best_158 N d r_35 hr_35 v1 v2 s0 v7 v8 v9 I L
def F_X12_best_110 (N : Nat) (r_35 : Int32 → Int32 → Int32 → Int32 → Int32 → Int32 → Int32 → PI → PL → RES) (v1 : Int32) (v2 : Int32) (v3 : Int32) (v4 : Int32) (v5 : Int32) (v7 : Int32) (v8 : Int32) (v9 : Int32) (I : PI) (L : PL) : RES := F_X12_best_130 N r_35 v1 v2 v3 v4 v5 v7 v8 v9 1 I L
set_option maxRecDepth 100000 in
theorem E_X12_best_110 (N d : Nat) (r_35 : Int32 → Int32 → Int32 → Int32 → Int32 → Int32 → Int32 → PI → PL → RES) (hr_35 : ∀ (v1 : Int32) (v2 : Int32) (v3 : Int32) (v4 : Int32) (v5 : Int32) (v6 : Int32) (v7 : Int32) (I : PI) (L : PL), EvW M_X12_best (d + 2) 35 [(1, .int v1), (2, .int v2), (3, .int v3), (4, .int v4), (5, .int v5), (6, .int v6), (7, .int v7)] [] I L (r_35 v1 v2 v3 v4 v5 v6 v7 I L)) (v1 : Int32) (v2 : Int32) (v3 : Int32) (v4 : Int32) (v5 : Int32) (v7 : Int32) (v8 : Int32) (v9 : Int32) (I : PI) (L : PL) : EvW M_X12_best (d + 2) 110 [(1, .int v1), (2, .int v2), (3, .int v3), (4, .int v4), (5, .int v5), (7, .int v7), (8, .int v8), (9, .int v9)] [] I L (F_X12_best_110 N r_35 v1 v2 v3 v4 v5 v7 v8 v9 I L) := by
  rw [F_X12_best_110]
  refine ev_iconst (pc := 110) 1 k_iconst_1 dX12_best_110 ?_
  refine ev_goto (pc := 111) 130 (by decide) dX12_best_111 ?_
  exact E_X12_best_130 N d r_35 hr_35 v1 v2 v3 v4 v5 v7 v8 v9 1 I L
def F_X12_best_52 (N : Nat) (r_35 : Int32 → Int32 → Int32 → Int32 → Int32 → Int32 → Int32 → PI → PL → RES) : Nat → Int32 → Int32 → Int32 → Int32 → Int32 → Int32 → Int32 → Int32 → Int32 → Int32 → PI → PL → RES
  | 0, _, _, _, _, _, _, _, _, _, _, _, _ => none
  | n + 1, v1, v2, v3, v4, v5, v6, v7, v8, v9, v10, I, L => (if v1 ≤ v10 then (if v3 = (-1 : Int32) then F_X12_best_110 N r_35 v1 v2 v3 v4 v5 v7 v8 v9 I L else (if v4 ≤ v8 then (if v8 = v4 then F_X12_best_130 N r_35 v1 v2 v3 v4 v5 v7 v8 v9 (v6 + 1) I L else F_X12_best_130 N r_35 v1 v2 v3 v4 v5 v7 v8 v9 v6 I L) else F_X12_best_110 N r_35 v1 v2 v3 v4 v5 v7 v8 v9 I L)) else bI (f_X12_alikeAt N v7 v1 v10 I L) (fun x7 I8 L9 => nmI (jmax v8 (x7 * x7)) (fun x10 => nmI (v9 + ((2 * x7) * x7)) (fun x11 => (F_X12_best_52 N r_35 n) v1 v2 v3 v4 v5 v6 v7 x10 x11 (v10 + 1) I8 L9))))
set_option maxRecDepth 100000 in
theorem E_X12_best_52 (N d : Nat) (r_35 : Int32 → Int32 → Int32 → Int32 → Int32 → Int32 → Int32 → PI → PL → RES) (hr_35 : ∀ (v1 : Int32) (v2 : Int32) (v3 : Int32) (v4 : Int32) (v5 : Int32) (v6 : Int32) (v7 : Int32) (I : PI) (L : PL), EvW M_X12_best (d + 2) 35 [(1, .int v1), (2, .int v2), (3, .int v3), (4, .int v4), (5, .int v5), (6, .int v6), (7, .int v7)] [] I L (r_35 v1 v2 v3 v4 v5 v6 v7 I L)) : ∀ (n : Nat) (v1 : Int32) (v2 : Int32) (v3 : Int32) (v4 : Int32) (v5 : Int32) (v6 : Int32) (v7 : Int32) (v8 : Int32) (v9 : Int32) (v10 : Int32) (I : PI) (L : PL), EvW M_X12_best (d + 2) 52 [(1, .int v1), (2, .int v2), (3, .int v3), (4, .int v4), (5, .int v5), (6, .int v6), (7, .int v7), (8, .int v8), (9, .int v9), (10, .int v10)] [] I L (F_X12_best_52 N r_35 n v1 v2 v3 v4 v5 v6 v7 v8 v9 v10 I L) := by
  intro n
  induction n with
  | zero =>
    intro v1 v2 v3 v4 v5 v6 v7 v8 v9 v10 I L
    exact EvW.none
  | succ n hr_52 =>
    intro v1 v2 v3 v4 v5 v6 v7 v8 v9 v10 I L
    rw [F_X12_best_52]
    refine ev_iload (pc := 52) 9 dX12_best_52 rfl ?_
    refine ev_iload_n (pc := 54) 0 dX12_best_54 rfl ?_
    refine ev_icmp_ge (pc := 55) 98 (by decide) dX12_best_55 ?_ ?_
    · refine ev_iload_n (pc := 98) 2 dX12_best_98 rfl ?_
      refine ev_iconst (pc := 99) (-1 : Int32) k_iconst_m1 dX12_best_99 ?_
      refine ev_icmp_eq (pc := 100) 110 (by decide) dX12_best_100 ?_ ?_
      · refine EvW.sub [0, 1, 2, 3, 4, 6, 7, 8] rfl ?_
        exact E_X12_best_110 N d r_35 hr_35 v1 v2 v3 v4 v5 v7 v8 v9 I L
      · refine ev_iload (pc := 103) 7 dX12_best_103 rfl ?_
        refine ev_iload (pc := 105) 3 dX12_best_105 rfl ?_
        refine ev_icmp_ge (pc := 107) 114 (by decide) dX12_best_107 ?_ ?_
        · refine ev_iload (pc := 114) 7 dX12_best_114 rfl ?_
          refine ev_iload (pc := 116) 3 dX12_best_116 rfl ?_
          refine ev_icmp_ne (pc := 118) 128 (by decide) dX12_best_118 ?_ ?_
          · refine ev_iload (pc := 128) 5 dX12_best_128 rfl ?_
            refine EvW.sub [0, 1, 2, 3, 4, 6, 7, 8] rfl ?_
            exact E_X12_best_130 N d r_35 hr_35 v1 v2 v3 v4 v5 v7 v8 v9 v6 I L
          · refine ev_iload (pc := 121) 5 dX12_best_121 rfl ?_
            refine ev_iconst (pc := 123) 1 k_iconst_1 dX12_best_123 ?_
            refine ev_iadd (pc := 124) dX12_best_124 ?_
            refine ev_goto (pc := 125) 130 (by decide) dX12_best_125 ?_
            refine EvW.sub [0, 1, 2, 3, 4, 6, 7, 8] rfl ?_
            exact E_X12_best_130 N d r_35 hr_35 v1 v2 v3 v4 v5 v7 v8 v9 (v6 + 1) I L
        · refine EvW.sub [0, 1, 2, 3, 4, 6, 7, 8] rfl ?_
          exact E_X12_best_110 N d r_35 hr_35 v1 v2 v3 v4 v5 v7 v8 v9 I L
    · refine ev_iload (pc := 58) 6 dX12_best_58 rfl ?_
      refine ev_iload_n (pc := 60) 0 dX12_best_60 rfl ?_
      refine ev_iload (pc := 61) 9 dX12_best_61 rfl ?_
      refine ev_callSI (pc := 63) (d := d + 1) (As := [.int v7, .int v1, .int v10]) (st := []) cv_X12_alikeAt rfl w_876 rfl (Nat.le_of_ble_eq_true rfl) (ok_X12_alikeAt N (d) v7 v1 v10 I L) dX12_best_63 (fun x7 I8 L9 => ?_)
      refine ev_istore (pc := 66) (lv' := [(11, .int x7), (1, .int v1), (2, .int v2), (3, .int v3), (4, .int v4), (5, .int v5), (6, .int v6), (7, .int v7), (8, .int v8), (9, .int v9), (10, .int v10)]) dX12_best_66 rfl rfl ?_
      refine ev_iload (pc := 68) 8 dX12_best_68 rfl ?_
      refine ev_iload (pc := 70) 0 dX12_best_70 rfl ?_
      refine ev_iload (pc := 72) 0 dX12_best_72 rfl ?_
      refine ev_imul (pc := 74) dX12_best_74 ?_
      refine ev_mmax (pc := 75) (d := d + 1) w_836 w_130 w_131 w_132 (Nat.le_of_ble_eq_true rfl) dX12_best_75 ?_
      refine ev_nmI (fun x10 => ?_)
      refine ev_istore (pc := 78) (lv' := [(8, .int x10), (11, .int x7), (1, .int v1), (2, .int v2), (3, .int v3), (4, .int v4), (5, .int v5), (6, .int v6), (7, .int v7), (9, .int v9), (10, .int v10)]) dX12_best_78 rfl rfl ?_
      refine ev_iload (pc := 80) 9 dX12_best_80 rfl ?_
      refine ev_iconst (pc := 82) 2 k_iconst_2 dX12_best_82 ?_
      refine ev_iload (pc := 83) 1 dX12_best_83 rfl ?_
      refine ev_imul (pc := 85) dX12_best_85 ?_
      refine ev_iload (pc := 86) 1 dX12_best_86 rfl ?_
      refine ev_imul (pc := 88) dX12_best_88 ?_
      refine ev_iadd (pc := 89) dX12_best_89 ?_
      refine ev_nmI (fun x11 => ?_)
      refine ev_istore (pc := 90) (lv' := [(9, .int x11), (8, .int x10), (11, .int x7), (1, .int v1), (2, .int v2), (3, .int v3), (4, .int v4), (5, .int v5), (6, .int v6), (7, .int v7), (10, .int v10)]) dX12_best_90 rfl rfl ?_
      refine ev_iinc (pc := 92) (lv' := [(10, .int (v10 + 1)), (9, .int x11), (8, .int x10), (11, .int x7), (1, .int v1), (2, .int v2), (3, .int v3), (4, .int v4), (5, .int v5), (6, .int v6), (7, .int v7)]) dX12_best_92 10 rfl rfl 1 k_iconst_1 rfl ?_
      refine ev_goto (pc := 95) 52 (by decide) dX12_best_95 ?_
      refine EvW.sub [4, 5, 6, 7, 8, 9, 10, 2, 1, 0] rfl ?_
      exact hr_52 v1 v2 v3 v4 v5 v6 v7 x10 x11 (v10 + 1) I8 L9
def F_X12_best_35 (N : Nat) : Nat → Int32 → Int32 → Int32 → Int32 → Int32 → Int32 → Int32 → PI → PL → RES
  | 0, _, _, _, _, _, _, _, _, _ => none
  | n + 1, v1, v2, v3, v4, v5, v6, v7, I, L => (if ((1 : Int32) <<< (v1 &&& 31)) ≤ v7 then (if v2 = 0 then some (some (.int v3), I, L) else (if v2 = 1 then some (some (.int v4), I, L) else (if v2 = 2 then some (some (.int v5), I, L) else some (some (.int v6), I, L)))) else F_X12_best_52 N (F_X12_best_35 N n) N v1 v2 v3 v4 v5 v6 v7 0 0 1 I L)
set_option maxRecDepth 100000 in
theorem E_X12_best_35 (N d : Nat) : ∀ (n : Nat) (v1 : Int32) (v2 : Int32) (v3 : Int32) (v4 : Int32) (v5 : Int32) (v6 : Int32) (v7 : Int32) (I : PI) (L : PL), EvW M_X12_best (d + 2) 35 [(1, .int v1), (2, .int v2), (3, .int v3), (4, .int v4), (5, .int v5), (6, .int v6), (7, .int v7)] [] I L (F_X12_best_35 N n v1 v2 v3 v4 v5 v6 v7 I L) := by
  intro n
  induction n with
  | zero =>
    intro v1 v2 v3 v4 v5 v6 v7 I L
    exact EvW.none
  | succ n hr_35 =>
    intro v1 v2 v3 v4 v5 v6 v7 I L
    rw [F_X12_best_35]
    refine ev_iload (pc := 35) 6 dX12_best_35 rfl ?_
    refine ev_iconst (pc := 37) 1 k_iconst_1 dX12_best_37 ?_
    refine ev_iload_n (pc := 38) 0 dX12_best_38 rfl ?_
    refine ev_ishl (pc := 39) dX12_best_39 ?_
    refine ev_icmp_ge (pc := 40) 175 (by decide) dX12_best_40 ?_ ?_
    · refine ev_iload_n (pc := 175) 1 dX12_best_175 rfl ?_
      refine ev_if_ne (pc := 176) 183 (by decide) dX12_best_176 ?_ ?_
      · refine ev_iload_n (pc := 183) 1 dX12_best_183 rfl ?_
        refine ev_iconst (pc := 184) 1 k_iconst_1 dX12_best_184 ?_
        refine ev_icmp_ne (pc := 185) 193 (by decide) dX12_best_185 ?_ ?_
        · refine ev_iload_n (pc := 193) 1 dX12_best_193 rfl ?_
          refine ev_iconst (pc := 194) 2 k_iconst_2 dX12_best_194 ?_
          refine ev_icmp_ne (pc := 195) 203 (by decide) dX12_best_195 ?_ ?_
          · refine ev_iload (pc := 203) 5 dX12_best_203 rfl ?_
            exact ev_iret (pc := 205) rfl dX12_best_205
          · refine ev_iload (pc := 198) 4 dX12_best_198 rfl ?_
            refine ev_goto (pc := 200) 205 (by decide) dX12_best_200 ?_
            exact ev_iret (pc := 205) rfl dX12_best_205
        · refine ev_iload (pc := 188) 3 dX12_best_188 rfl ?_
          refine ev_goto (pc := 190) 205 (by decide) dX12_best_190 ?_
          exact ev_iret (pc := 205) rfl dX12_best_205
      · refine ev_iload_n (pc := 179) 2 dX12_best_179 rfl ?_
        refine ev_goto (pc := 180) 205 (by decide) dX12_best_180 ?_
        exact ev_iret (pc := 205) rfl dX12_best_205
    · refine ev_iconst (pc := 43) 0 k_iconst_0 dX12_best_43 ?_
      refine ev_istore (pc := 44) (lv' := [(8, .int 0), (1, .int v1), (2, .int v2), (3, .int v3), (4, .int v4), (5, .int v5), (6, .int v6), (7, .int v7)]) dX12_best_44 rfl rfl ?_
      refine ev_iconst (pc := 46) 0 k_iconst_0 dX12_best_46 ?_
      refine ev_istore (pc := 47) (lv' := [(9, .int 0), (8, .int 0), (1, .int v1), (2, .int v2), (3, .int v3), (4, .int v4), (5, .int v5), (6, .int v6), (7, .int v7)]) dX12_best_47 rfl rfl ?_
      refine ev_iconst (pc := 49) 1 k_iconst_1 dX12_best_49 ?_
      refine ev_istore (pc := 50) (lv' := [(10, .int 1), (9, .int 0), (8, .int 0), (1, .int v1), (2, .int v2), (3, .int v3), (4, .int v4), (5, .int v5), (6, .int v6), (7, .int v7)]) dX12_best_50 rfl rfl ?_
      refine EvW.sub [3, 4, 5, 6, 7, 8, 9, 2, 1, 0] rfl ?_
      exact E_X12_best_52 N d (F_X12_best_35 N n) hr_35 N v1 v2 v3 v4 v5 v6 v7 0 0 1 I L
def f_X12_best (N : Nat) (a1 : Int32) (a2 : Int32) (I : PI) (L : PL) : RES := bI (f_X12_in N a1 2 12 I L) (fun x1 I2 L3 => (if x1 = 0 then some (some (.int (-1 : Int32)), I2, L3) else bI (f_X12_in N a2 0 3 I2 L3) (fun x4 I5 L6 => (if x4 = 0 then some (some (.int (-1 : Int32)), I5, L6) else F_X12_best_35 N N a1 a2 (-1 : Int32) 0 0 0 0 I5 L6))))
set_option maxRecDepth 100000 in
theorem ok_X12_best (N d : Nat) (a1 : Int32) (a2 : Int32) (I : PI) (L : PL) : MOk M_X12_best (d + 2) [.ref 12, .int a1, .int a2] I L (f_X12_best N a1 a2 I L) := by
  refine MOk.of (by decide +kernel) (Nat.le_of_ble_eq_true rfl) ?_
  show EvW _ _ 0 [(0, .ref 12), (1, .int a1), (2, .int a2)] [] I L _
  rw [f_X12_best]
  refine ev_iload_n (pc := 0) 1 dX12_best_0 rfl ?_
  refine ev_iconst (pc := 1) 2 k_iconst_2 dX12_best_1 ?_
  refine ev_bipush (pc := 2) 12 k_bipush_12 dX12_best_2 ?_
  refine ev_callSI (pc := 4) (d := d + 1) (As := [.int a1, .int 2, .int 12]) (st := []) cv_X12_in rfl w_790 rfl (Nat.le_of_ble_eq_true rfl) (ok_X12_in N (d + 1) a1 2 12 I L) dX12_best_4 (fun x1 I2 L3 => ?_)
  refine ev_if_eq (pc := 7) 19 (by decide) dX12_best_7 ?_ ?_
  · refine ev_iconst (pc := 19) (-1 : Int32) k_iconst_m1 dX12_best_19 ?_
    exact ev_iret (pc := 20) rfl dX12_best_20
  · refine ev_iload_n (pc := 10) 2 dX12_best_10 rfl ?_
    refine ev_iconst (pc := 11) 0 k_iconst_0 dX12_best_11 ?_
    refine ev_iconst (pc := 12) 3 k_iconst_3 dX12_best_12 ?_
    refine ev_callSI (pc := 13) (d := d + 1) (As := [.int a2, .int 0, .int 3]) (st := []) cv_X12_in rfl w_790 rfl (Nat.le_of_ble_eq_true rfl) (ok_X12_in N (d + 1) a2 0 3 I2 L3) dX12_best_13 (fun x4 I5 L6 => ?_)
    refine ev_if_ne (pc := 16) 21 (by decide) dX12_best_16 ?_ ?_
    · refine ev_iconst (pc := 21) (-1 : Int32) k_iconst_m1 dX12_best_21 ?_
      refine ev_istore_n (pc := 22) (lv' := [(3, .int (-1 : Int32)), (0, .ref 12), (1, .int a1), (2, .int a2)]) dX12_best_22 rfl rfl rfl ?_
      refine ev_iconst (pc := 23) 0 k_iconst_0 dX12_best_23 ?_
      refine ev_istore (pc := 24) (lv' := [(4, .int 0), (3, .int (-1 : Int32)), (0, .ref 12), (1, .int a1), (2, .int a2)]) dX12_best_24 rfl rfl ?_
      refine ev_iconst (pc := 26) 0 k_iconst_0 dX12_best_26 ?_
      refine ev_istore (pc := 27) (lv' := [(5, .int 0), (4, .int 0), (3, .int (-1 : Int32)), (0, .ref 12), (1, .int a1), (2, .int a2)]) dX12_best_27 rfl rfl ?_
      refine ev_iconst (pc := 29) 0 k_iconst_0 dX12_best_29 ?_
      refine ev_istore (pc := 30) (lv' := [(6, .int 0), (5, .int 0), (4, .int 0), (3, .int (-1 : Int32)), (0, .ref 12), (1, .int a1), (2, .int a2)]) dX12_best_30 rfl rfl ?_
      refine ev_iconst (pc := 32) 0 k_iconst_0 dX12_best_32 ?_
      refine ev_istore (pc := 33) (lv' := [(7, .int 0), (6, .int 0), (5, .int 0), (4, .int 0), (3, .int (-1 : Int32)), (0, .ref 12), (1, .int a1), (2, .int a2)]) dX12_best_33 rfl rfl ?_
      refine EvW.sub [6, 7, 4, 3, 2, 1, 0] rfl ?_
      exact E_X12_best_35 N d N a1 a2 (-1 : Int32) 0 0 0 0 I5 L6
    · refine ev_iconst (pc := 19) (-1 : Int32) k_iconst_m1 dX12_best_19 ?_
      exact ev_iret (pc := 20) rfl dX12_best_20
def F_X12_filter_217 (N : Nat) (v3 : Int32) (I : PI) (L : PL) : RES := some (some (.int v3), I, L)
set_option maxRecDepth 100000 in
theorem E_X12_filter_217 (N d : Nat) (v3 : Int32) (I : PI) (L : PL) : EvW M_X12_filter (d + 3) 217 [(3, .int v3)] [] I L (F_X12_filter_217 N v3 I L) := by
  rw [F_X12_filter_217]
  refine ev_iload_n (pc := 217) 0 dX12_filter_217 rfl ?_
  refine ev_goto (pc := 218) 243 (by decide) dX12_filter_218 ?_
  exact ev_iret (pc := 243) rfl dX12_filter_243
def F_X12_filter_181 (N : Nat) (r_73 : Int32 → Int32 → Int32 → Int32 → Int32 → Int32 → Int32 → Int32 → PI → PL → RES) (v1 : Int32) (v2 : Int32) (v7 : Int32) (v8 : Int32) (I : PI) (L : PL) : RES := nmI (I 12 28) (fun x11 => nmI (I 12 27) (fun x12 => nmI (I 12 31) (fun x13 => r_73 v1 v2 v8 x11 x12 x13 v7 (v8 + 1) I L)))
set_option maxRecDepth 100000 in
theorem E_X12_filter_181 (N d : Nat) (r_73 : Int32 → Int32 → Int32 → Int32 → Int32 → Int32 → Int32 → Int32 → PI → PL → RES) (hr_73 : ∀ (v1 : Int32) (v2 : Int32) (v3 : Int32) (v4 : Int32) (v5 : Int32) (v6 : Int32) (v7 : Int32) (v8 : Int32) (I : PI) (L : PL), EvW M_X12_filter (d + 3) 73 [(0, .ref 12), (1, .int v1), (2, .int v2), (3, .int v3), (4, .int v4), (5, .int v5), (6, .int v6), (7, .int v7), (8, .int v8)] [] I L (r_73 v1 v2 v3 v4 v5 v6 v7 v8 I L)) (v1 : Int32) (v2 : Int32) (v7 : Int32) (v8 : Int32) (I : PI) (L : PL) : EvW M_X12_filter (d + 3) 181 [(0, .ref 12), (1, .int v1), (2, .int v2), (7, .int v7), (8, .int v8)] [] I L (F_X12_filter_181 N r_73 v1 v2 v7 v8 I L) := by
  rw [F_X12_filter_181]
  refine ev_iload (pc := 181) 4 dX12_filter_181 rfl ?_
  refine ev_istore_n (pc := 183) (lv' := [(3, .int v8), (0, .ref 12), (1, .int v1), (2, .int v2), (7, .int v7), (8, .int v8)]) dX12_filter_183 rfl rfl rfl ?_
  refine ev_aload_n (pc := 184) 1 dX12_filter_184 rfl ?_
  refine gf_X12_284 (pc := 185) rfl dX12_filter_185 ?_
  refine ev_nmI (fun x11 => ?_)
  refine ev_istore (pc := 188) (lv' := [(4, .int x11), (3, .int v8), (0, .ref 12), (1, .int v1), (2, .int v2), (7, .int v7), (8, .int v8)]) dX12_filter_188 rfl rfl ?_
  refine ev_aload_n (pc := 190) 2 dX12_filter_190 rfl ?_
  refine gf_X12_293 (pc := 191) rfl dX12_filter_191 ?_
  refine ev_nmI (fun x12 => ?_)
  refine ev_istore (pc := 194) (lv' := [(5, .int x12), (4, .int x11), (3, .int v8), (0, .ref 12), (1, .int v1), (2, .int v2), (7, .int v7), (8, .int v8)]) dX12_filter_194 rfl rfl ?_
  refine ev_aload_n (pc := 196) 3 dX12_filter_196 rfl ?_
  refine gf_X12_296 (pc := 197) rfl dX12_filter_197 ?_
  refine ev_nmI (fun x13 => ?_)
  refine ev_istore (pc := 200) (lv' := [(6, .int x13), (5, .int x12), (4, .int x11), (3, .int v8), (0, .ref 12), (1, .int v1), (2, .int v2), (7, .int v7), (8, .int v8)]) dX12_filter_200 rfl rfl ?_
  refine ev_iinc (pc := 202) (lv' := [(8, .int (v8 + 1)), (6, .int x13), (5, .int x12), (4, .int x11), (3, .int v8), (0, .ref 12), (1, .int v1), (2, .int v2), (7, .int v7)]) dX12_filter_202 8 rfl rfl 1 k_iconst_1 rfl ?_
  refine ev_goto (pc := 205) 73 (by decide) dX12_filter_205 ?_
  refine EvW.sub [5, 6, 7, 4, 3, 2, 1, 8, 0] rfl ?_
  exact hr_73 v1 v2 v8 x11 x12 x13 v7 (v8 + 1) I L
def F_X12_filter_153 (N : Nat) (r_73 : Int32 → Int32 → Int32 → Int32 → Int32 → Int32 → Int32 → Int32 → PI → PL → RES) (v1 : Int32) (v2 : Int32) (v3 : Int32) (v4 : Int32) (v5 : Int32) (v6 : Int32) (v7 : Int32) (v8 : Int32) (s0 : Int32) (I : PI) (L : PL) : RES := (if (I 12 27) ≤ 0 then r_73 v1 v2 v3 v4 v5 v6 v7 (v8 + 1) I L else (if 0 < s0 then F_X12_filter_181 N r_73 v1 v2 v7 v8 I L else (if s0 = 0 then (if (I 12 31) ≤ v6 then r_73 v1 v2 v3 v4 v5 v6 v7 (v8 + 1) I L else F_X12_filter_181 N r_73 v1 v2 v7 v8 I L) else r_73 v1 v2 v3 v4 v5 v6 v7 (v8 + 1) I L)))
set_option maxRecDepth 100000 in
theorem E_X12_filter_153 (N d : Nat) (r_73 : Int32 → Int32 → Int32 → Int32 → Int32 → Int32 → Int32 → Int32 → PI → PL → RES) (hr_73 : ∀ (v1 : Int32) (v2 : Int32) (v3 : Int32) (v4 : Int32) (v5 : Int32) (v6 : Int32) (v7 : Int32) (v8 : Int32) (I : PI) (L : PL), EvW M_X12_filter (d + 3) 73 [(0, .ref 12), (1, .int v1), (2, .int v2), (3, .int v3), (4, .int v4), (5, .int v5), (6, .int v6), (7, .int v7), (8, .int v8)] [] I L (r_73 v1 v2 v3 v4 v5 v6 v7 v8 I L)) (v1 : Int32) (v2 : Int32) (v3 : Int32) (v4 : Int32) (v5 : Int32) (v6 : Int32) (v7 : Int32) (v8 : Int32) (s0 : Int32) (I : PI) (L : PL) : EvW M_X12_filter (d + 3) 153 [(0, .ref 12), (1, .int v1), (2, .int v2), (3, .int v3), (4, .int v4), (5, .int v5), (6, .int v6), (7, .int v7), (8, .int v8)] [.int s0] I L (F_X12_filter_153 N r_73 v1 v2 v3 v4 v5 v6 v7 v8 s0 I L) := by
  rw [F_X12_filter_153]
  refine ev_istore (pc := 153) (lv' := [(10, .int s0), (0, .ref 12), (1, .int v1), (2, .int v2), (3, .int v3), (4, .int v4), (5, .int v5), (6, .int v6), (7, .int v7), (8, .int v8)]) dX12_filter_153 rfl rfl ?_
  refine ev_aload_n (pc := 155) 1 dX12_filter_155 rfl ?_
  refine gf_X12_293 (pc := 156) rfl dX12_filter_156 ?_
  refine ev_if_le (pc := 159) 202 (by decide) dX12_filter_159 ?_ ?_
  · refine ev_iinc (pc := 202) (lv' := [(8, .int (v8 + 1)), (10, .int s0), (0, .ref 12), (1, .int v1), (2, .int v2), (3, .int v3), (4, .int v4), (5, .int v5), (6, .int v6), (7, .int v7)]) dX12_filter_202 9 rfl rfl 1 k_iconst_1 rfl ?_
    refine ev_goto (pc := 205) 73 (by decide) dX12_filter_205 ?_
    refine EvW.sub [2, 3, 4, 5, 6, 7, 8, 9, 0] rfl ?_
    exact hr_73 v1 v2 v3 v4 v5 v6 v7 (v8 + 1) I L
  · refine ev_iload (pc := 162) 0 dX12_filter_162 rfl ?_
    refine ev_if_gt (pc := 164) 181 (by decide) dX12_filter_164 ?_ ?_
    · refine EvW.sub [1, 2, 3, 8, 9] rfl ?_
      exact E_X12_filter_181 N d r_73 hr_73 v1 v2 v7 v8 I L
    · refine ev_iload (pc := 167) 0 dX12_filter_167 rfl ?_
      refine ev_if_ne (pc := 169) 202 (by decide) dX12_filter_169 ?_ ?_
      · refine ev_iinc (pc := 202) (lv' := [(8, .int (v8 + 1)), (10, .int s0), (0, .ref 12), (1, .int v1), (2, .int v2), (3, .int v3), (4, .int v4), (5, .int v5), (6, .int v6), (7, .int v7)]) dX12_filter_202 9 rfl rfl 1 k_iconst_1 rfl ?_
        refine ev_goto (pc := 205) 73 (by decide) dX12_filter_205 ?_
        refine EvW.sub [2, 3, 4, 5, 6, 7, 8, 9, 0] rfl ?_
        exact hr_73 v1 v2 v3 v4 v5 v6 v7 (v8 + 1) I L
      · refine ev_aload_n (pc := 172) 1 dX12_filter_172 rfl ?_
        refine gf_X12_296 (pc := 173) rfl dX12_filter_173 ?_
        refine ev_iload (pc := 176) 7 dX12_filter_176 rfl ?_
        refine ev_icmp_le (pc := 178) 202 (by decide) dX12_filter_178 ?_ ?_
        · refine ev_iinc (pc := 202) (lv' := [(8, .int (v8 + 1)), (10, .int s0), (0, .ref 12), (1, .int v1), (2, .int v2), (3, .int v3), (4, .int v4), (5, .int v5), (6, .int v6), (7, .int v7)]) dX12_filter_202 9 rfl rfl 1 k_iconst_1 rfl ?_
          refine ev_goto (pc := 205) 73 (by decide) dX12_filter_205 ?_
          refine EvW.sub [2, 3, 4, 5, 6, 7, 8, 9, 0] rfl ?_
          exact hr_73 v1 v2 v3 v4 v5 v6 v7 (v8 + 1) I L
        · refine EvW.sub [1, 2, 3, 8, 9] rfl ?_
          exact E_X12_filter_181 N d r_73 hr_73 v1 v2 v7 v8 I L
def F_X12_filter_94 (N : Nat) (r_73 : Int32 → Int32 → Int32 → Int32 → Int32 → Int32 → Int32 → Int32 → PI → PL → RES) : Nat → Int32 → Int32 → Int32 → Int32 → Int32 → Int32 → Int32 → Int32 → Int32 → Int32 → PI → PL → RES
  | 0, _, _, _, _, _, _, _, _, _, _, _, _ => none
  | n + 1, v1, v2, v3, v4, v5, v6, v7, v8, v9, v10, I, L => (if v10 < 0 then bV (f_X12_lobesOf N v1 I L) (fun I9 L10 => (if v3 = (-1 : Int32) then F_X12_filter_153 N r_73 v1 v2 v3 v4 v5 v6 v7 v8 1 I9 L10 else F_X12_filter_153 N r_73 v1 v2 v3 v4 v5 v6 v7 v8 ((v4 * (I9 12 27)) - ((I9 12 28) * v5)) I9 L10)) else gd (decide (¬ 5 = 0)) (gd (inb v10 24) (nmW (uI I 53 (Int32.toNatClampNeg v10) ((jirem v9 5) - 2)) (fun I14 => gd (decide (¬ 5 = 0)) (nmI (v9 / 5) (fun x15 => (F_X12_filter_94 N r_73 n) v1 v2 v3 v4 v5 v6 v7 v8 x15 (v10 + (-1 : Int32)) I14 L))))))
set_option maxRecDepth 100000 in
theorem E_X12_filter_94 (N d : Nat) (r_73 : Int32 → Int32 → Int32 → Int32 → Int32 → Int32 → Int32 → Int32 → PI → PL → RES) (hr_73 : ∀ (v1 : Int32) (v2 : Int32) (v3 : Int32) (v4 : Int32) (v5 : Int32) (v6 : Int32) (v7 : Int32) (v8 : Int32) (I : PI) (L : PL), EvW M_X12_filter (d + 3) 73 [(0, .ref 12), (1, .int v1), (2, .int v2), (3, .int v3), (4, .int v4), (5, .int v5), (6, .int v6), (7, .int v7), (8, .int v8)] [] I L (r_73 v1 v2 v3 v4 v5 v6 v7 v8 I L)) : ∀ (n : Nat) (v1 : Int32) (v2 : Int32) (v3 : Int32) (v4 : Int32) (v5 : Int32) (v6 : Int32) (v7 : Int32) (v8 : Int32) (v9 : Int32) (v10 : Int32) (I : PI) (L : PL), EvW M_X12_filter (d + 3) 94 [(0, .ref 12), (1, .int v1), (2, .int v2), (3, .int v3), (4, .int v4), (5, .int v5), (6, .int v6), (7, .int v7), (8, .int v8), (9, .int v9), (10, .int v10)] [] I L (F_X12_filter_94 N r_73 n v1 v2 v3 v4 v5 v6 v7 v8 v9 v10 I L) := by
  intro n
  induction n with
  | zero =>
    intro v1 v2 v3 v4 v5 v6 v7 v8 v9 v10 I L
    exact EvW.none
  | succ n hr_94 =>
    intro v1 v2 v3 v4 v5 v6 v7 v8 v9 v10 I L
    rw [F_X12_filter_94]
    refine ev_iload (pc := 94) 10 dX12_filter_94 rfl ?_
    refine ev_if_lt (pc := 96) 124 (by decide) dX12_filter_96 ?_ ?_
    · refine ev_aload_n (pc := 124) 0 dX12_filter_124 rfl ?_
      refine ev_iload_n (pc := 125) 1 dX12_filter_125 rfl ?_
      refine ev_callVV (pc := 126) (d := d + 2) (As := [.int v1]) (st := []) cv_X12_lobesOf rfl w_861 rfl (Nat.le_of_ble_eq_true rfl) (ok_X12_lobesOf N (d) v1 I L) dX12_filter_126 (fun I9 L10 => ?_)
      refine ev_iload_n (pc := 129) 3 dX12_filter_129 rfl ?_
      refine ev_iconst (pc := 130) (-1 : Int32) k_iconst_m1 dX12_filter_130 ?_
      refine ev_icmp_ne (pc := 131) 138 (by decide) dX12_filter_131 ?_ ?_
      · refine ev_iload (pc := 138) 4 dX12_filter_138 rfl ?_
        refine ev_aload_n (pc := 140) 0 dX12_filter_140 rfl ?_
        refine gf_X12_293 (pc := 141) rfl dX12_filter_141 ?_
        refine ev_imul (pc := 144) dX12_filter_144 ?_
        refine ev_aload_n (pc := 145) 0 dX12_filter_145 rfl ?_
        refine gf_X12_284 (pc := 146) rfl dX12_filter_146 ?_
        refine ev_iload (pc := 149) 5 dX12_filter_149 rfl ?_
        refine ev_imul (pc := 151) dX12_filter_151 ?_
        refine ev_isub (pc := 152) dX12_filter_152 ?_
        refine EvW.sub [0, 1, 2, 3, 4, 5, 6, 7, 8] rfl ?_
        exact E_X12_filter_153 N d r_73 hr_73 v1 v2 v3 v4 v5 v6 v7 v8 ((v4 * (I9 12 27)) - ((I9 12 28) * v5)) I9 L10
      · refine ev_iconst (pc := 134) 1 k_iconst_1 dX12_filter_134 ?_
        refine ev_goto (pc := 135) 153 (by decide) dX12_filter_135 ?_
        refine EvW.sub [0, 1, 2, 3, 4, 5, 6, 7, 8] rfl ?_
        exact E_X12_filter_153 N d r_73 hr_73 v1 v2 v3 v4 v5 v6 v7 v8 1 I9 L10
    · refine ev_aload_n (pc := 99) 0 dX12_filter_99 rfl ?_
      refine gf_X12_52 (pc := 100) rfl dX12_filter_100 ?_
      refine ev_iload (pc := 103) 10 dX12_filter_103 rfl ?_
      refine ev_iload (pc := 105) 9 dX12_filter_105 rfl ?_
      refine ev_iconst (pc := 107) 5 k_iconst_5 dX12_filter_107 ?_
      refine ev_irem (pc := 108) dX12_filter_108 ?_
      refine ev_iconst (pc := 109) 2 k_iconst_2 dX12_filter_109 ?_
      refine ev_isub (pc := 110) dX12_filter_110 ?_
      refine ev_iast (pc := 111) kK_53 dX12_filter_111 ?_
      refine ev_nmW (fun I14 => ?_)
      refine ev_iload (pc := 112) 9 dX12_filter_112 rfl ?_
      refine ev_iconst (pc := 114) 5 k_iconst_5 dX12_filter_114 ?_
      refine ev_idiv (pc := 115) dX12_filter_115 ?_
      refine ev_nmI (fun x15 => ?_)
      refine ev_istore (pc := 116) (lv' := [(9, .int x15), (0, .ref 12), (1, .int v1), (2, .int v2), (3, .int v3), (4, .int v4), (5, .int v5), (6, .int v6), (7, .int v7), (8, .int v8), (10, .int v10)]) dX12_filter_116 rfl rfl ?_
      refine ev_iinc (pc := 118) (lv' := [(10, .int (v10 + (-1 : Int32))), (9, .int x15), (0, .ref 12), (1, .int v1), (2, .int v2), (3, .int v3), (4, .int v4), (5, .int v5), (6, .int v6), (7, .int v7), (8, .int v8)]) dX12_filter_118 10 rfl rfl (-1 : Int32) k_iconst_m1 rfl ?_
      refine ev_goto (pc := 121) 94 (by decide) dX12_filter_121 ?_
      refine EvW.sub [2, 3, 4, 5, 6, 7, 8, 9, 10, 1, 0] rfl ?_
      exact hr_94 v1 v2 v3 v4 v5 v6 v7 v8 x15 (v10 + (-1 : Int32)) I14 L
def F_X12_filter_73 (N : Nat) : Nat → Int32 → Int32 → Int32 → Int32 → Int32 → Int32 → Int32 → Int32 → PI → PL → RES
  | 0, _, _, _, _, _, _, _, _, _, _ => none
  | n + 1, v1, v2, v3, v4, v5, v6, v7, v8, I, L => (if v7 ≤ v8 then (if v3 = (-1 : Int32) then F_X12_filter_217 N v3 I L else (if v2 = 0 then F_X12_filter_217 N v3 I L else (if v2 = 1 then some (some (.int v4), I, L) else (if v2 = 2 then some (some (.int v5), I, L) else some (some (.int v6), I, L))))) else gd (inb v1 9) (nmI ((I 50 (Int32.toNatClampNeg v1)) - 1) (fun x7 => F_X12_filter_94 N (F_X12_filter_73 N n) N v1 v2 v3 v4 v5 v6 v7 v8 v8 x7 I L)))
set_option maxRecDepth 100000 in
theorem E_X12_filter_73 (N d : Nat) : ∀ (n : Nat) (v1 : Int32) (v2 : Int32) (v3 : Int32) (v4 : Int32) (v5 : Int32) (v6 : Int32) (v7 : Int32) (v8 : Int32) (I : PI) (L : PL), EvW M_X12_filter (d + 3) 73 [(0, .ref 12), (1, .int v1), (2, .int v2), (3, .int v3), (4, .int v4), (5, .int v5), (6, .int v6), (7, .int v7), (8, .int v8)] [] I L (F_X12_filter_73 N n v1 v2 v3 v4 v5 v6 v7 v8 I L) := by
  intro n
  induction n with
  | zero =>
    intro v1 v2 v3 v4 v5 v6 v7 v8 I L
    exact EvW.none
  | succ n hr_73 =>
    intro v1 v2 v3 v4 v5 v6 v7 v8 I L
    rw [F_X12_filter_73]
    refine ev_iload (pc := 73) 8 dX12_filter_73 rfl ?_
    refine ev_iload (pc := 75) 7 dX12_filter_75 rfl ?_
    refine ev_icmp_ge (pc := 77) 208 (by decide) dX12_filter_77 ?_ ?_
    · refine ev_iload_n (pc := 208) 3 dX12_filter_208 rfl ?_
      refine ev_iconst (pc := 209) (-1 : Int32) k_iconst_m1 dX12_filter_209 ?_
      refine ev_icmp_eq (pc := 210) 217 (by decide) dX12_filter_210 ?_ ?_
      · refine EvW.sub [3] rfl ?_
        exact E_X12_filter_217 N d v3 I L
      · refine ev_iload_n (pc := 213) 2 dX12_filter_213 rfl ?_
        refine ev_if_ne (pc := 214) 221 (by decide) dX12_filter_214 ?_ ?_
        · refine ev_iload_n (pc := 221) 2 dX12_filter_221 rfl ?_
          refine ev_iconst (pc := 222) 1 k_iconst_1 dX12_filter_222 ?_
          refine ev_icmp_ne (pc := 223) 231 (by decide) dX12_filter_223 ?_ ?_
          · refine ev_iload_n (pc := 231) 2 dX12_filter_231 rfl ?_
            refine ev_iconst (pc := 232) 2 k_iconst_2 dX12_filter_232 ?_
            refine ev_icmp_ne (pc := 233) 241 (by decide) dX12_filter_233 ?_ ?_
            · refine ev_iload (pc := 241) 6 dX12_filter_241 rfl ?_
              exact ev_iret (pc := 243) rfl dX12_filter_243
            · refine ev_iload (pc := 236) 5 dX12_filter_236 rfl ?_
              refine ev_goto (pc := 238) 243 (by decide) dX12_filter_238 ?_
              exact ev_iret (pc := 243) rfl dX12_filter_243
          · refine ev_iload (pc := 226) 4 dX12_filter_226 rfl ?_
            refine ev_goto (pc := 228) 243 (by decide) dX12_filter_228 ?_
            exact ev_iret (pc := 243) rfl dX12_filter_243
        · refine EvW.sub [3] rfl ?_
          exact E_X12_filter_217 N d v3 I L
    · refine ev_iload (pc := 80) 8 dX12_filter_80 rfl ?_
      refine ev_istore (pc := 82) (lv' := [(9, .int v8), (0, .ref 12), (1, .int v1), (2, .int v2), (3, .int v3), (4, .int v4), (5, .int v5), (6, .int v6), (7, .int v7), (8, .int v8)]) dX12_filter_82 rfl rfl ?_
      refine ev_aload_n (pc := 84) 1 dX12_filter_84 rfl ?_
      refine gf_X12_43 (pc := 85) rfl dX12_filter_85 ?_
      refine ev_iload_n (pc := 88) 2 dX12_filter_88 rfl ?_
      refine ev_iald (pc := 89) kK_50 dX12_filter_89 ?_
      refine ev_iconst (pc := 90) 1 k_iconst_1 dX12_filter_90 ?_
      refine ev_isub (pc := 91) dX12_filter_91 ?_
      refine ev_nmI (fun x7 => ?_)
      refine ev_istore (pc := 92) (lv' := [(10, .int x7), (9, .int v8), (0, .ref 12), (1, .int v1), (2, .int v2), (3, .int v3), (4, .int v4), (5, .int v5), (6, .int v6), (7, .int v7), (8, .int v8)]) dX12_filter_92 rfl rfl ?_
      refine EvW.sub [2, 3, 4, 5, 6, 7, 8, 9, 10, 1, 0] rfl ?_
      exact E_X12_filter_94 N d (F_X12_filter_73 N n) hr_73 N v1 v2 v3 v4 v5 v6 v7 v8 v8 x7 I L
def F_X12_filter_47 (N : Nat) : Nat → Int32 → Int32 → Int32 → Int32 → Int32 → Int32 → Int32 → Int32 → PI → PL → RES
  | 0, _, _, _, _, _, _, _, _, _, _ => none
  | n + 1, v1, v2, v3, v4, v5, v6, v7, v8, I, L => gd (inb v1 9) ((if (I 50 (Int32.toNatClampNeg v1)) ≤ v8 then F_X12_filter_73 N N v1 v2 v3 v4 v5 v6 v7 0 I L else nmI (v7 * 5) (fun x16 => (F_X12_filter_47 N n) v1 v2 v3 v4 v5 v6 x16 (v8 + 1) I L)))
set_option maxRecDepth 100000 in
theorem E_X12_filter_47 (N d : Nat) : ∀ (n : Nat) (v1 : Int32) (v2 : Int32) (v3 : Int32) (v4 : Int32) (v5 : Int32) (v6 : Int32) (v7 : Int32) (v8 : Int32) (I : PI) (L : PL), EvW M_X12_filter (d + 3) 47 [(0, .ref 12), (1, .int v1), (2, .int v2), (3, .int v3), (4, .int v4), (5, .int v5), (6, .int v6), (7, .int v7), (8, .int v8)] [] I L (F_X12_filter_47 N n v1 v2 v3 v4 v5 v6 v7 v8 I L) := by
  intro n
  induction n with
  | zero =>
    intro v1 v2 v3 v4 v5 v6 v7 v8 I L
    exact EvW.none
  | succ n hr_47 =>
    intro v1 v2 v3 v4 v5 v6 v7 v8 I L
    rw [F_X12_filter_47]
    refine ev_iload (pc := 47) 8 dX12_filter_47 rfl ?_
    refine ev_aload_n (pc := 49) 0 dX12_filter_49 rfl ?_
    refine gf_X12_43 (pc := 50) rfl dX12_filter_50 ?_
    refine ev_iload_n (pc := 53) 1 dX12_filter_53 rfl ?_
    refine ev_iald (pc := 54) kK_50 dX12_filter_54 ?_
    refine ev_icmp_ge (pc := 55) 70 (by decide) dX12_filter_55 ?_ ?_
    · refine ev_iconst (pc := 70) 0 k_iconst_0 dX12_filter_70 ?_
      refine ev_istore (pc := 71) (lv' := [(8, .int 0), (0, .ref 12), (1, .int v1), (2, .int v2), (3, .int v3), (4, .int v4), (5, .int v5), (6, .int v6), (7, .int v7)]) dX12_filter_71 rfl rfl ?_
      refine EvW.sub [1, 2, 3, 4, 5, 6, 7, 8, 0] rfl ?_
      exact E_X12_filter_73 N d N v1 v2 v3 v4 v5 v6 v7 0 I L
    · refine ev_iload (pc := 58) 7 dX12_filter_58 rfl ?_
      refine ev_iconst (pc := 60) 5 k_iconst_5 dX12_filter_60 ?_
      refine ev_imul (pc := 61) dX12_filter_61 ?_
      refine ev_nmI (fun x16 => ?_)
      refine ev_istore (pc := 62) (lv' := [(7, .int x16), (0, .ref 12), (1, .int v1), (2, .int v2), (3, .int v3), (4, .int v4), (5, .int v5), (6, .int v6), (8, .int v8)]) dX12_filter_62 rfl rfl ?_
      refine ev_iinc (pc := 64) (lv' := [(8, .int (v8 + 1)), (7, .int x16), (0, .ref 12), (1, .int v1), (2, .int v2), (3, .int v3), (4, .int v4), (5, .int v5), (6, .int v6)]) dX12_filter_64 8 rfl rfl 1 k_iconst_1 rfl ?_
      refine ev_goto (pc := 67) 47 (by decide) dX12_filter_67 ?_
      refine EvW.sub [2, 3, 4, 5, 6, 7, 8, 1, 0] rfl ?_
      exact hr_47 v1 v2 v3 v4 v5 v6 x16 (v8 + 1) I L
def f_X12_filter (N : Nat) (a1 : Int32) (a2 : Int32) (I : PI) (L : PL) : RES := bI (f_X12_isCode N a1 I L) (fun x1 I2 L3 => (if x1 = 0 then some (some (.int (-1 : Int32)), I2, L3) else gd (inb a1 9) ((if 6 < (I2 50 (Int32.toNatClampNeg a1)) then some (some (.int (-1 : Int32)), I2, L3) else bI (f_X12_in N a2 0 3 I2 L3) (fun x4 I5 L6 => (if x4 = 0 then some (some (.int (-1 : Int32)), I5, L6) else F_X12_filter_47 N N a1 a2 (-1 : Int32) 0 0 0 1 0 I5 L6))))))
set_option maxRecDepth 100000 in
theorem ok_X12_filter (N d : Nat) (a1 : Int32) (a2 : Int32) (I : PI) (L : PL) : MOk M_X12_filter (d + 3) [.ref 12, .int a1, .int a2] I L (f_X12_filter N a1 a2 I L) := by
  refine MOk.of (by decide +kernel) (Nat.le_of_ble_eq_true rfl) ?_
  show EvW _ _ 0 [(0, .ref 12), (1, .int a1), (2, .int a2)] [] I L _
  rw [f_X12_filter]
  refine ev_aload_n (pc := 0) 0 dX12_filter_0 rfl ?_
  refine ev_iload_n (pc := 1) 1 dX12_filter_1 rfl ?_
  refine ev_callVI (pc := 2) (d := d + 2) (As := [.int a1]) (st := []) cv_X12_isCode rfl w_802 rfl (Nat.le_of_ble_eq_true rfl) (ok_X12_isCode N (d + 1) a1 I L) dX12_filter_2 (fun x1 I2 L3 => ?_)
  refine ev_if_eq (pc := 5) 28 (by decide) dX12_filter_5 ?_ ?_
  · refine ev_iconst (pc := 28) (-1 : Int32) k_iconst_m1 dX12_filter_28 ?_
    exact ev_iret (pc := 29) rfl dX12_filter_29
  · refine ev_aload_n (pc := 8) 0 dX12_filter_8 rfl ?_
    refine gf_X12_43 (pc := 9) rfl dX12_filter_9 ?_
    refine ev_iload_n (pc := 12) 1 dX12_filter_12 rfl ?_
    refine ev_iald (pc := 13) kK_50 dX12_filter_13 ?_
    refine ev_bipush (pc := 14) 6 k_bipush_6 dX12_filter_14 ?_
    refine ev_icmp_gt (pc := 16) 28 (by decide) dX12_filter_16 ?_ ?_
    · refine ev_iconst (pc := 28) (-1 : Int32) k_iconst_m1 dX12_filter_28 ?_
      exact ev_iret (pc := 29) rfl dX12_filter_29
    · refine ev_iload_n (pc := 19) 2 dX12_filter_19 rfl ?_
      refine ev_iconst (pc := 20) 0 k_iconst_0 dX12_filter_20 ?_
      refine ev_iconst (pc := 21) 3 k_iconst_3 dX12_filter_21 ?_
      refine ev_callSI (pc := 22) (d := d + 2) (As := [.int a2, .int 0, .int 3]) (st := []) cv_X12_in rfl w_790 rfl (Nat.le_of_ble_eq_true rfl) (ok_X12_in N (d + 2) a2 0 3 I2 L3) dX12_filter_22 (fun x4 I5 L6 => ?_)
      refine ev_if_ne (pc := 25) 30 (by decide) dX12_filter_25 ?_ ?_
      · refine ev_iconst (pc := 30) (-1 : Int32) k_iconst_m1 dX12_filter_30 ?_
        refine ev_istore_n (pc := 31) (lv' := [(3, .int (-1 : Int32)), (0, .ref 12), (1, .int a1), (2, .int a2)]) dX12_filter_31 rfl rfl rfl ?_
        refine ev_iconst (pc := 32) 0 k_iconst_0 dX12_filter_32 ?_
        refine ev_istore (pc := 33) (lv' := [(4, .int 0), (3, .int (-1 : Int32)), (0, .ref 12), (1, .int a1), (2, .int a2)]) dX12_filter_33 rfl rfl ?_
        refine ev_iconst (pc := 35) 0 k_iconst_0 dX12_filter_35 ?_
        refine ev_istore (pc := 36) (lv' := [(5, .int 0), (4, .int 0), (3, .int (-1 : Int32)), (0, .ref 12), (1, .int a1), (2, .int a2)]) dX12_filter_36 rfl rfl ?_
        refine ev_iconst (pc := 38) 0 k_iconst_0 dX12_filter_38 ?_
        refine ev_istore (pc := 39) (lv' := [(6, .int 0), (5, .int 0), (4, .int 0), (3, .int (-1 : Int32)), (0, .ref 12), (1, .int a1), (2, .int a2)]) dX12_filter_39 rfl rfl ?_
        refine ev_iconst (pc := 41) 1 k_iconst_1 dX12_filter_41 ?_
        refine ev_istore (pc := 42) (lv' := [(7, .int 1), (6, .int 0), (5, .int 0), (4, .int 0), (3, .int (-1 : Int32)), (0, .ref 12), (1, .int a1), (2, .int a2)]) dX12_filter_42 rfl rfl ?_
        refine ev_iconst (pc := 44) 0 k_iconst_0 dX12_filter_44 ?_
        refine ev_istore (pc := 45) (lv' := [(8, .int 0), (7, .int 1), (6, .int 0), (5, .int 0), (4, .int 0), (3, .int (-1 : Int32)), (0, .ref 12), (1, .int a1), (2, .int a2)]) dX12_filter_45 rfl rfl ?_
        refine EvW.sub [6, 7, 8, 5, 4, 3, 2, 1, 0] rfl ?_
        exact E_X12_filter_47 N d N a1 a2 (-1 : Int32) 0 0 0 1 0 I5 L6
      · refine ev_iconst (pc := 28) (-1 : Int32) k_iconst_m1 dX12_filter_28 ?_
        exact ev_iret (pc := 29) rfl dX12_filter_29
def F_X12_set_164 (N : Nat) (v1 : Int32) (v2 : Int32) (s0 : Int32) (I : PI) (L : PL) : RES := nmW (uI I 12 36 s0) (fun I11 => (if v1 = 5 then nmW (uI I11 12 37 v2) (fun I13 => gd (decide (1 &&& 1 = 1)) (some (some (.int 1), I13, L))) else nmW (uI I11 12 37 (I11 12 37)) (fun I12 => gd (decide (1 &&& 1 = 1)) (some (some (.int 1), I12, L)))))
set_option maxRecDepth 100000 in
theorem E_X12_set_164 (N d : Nat) (v1 : Int32) (v2 : Int32) (s0 : Int32) (I : PI) (L : PL) : EvW M_X12_set (d + 1) 164 [(0, .ref 12), (1, .int v1), (2, .int v2)] [.int s0, .ref 12] I L (F_X12_set_164 N v1 v2 s0 I L) := by
  rw [F_X12_set_164]
  refine pf_X12_68 (pc := 164) rfl dX12_set_164 ?_
  refine ev_nmW (fun I11 => ?_)
  refine ev_aload_n (pc := 167) 0 dX12_set_167 rfl ?_
  refine ev_iload_n (pc := 168) 1 dX12_set_168 rfl ?_
  refine ev_iconst (pc := 169) 5 k_iconst_5 dX12_set_169 ?_
  refine ev_icmp_ne (pc := 170) 177 (by decide) dX12_set_170 ?_ ?_
  · refine ev_aload_n (pc := 177) 0 dX12_set_177 rfl ?_
    refine gf_X12_71 (pc := 178) rfl dX12_set_178 ?_
    refine pf_X12_71 (pc := 181) rfl dX12_set_181 ?_
    refine ev_nmW (fun I12 => ?_)
    refine ev_iconst (pc := 184) 1 k_iconst_1 dX12_set_184 ?_
    exact ev_zret (pc := 185) rfl dX12_set_185
  · refine ev_iload_n (pc := 173) 2 dX12_set_173 rfl ?_
    refine ev_goto (pc := 174) 181 (by decide) dX12_set_174 ?_
    refine pf_X12_71 (pc := 181) rfl dX12_set_181 ?_
    refine ev_nmW (fun I13 => ?_)
    refine ev_iconst (pc := 184) 1 k_iconst_1 dX12_set_184 ?_
    exact ev_zret (pc := 185) rfl dX12_set_185
def F_X12_set_147 (N : Nat) (v1 : Int32) (v2 : Int32) (s0 : Int32) (I : PI) (L : PL) : RES := nmW (uI I 12 35 s0) (fun I10 => (if v1 = 4 then F_X12_set_164 N v1 v2 v2 I10 L else F_X12_set_164 N v1 v2 (I10 12 36) I10 L))
set_option maxRecDepth 100000 in
theorem E_X12_set_147 (N d : Nat) (v1 : Int32) (v2 : Int32) (s0 : Int32) (I : PI) (L : PL) : EvW M_X12_set (d + 1) 147 [(0, .ref 12), (1, .int v1), (2, .int v2)] [.int s0, .ref 12] I L (F_X12_set_147 N v1 v2 s0 I L) := by
  rw [F_X12_set_147]
  refine pf_X12_65 (pc := 147) rfl dX12_set_147 ?_
  refine ev_nmW (fun I10 => ?_)
  refine ev_aload_n (pc := 150) 0 dX12_set_150 rfl ?_
  refine ev_iload_n (pc := 151) 1 dX12_set_151 rfl ?_
  refine ev_iconst (pc := 152) 4 k_iconst_4 dX12_set_152 ?_
  refine ev_icmp_ne (pc := 153) 160 (by decide) dX12_set_153 ?_ ?_
  · refine ev_aload_n (pc := 160) 0 dX12_set_160 rfl ?_
    refine gf_X12_68 (pc := 161) rfl dX12_set_161 ?_
    exact E_X12_set_164 N d v1 v2 (I10 12 36) I10 L
  · refine ev_iload_n (pc := 156) 2 dX12_set_156 rfl ?_
    refine ev_goto (pc := 157) 164 (by decide) dX12_set_157 ?_
    exact E_X12_set_164 N d v1 v2 v2 I10 L
def F_X12_set_130 (N : Nat) (v1 : Int32) (v2 : Int32) (s0 : Int32) (I : PI) (L : PL) : RES := nmW (uI I 12 34 s0) (fun I9 => (if v1 = 3 then F_X12_set_147 N v1 v2 v2 I9 L else F_X12_set_147 N v1 v2 (I9 12 35) I9 L))
set_option maxRecDepth 100000 in
theorem E_X12_set_130 (N d : Nat) (v1 : Int32) (v2 : Int32) (s0 : Int32) (I : PI) (L : PL) : EvW M_X12_set (d + 1) 130 [(0, .ref 12), (1, .int v1), (2, .int v2)] [.int s0, .ref 12] I L (F_X12_set_130 N v1 v2 s0 I L) := by
  rw [F_X12_set_130]
  refine pf_X12_62 (pc := 130) rfl dX12_set_130 ?_
  refine ev_nmW (fun I9 => ?_)
  refine ev_aload_n (pc := 133) 0 dX12_set_133 rfl ?_
  refine ev_iload_n (pc := 134) 1 dX12_set_134 rfl ?_
  refine ev_iconst (pc := 135) 3 k_iconst_3 dX12_set_135 ?_
  refine ev_icmp_ne (pc := 136) 143 (by decide) dX12_set_136 ?_ ?_
  · refine ev_aload_n (pc := 143) 0 dX12_set_143 rfl ?_
    refine gf_X12_65 (pc := 144) rfl dX12_set_144 ?_
    exact E_X12_set_147 N d v1 v2 (I9 12 35) I9 L
  · refine ev_iload_n (pc := 139) 2 dX12_set_139 rfl ?_
    refine ev_goto (pc := 140) 147 (by decide) dX12_set_140 ?_
    exact E_X12_set_147 N d v1 v2 v2 I9 L
def F_X12_set_113 (N : Nat) (v1 : Int32) (v2 : Int32) (s0 : Int32) (I : PI) (L : PL) : RES := nmW (uI I 12 33 s0) (fun I8 => (if v1 = 2 then F_X12_set_130 N v1 v2 v2 I8 L else F_X12_set_130 N v1 v2 (I8 12 34) I8 L))
set_option maxRecDepth 100000 in
theorem E_X12_set_113 (N d : Nat) (v1 : Int32) (v2 : Int32) (s0 : Int32) (I : PI) (L : PL) : EvW M_X12_set (d + 1) 113 [(0, .ref 12), (1, .int v1), (2, .int v2)] [.int s0, .ref 12] I L (F_X12_set_113 N v1 v2 s0 I L) := by
  rw [F_X12_set_113]
  refine pf_X12_59 (pc := 113) rfl dX12_set_113 ?_
  refine ev_nmW (fun I8 => ?_)
  refine ev_aload_n (pc := 116) 0 dX12_set_116 rfl ?_
  refine ev_iload_n (pc := 117) 1 dX12_set_117 rfl ?_
  refine ev_iconst (pc := 118) 2 k_iconst_2 dX12_set_118 ?_
  refine ev_icmp_ne (pc := 119) 126 (by decide) dX12_set_119 ?_ ?_
  · refine ev_aload_n (pc := 126) 0 dX12_set_126 rfl ?_
    refine gf_X12_62 (pc := 127) rfl dX12_set_127 ?_
    exact E_X12_set_130 N d v1 v2 (I8 12 34) I8 L
  · refine ev_iload_n (pc := 122) 2 dX12_set_122 rfl ?_
    refine ev_goto (pc := 123) 130 (by decide) dX12_set_123 ?_
    exact E_X12_set_130 N d v1 v2 v2 I8 L
def F_X12_set_96 (N : Nat) (v1 : Int32) (v2 : Int32) (s0 : Int32) (I : PI) (L : PL) : RES := nmW (uI I 12 32 s0) (fun I7 => (if v1 = 1 then F_X12_set_113 N v1 v2 v2 I7 L else F_X12_set_113 N v1 v2 (I7 12 33) I7 L))
set_option maxRecDepth 100000 in
theorem E_X12_set_96 (N d : Nat) (v1 : Int32) (v2 : Int32) (s0 : Int32) (I : PI) (L : PL) : EvW M_X12_set (d + 1) 96 [(0, .ref 12), (1, .int v1), (2, .int v2)] [.int s0, .ref 12] I L (F_X12_set_96 N v1 v2 s0 I L) := by
  rw [F_X12_set_96]
  refine pf_X12_55 (pc := 96) rfl dX12_set_96 ?_
  refine ev_nmW (fun I7 => ?_)
  refine ev_aload_n (pc := 99) 0 dX12_set_99 rfl ?_
  refine ev_iload_n (pc := 100) 1 dX12_set_100 rfl ?_
  refine ev_iconst (pc := 101) 1 k_iconst_1 dX12_set_101 ?_
  refine ev_icmp_ne (pc := 102) 109 (by decide) dX12_set_102 ?_ ?_
  · refine ev_aload_n (pc := 109) 0 dX12_set_109 rfl ?_
    refine gf_X12_59 (pc := 110) rfl dX12_set_110 ?_
    exact E_X12_set_113 N d v1 v2 (I7 12 33) I7 L
  · refine ev_iload_n (pc := 105) 2 dX12_set_105 rfl ?_
    refine ev_goto (pc := 106) 113 (by decide) dX12_set_106 ?_
    exact E_X12_set_113 N d v1 v2 v2 I7 L
def F_X12_set_75 (N : Nat) (v1 : Int32) (v2 : Int32) (s0 : Int32) (s1 : Int32) (s2 : Int32) (I : PI) (L : PL) : RES := bI (f_X12_in N s2 s1 s0 I L) (fun x4 I5 L6 => (if x4 = 0 then gd (decide (0 &&& 1 = 0)) (some (some (.int 0), I5, L6)) else (if v1 = 0 then F_X12_set_96 N v1 v2 v2 I5 L6 else F_X12_set_96 N v1 v2 (I5 12 32) I5 L6)))
set_option maxRecDepth 100000 in
theorem E_X12_set_75 (N d : Nat) (v1 : Int32) (v2 : Int32) (s0 : Int32) (s1 : Int32) (s2 : Int32) (I : PI) (L : PL) : EvW M_X12_set (d + 1) 75 [(0, .ref 12), (1, .int v1), (2, .int v2)] [.int s0, .int s1, .int s2] I L (F_X12_set_75 N v1 v2 s0 s1 s2 I L) := by
  rw [F_X12_set_75]
  refine ev_callSI (pc := 75) (d := d) (As := [.int s2, .int s1, .int s0]) (st := []) cv_X12_in rfl w_790 rfl (Nat.le_of_ble_eq_true rfl) (ok_X12_in N (d) s2 s1 s0 I L) dX12_set_75 (fun x4 I5 L6 => ?_)
  refine ev_if_ne (pc := 78) 83 (by decide) dX12_set_78 ?_ ?_
  · refine ev_aload_n (pc := 83) 0 dX12_set_83 rfl ?_
    refine ev_iload_n (pc := 84) 1 dX12_set_84 rfl ?_
    refine ev_if_ne (pc := 85) 92 (by decide) dX12_set_85 ?_ ?_
    · refine ev_aload_n (pc := 92) 0 dX12_set_92 rfl ?_
      refine gf_X12_55 (pc := 93) rfl dX12_set_93 ?_
      exact E_X12_set_96 N d v1 v2 (I5 12 32) I5 L6
    · refine ev_iload_n (pc := 88) 2 dX12_set_88 rfl ?_
      refine ev_goto (pc := 89) 96 (by decide) dX12_set_89 ?_
      exact E_X12_set_96 N d v1 v2 v2 I5 L6
  · refine ev_iconst (pc := 81) 0 k_iconst_0 dX12_set_81 ?_
    exact ev_zret (pc := 82) rfl dX12_set_82
def F_X12_set_49 (N : Nat) (v1 : Int32) (v2 : Int32) (s0 : Int32) (s1 : Int32) (I : PI) (L : PL) : RES := F_X12_set_75 N v1 v2 8 s0 s1 I L
set_option maxRecDepth 100000 in
theorem E_X12_set_49 (N d : Nat) (v1 : Int32) (v2 : Int32) (s0 : Int32) (s1 : Int32) (I : PI) (L : PL) : EvW M_X12_set (d + 1) 49 [(0, .ref 12), (1, .int v1), (2, .int v2)] [.int s0, .int s1] I L (F_X12_set_49 N v1 v2 s0 s1 I L) := by
  rw [F_X12_set_49]
  refine ev_bipush (pc := 49) 8 k_bipush_8 dX12_set_49 ?_
  refine ev_goto (pc := 51) 75 (by decide) dX12_set_51 ?_
  exact E_X12_set_75 N d v1 v2 8 s0 s1 I L
def F_X12_set_30 (N : Nat) (v1 : Int32) (v2 : Int32) (s0 : Int32) (s1 : Int32) (I : PI) (L : PL) : RES := (if v1 = 0 then F_X12_set_75 N v1 v2 9 s0 s1 I L else (if v1 = 1 then F_X12_set_49 N v1 v2 s0 s1 I L else (if v1 = 3 then F_X12_set_49 N v1 v2 s0 s1 I L else (if v1 = 2 then F_X12_set_75 N v1 v2 3 s0 s1 I L else (if v1 = 4 then F_X12_set_75 N v1 v2 16 s0 s1 I L else F_X12_set_75 N v1 v2 99 s0 s1 I L)))))
set_option maxRecDepth 100000 in
theorem E_X12_set_30 (N d : Nat) (v1 : Int32) (v2 : Int32) (s0 : Int32) (s1 : Int32) (I : PI) (L : PL) : EvW M_X12_set (d + 1) 30 [(0, .ref 12), (1, .int v1), (2, .int v2)] [.int s0, .int s1] I L (F_X12_set_30 N v1 v2 s0 s1 I L) := by
  rw [F_X12_set_30]
  refine ev_iload_n (pc := 30) 1 dX12_set_30 rfl ?_
  refine ev_if_ne (pc := 31) 39 (by decide) dX12_set_31 ?_ ?_
  · refine ev_iload_n (pc := 39) 1 dX12_set_39 rfl ?_
    refine ev_iconst (pc := 40) 1 k_iconst_1 dX12_set_40 ?_
    refine ev_icmp_eq (pc := 41) 49 (by decide) dX12_set_41 ?_ ?_
    · exact E_X12_set_49 N d v1 v2 s0 s1 I L
    · refine ev_iload_n (pc := 44) 1 dX12_set_44 rfl ?_
      refine ev_iconst (pc := 45) 3 k_iconst_3 dX12_set_45 ?_
      refine ev_icmp_ne (pc := 46) 54 (by decide) dX12_set_46 ?_ ?_
      · refine ev_iload_n (pc := 54) 1 dX12_set_54 rfl ?_
        refine ev_iconst (pc := 55) 2 k_iconst_2 dX12_set_55 ?_
        refine ev_icmp_ne (pc := 56) 63 (by decide) dX12_set_56 ?_ ?_
        · refine ev_iload_n (pc := 63) 1 dX12_set_63 rfl ?_
          refine ev_iconst (pc := 64) 4 k_iconst_4 dX12_set_64 ?_
          refine ev_icmp_ne (pc := 65) 73 (by decide) dX12_set_65 ?_ ?_
          · refine ev_bipush (pc := 73) 99 k_bipush_99 dX12_set_73 ?_
            exact E_X12_set_75 N d v1 v2 99 s0 s1 I L
          · refine ev_bipush (pc := 68) 16 k_bipush_16 dX12_set_68 ?_
            refine ev_goto (pc := 70) 75 (by decide) dX12_set_70 ?_
            exact E_X12_set_75 N d v1 v2 16 s0 s1 I L
        · refine ev_iconst (pc := 59) 3 k_iconst_3 dX12_set_59 ?_
          refine ev_goto (pc := 60) 75 (by decide) dX12_set_60 ?_
          exact E_X12_set_75 N d v1 v2 3 s0 s1 I L
      · exact E_X12_set_49 N d v1 v2 s0 s1 I L
  · refine ev_bipush (pc := 34) 9 k_bipush_9 dX12_set_34 ?_
    refine ev_goto (pc := 36) 75 (by decide) dX12_set_36 ?_
    exact E_X12_set_75 N d v1 v2 9 s0 s1 I L
def F_X12_set_25 (N : Nat) (v1 : Int32) (v2 : Int32) (s0 : Int32) (I : PI) (L : PL) : RES := F_X12_set_30 N v1 v2 1 s0 I L
set_option maxRecDepth 100000 in
theorem E_X12_set_25 (N d : Nat) (v1 : Int32) (v2 : Int32) (s0 : Int32) (I : PI) (L : PL) : EvW M_X12_set (d + 1) 25 [(0, .ref 12), (1, .int v1), (2, .int v2)] [.int s0] I L (F_X12_set_25 N v1 v2 s0 I L) := by
  rw [F_X12_set_25]
  refine ev_iconst (pc := 25) 1 k_iconst_1 dX12_set_25 ?_
  refine ev_goto (pc := 26) 30 (by decide) dX12_set_26 ?_
  exact E_X12_set_30 N d v1 v2 1 s0 I L
def f_X12_set (N : Nat) (a1 : Int32) (a2 : Int32) (I : PI) (L : PL) : RES := bI (f_X12_in N a1 0 5 I L) (fun x1 I2 L3 => (if x1 = 0 then gd (decide (0 &&& 1 = 0)) (some (some (.int 0), I2, L3)) else (if a1 = 1 then F_X12_set_25 N a1 a2 a2 I2 L3 else (if a1 = 3 then F_X12_set_25 N a1 a2 a2 I2 L3 else (if a1 = 4 then F_X12_set_25 N a1 a2 a2 I2 L3 else F_X12_set_30 N a1 a2 0 a2 I2 L3)))))
set_option maxRecDepth 100000 in
theorem ok_X12_set (N d : Nat) (a1 : Int32) (a2 : Int32) (I : PI) (L : PL) : MOk M_X12_set (d + 1) [.ref 12, .int a1, .int a2] I L (f_X12_set N a1 a2 I L) := by
  refine MOk.of (by decide +kernel) (Nat.le_of_ble_eq_true rfl) ?_
  show EvW _ _ 0 [(0, .ref 12), (1, .int a1), (2, .int a2)] [] I L _
  rw [f_X12_set]
  refine ev_iload_n (pc := 0) 1 dX12_set_0 rfl ?_
  refine ev_iconst (pc := 1) 0 k_iconst_0 dX12_set_1 ?_
  refine ev_iconst (pc := 2) 5 k_iconst_5 dX12_set_2 ?_
  refine ev_callSI (pc := 3) (d := d) (As := [.int a1, .int 0, .int 5]) (st := []) cv_X12_in rfl w_790 rfl (Nat.le_of_ble_eq_true rfl) (ok_X12_in N (d) a1 0 5 I L) dX12_set_3 (fun x1 I2 L3 => ?_)
  refine ev_if_eq (pc := 6) 81 (by decide) dX12_set_6 ?_ ?_
  · refine ev_iconst (pc := 81) 0 k_iconst_0 dX12_set_81 ?_
    exact ev_zret (pc := 82) rfl dX12_set_82
  · refine ev_iload_n (pc := 9) 2 dX12_set_9 rfl ?_
    refine ev_iload_n (pc := 10) 1 dX12_set_10 rfl ?_
    refine ev_iconst (pc := 11) 1 k_iconst_1 dX12_set_11 ?_
    refine ev_icmp_eq (pc := 12) 25 (by decide) dX12_set_12 ?_ ?_
    · exact E_X12_set_25 N d a1 a2 a2 I2 L3
    · refine ev_iload_n (pc := 15) 1 dX12_set_15 rfl ?_
      refine ev_iconst (pc := 16) 3 k_iconst_3 dX12_set_16 ?_
      refine ev_icmp_eq (pc := 17) 25 (by decide) dX12_set_17 ?_ ?_
      · exact E_X12_set_25 N d a1 a2 a2 I2 L3
      · refine ev_iload_n (pc := 20) 1 dX12_set_20 rfl ?_
        refine ev_iconst (pc := 21) 4 k_iconst_4 dX12_set_21 ?_
        refine ev_icmp_ne (pc := 22) 29 (by decide) dX12_set_22 ?_ ?_
        · refine ev_iconst (pc := 29) 0 k_iconst_0 dX12_set_29 ?_
          exact E_X12_set_30 N d a1 a2 0 a2 I2 L3
        · exact E_X12_set_25 N d a1 a2 a2 I2 L3
