def F_X12_isSeen_53 (N : Nat) (r_6 : Int32 → Int32 → Int32 → Int32 → Int32 → PI → PL → RES) (v1 : Int32) (v2 : Int32) (v3 : Int32) (v5 : Int32) (s0 : Int32) (I : PI) (L : PL) : RES := nmI (s0 + 0) (fun x4 => r_6 v1 v2 v3 x4 (v5 + 1) I L)
set_option maxRecDepth 100000 in
theorem E_X12_isSeen_53 (N d : Nat) (r_6 : Int32 → Int32 → Int32 → Int32 → Int32 → PI → PL → RES) (hr_6 : ∀ (v1 : Int32) (v2 : Int32) (v3 : Int32) (v4 : Int32) (v5 : Int32) (I : PI) (L : PL), EvW M_X12_isSeen (d + 1) 6 [(0, .ref 12), (1, .int v1), (2, .int v2), (3, .int v3), (4, .int v4), (5, .int v5)] [] I L (r_6 v1 v2 v3 v4 v5 I L)) (v1 : Int32) (v2 : Int32) (v3 : Int32) (v5 : Int32) (s0 : Int32) (I : PI) (L : PL) : EvW M_X12_isSeen (d + 1) 53 [(0, .ref 12), (1, .int v1), (2, .int v2), (3, .int v3), (5, .int v5)] [.int s0] I L (F_X12_isSeen_53 N r_6 v1 v2 v3 v5 s0 I L) := by
  rw [F_X12_isSeen_53]
  refine ev_iconst (pc := 53) 0 k_iconst_0 dX12_isSeen_53 ?_
  refine ev_iadd (pc := 54) dX12_isSeen_54 ?_
  refine ev_nmI (fun x4 => ?_)
  refine ev_istore (pc := 55) (lv' := [(4, .int x4), (0, .ref 12), (1, .int v1), (2, .int v2), (3, .int v3), (5, .int v5)]) dX12_isSeen_55 rfl rfl ?_
  refine ev_iinc (pc := 57) (lv' := [(5, .int (v5 + 1)), (4, .int x4), (0, .ref 12), (1, .int v1), (2, .int v2), (3, .int v3)]) dX12_isSeen_57 5 rfl rfl 1 k_iconst_1 rfl ?_
  refine ev_goto (pc := 60) 6 (by decide) dX12_isSeen_60 ?_
  refine EvW.sub [2, 3, 4, 5, 1, 0] rfl ?_
  exact hr_6 v1 v2 v3 x4 (v5 + 1) I L
def F_X12_isSeen_6 (N : Nat) : Nat → Int32 → Int32 → Int32 → Int32 → Int32 → PI → PL → RES
  | 0, _, _, _, _, _, _, _ => none
  | n + 1, v1, v2, v3, v4, v5, I, L => gd (inb v1 7) ((if (I 52 (Int32.toNatClampNeg v1)) ≤ v5 then (if v4 < (I 12 33) then gd (decide (0 &&& 1 = 0)) (some (some (.int 0), I, L)) else gd (decide (1 &&& 1 = 1)) (some (some (.int 1), I, L))) else bI (f_X12_has N v2 v5 I L) (fun x1 I2 L3 => (if x1 = 0 then F_X12_isSeen_53 N (F_X12_isSeen_6 N n) v1 v2 v3 v5 v4 I2 L3 else gd (inb ((8 * v1) + v5) 56) (gd (decide (¬ (I2 51 (Int32.toNatClampNeg ((8 * v1) + v5))) = 0)) ((if (jirem v3 (I2 51 (Int32.toNatClampNeg ((8 * v1) + v5)))) < (I2 12 32) then F_X12_isSeen_53 N (F_X12_isSeen_6 N n) v1 v2 v3 v5 v4 I2 L3 else nmI (v4 + 1) (fun x5 => (F_X12_isSeen_6 N n) v1 v2 v3 x5 (v5 + 1) I2 L3))))))))
set_option maxRecDepth 100000 in
theorem E_X12_isSeen_6 (N d : Nat) : ∀ (n : Nat) (v1 : Int32) (v2 : Int32) (v3 : Int32) (v4 : Int32) (v5 : Int32) (I : PI) (L : PL), EvW M_X12_isSeen (d + 1) 6 [(0, .ref 12), (1, .int v1), (2, .int v2), (3, .int v3), (4, .int v4), (5, .int v5)] [] I L (F_X12_isSeen_6 N n v1 v2 v3 v4 v5 I L) := by
  intro n
  induction n with
  | zero =>
    intro v1 v2 v3 v4 v5 I L
    exact EvW.none
  | succ n hr_6 =>
    intro v1 v2 v3 v4 v5 I L
    rw [F_X12_isSeen_6]
    refine ev_iload (pc := 6) 5 dX12_isSeen_6 rfl ?_
    refine ev_aload_n (pc := 8) 0 dX12_isSeen_8 rfl ?_
    refine gf_X12_49 (pc := 9) rfl dX12_isSeen_9 ?_
    refine ev_iload_n (pc := 12) 1 dX12_isSeen_12 rfl ?_
    refine ev_iald (pc := 13) kK_52 dX12_isSeen_13 ?_
    refine ev_icmp_ge (pc := 14) 63 (by decide) dX12_isSeen_14 ?_ ?_
    · refine ev_iload (pc := 63) 4 dX12_isSeen_63 rfl ?_
      refine ev_aload_n (pc := 65) 0 dX12_isSeen_65 rfl ?_
      refine gf_X12_59 (pc := 66) rfl dX12_isSeen_66 ?_
      refine ev_icmp_lt (pc := 69) 76 (by decide) dX12_isSeen_69 ?_ ?_
      · refine ev_iconst (pc := 76) 0 k_iconst_0 dX12_isSeen_76 ?_
        exact ev_zret (pc := 77) rfl dX12_isSeen_77
      · refine ev_iconst (pc := 72) 1 k_iconst_1 dX12_isSeen_72 ?_
        refine ev_goto (pc := 73) 77 (by decide) dX12_isSeen_73 ?_
        exact ev_zret (pc := 77) rfl dX12_isSeen_77
    · refine ev_iload (pc := 17) 4 dX12_isSeen_17 rfl ?_
      refine ev_iload_n (pc := 19) 2 dX12_isSeen_19 rfl ?_
      refine ev_iload (pc := 20) 5 dX12_isSeen_20 rfl ?_
      refine ev_callSI (pc := 22) (d := d) (As := [.int v2, .int v5]) (st := [.int v4]) cv_X12_has rfl w_869 rfl (Nat.le_of_ble_eq_true rfl) (ok_X12_has N (d) v2 v5 I L) dX12_isSeen_22 (fun x1 I2 L3 => ?_)
      refine ev_if_eq (pc := 25) 53 (by decide) dX12_isSeen_25 ?_ ?_
      · refine EvW.sub [0, 1, 2, 3, 5] rfl ?_
        exact E_X12_isSeen_53 N d (F_X12_isSeen_6 N n) hr_6 v1 v2 v3 v5 v4 I2 L3
      · refine ev_iload_n (pc := 28) 3 dX12_isSeen_28 rfl ?_
        refine ev_aload_n (pc := 29) 0 dX12_isSeen_29 rfl ?_
        refine gf_X12_46 (pc := 30) rfl dX12_isSeen_30 ?_
        refine ev_bipush (pc := 33) 8 k_bipush_8 dX12_isSeen_33 ?_
        refine ev_iload_n (pc := 35) 1 dX12_isSeen_35 rfl ?_
        refine ev_imul (pc := 36) dX12_isSeen_36 ?_
        refine ev_iload (pc := 37) 5 dX12_isSeen_37 rfl ?_
        refine ev_iadd (pc := 39) dX12_isSeen_39 ?_
        refine ev_iald (pc := 40) kK_51 dX12_isSeen_40 ?_
        refine ev_irem (pc := 41) dX12_isSeen_41 ?_
        refine ev_aload_n (pc := 42) 0 dX12_isSeen_42 rfl ?_
        refine gf_X12_55 (pc := 43) rfl dX12_isSeen_43 ?_
        refine ev_icmp_lt (pc := 46) 53 (by decide) dX12_isSeen_46 ?_ ?_
        · refine EvW.sub [0, 1, 2, 3, 5] rfl ?_
          exact E_X12_isSeen_53 N d (F_X12_isSeen_6 N n) hr_6 v1 v2 v3 v5 v4 I2 L3
        · refine ev_iconst (pc := 49) 1 k_iconst_1 dX12_isSeen_49 ?_
          refine ev_goto (pc := 50) 54 (by decide) dX12_isSeen_50 ?_
          refine ev_iadd (pc := 54) dX12_isSeen_54 ?_
          refine ev_nmI (fun x5 => ?_)
          refine ev_istore (pc := 55) (lv' := [(4, .int x5), (0, .ref 12), (1, .int v1), (2, .int v2), (3, .int v3), (5, .int v5)]) dX12_isSeen_55 rfl rfl ?_
          refine ev_iinc (pc := 57) (lv' := [(5, .int (v5 + 1)), (4, .int x5), (0, .ref 12), (1, .int v1), (2, .int v2), (3, .int v3)]) dX12_isSeen_57 5 rfl rfl 1 k_iconst_1 rfl ?_
          refine ev_goto (pc := 60) 6 (by decide) dX12_isSeen_60 ?_
          refine EvW.sub [2, 3, 4, 5, 1, 0] rfl ?_
          exact hr_6 v1 v2 v3 x5 (v5 + 1) I2 L3
def f_X12_isSeen (N : Nat) (a1 : Int32) (a2 : Int32) (a3 : Int32) (I : PI) (L : PL) : RES := F_X12_isSeen_6 N N a1 a2 a3 0 0 I L
set_option maxRecDepth 100000 in
theorem ok_X12_isSeen (N d : Nat) (a1 : Int32) (a2 : Int32) (a3 : Int32) (I : PI) (L : PL) : MOk M_X12_isSeen (d + 1) [.ref 12, .int a1, .int a2, .int a3] I L (f_X12_isSeen N a1 a2 a3 I L) := by
  refine MOk.of (by decide +kernel) (Nat.le_of_ble_eq_true rfl) ?_
  show EvW _ _ 0 [(0, .ref 12), (1, .int a1), (2, .int a2), (3, .int a3)] [] I L _
  rw [f_X12_isSeen]
  refine ev_iconst (pc := 0) 0 k_iconst_0 dX12_isSeen_0 ?_
  refine ev_istore (pc := 1) (lv' := [(4, .int 0), (0, .ref 12), (1, .int a1), (2, .int a2), (3, .int a3)]) dX12_isSeen_1 rfl rfl ?_
  refine ev_iconst (pc := 3) 0 k_iconst_0 dX12_isSeen_3 ?_
  refine ev_istore (pc := 4) (lv' := [(5, .int 0), (4, .int 0), (0, .ref 12), (1, .int a1), (2, .int a2), (3, .int a3)]) dX12_isSeen_4 rfl rfl ?_
  refine EvW.sub [2, 3, 4, 5, 1, 0] rfl ?_
  exact E_X12_isSeen_6 N d N a1 a2 a3 0 0 I L
def f_X12_seen (N : Nat) (a1 : Int32) (a2 : Int32) (I : PI) (L : PL) : RES := bI (f_X12_isSet N a1 I L) (fun x1 I2 L3 => (if x1 = 0 then some (some (.int (-1 : Int32)), I2, L3) else bI (f_X12_in N a2 0 999 I2 L3) (fun x4 I5 L6 => (if x4 = 0 then some (some (.int (-1 : Int32)), I5, L6) else bI (f_X12_isSeen N a1 255 a2 I5 L6) (fun x7 I8 L9 => (if x7 = 0 then some (some (.int 0), I8, L9) else some (some (.int 1), I8, L9)))))))
set_option maxRecDepth 100000 in
theorem ok_X12_seen (N d : Nat) (a1 : Int32) (a2 : Int32) (I : PI) (L : PL) : MOk M_X12_seen (d + 2) [.ref 12, .int a1, .int a2] I L (f_X12_seen N a1 a2 I L) := by
  refine MOk.of (by decide +kernel) (Nat.le_of_ble_eq_true rfl) ?_
  show EvW _ _ 0 [(0, .ref 12), (1, .int a1), (2, .int a2)] [] I L _
  rw [f_X12_seen]
  refine ev_aload_n (pc := 0) 0 dX12_seen_0 rfl ?_
  refine ev_iload_n (pc := 1) 1 dX12_seen_1 rfl ?_
  refine ev_callVI (pc := 2) (d := d + 1) (As := [.int a1]) (st := []) cv_X12_isSet rfl w_806 rfl (Nat.le_of_ble_eq_true rfl) (ok_X12_isSet N (d) a1 I L) dX12_seen_2 (fun x1 I2 L3 => ?_)
  refine ev_if_eq (pc := 5) 39 (by decide) dX12_seen_5 ?_ ?_
  · refine ev_iconst (pc := 39) (-1 : Int32) k_iconst_m1 dX12_seen_39 ?_
    exact ev_iret (pc := 40) rfl dX12_seen_40
  · refine ev_iload_n (pc := 8) 2 dX12_seen_8 rfl ?_
    refine ev_iconst (pc := 9) 0 k_iconst_0 dX12_seen_9 ?_
    refine ev_sipush (pc := 10) 999 k_sipush_999 dX12_seen_10 ?_
    refine ev_callSI (pc := 13) (d := d + 1) (As := [.int a2, .int 0, .int 999]) (st := []) cv_X12_in rfl w_790 rfl (Nat.le_of_ble_eq_true rfl) (ok_X12_in N (d + 1) a2 0 999 I2 L3) dX12_seen_13 (fun x4 I5 L6 => ?_)
    refine ev_if_eq (pc := 16) 39 (by decide) dX12_seen_16 ?_ ?_
    · refine ev_iconst (pc := 39) (-1 : Int32) k_iconst_m1 dX12_seen_39 ?_
      exact ev_iret (pc := 40) rfl dX12_seen_40
    · refine ev_aload_n (pc := 19) 0 dX12_seen_19 rfl ?_
      refine ev_iload_n (pc := 20) 1 dX12_seen_20 rfl ?_
      refine ev_sipush (pc := 21) 255 k_sipush_255 dX12_seen_21 ?_
      refine ev_iload_n (pc := 24) 2 dX12_seen_24 rfl ?_
      refine ev_callVI (pc := 25) (d := d + 1) (As := [.int a1, .int 255, .int a2]) (st := []) cv_X12_isSeen rfl w_886 rfl (Nat.le_of_ble_eq_true rfl) (ok_X12_isSeen N (d) a1 255 a2 I5 L6) dX12_seen_25 (fun x7 I8 L9 => ?_)
      refine ev_if_eq (pc := 28) 35 (by decide) dX12_seen_28 ?_ ?_
      · refine ev_iconst (pc := 35) 0 k_iconst_0 dX12_seen_35 ?_
        refine ev_goto (pc := 36) 40 (by decide) dX12_seen_36 ?_
        exact ev_iret (pc := 40) rfl dX12_seen_40
      · refine ev_iconst (pc := 31) 1 k_iconst_1 dX12_seen_31 ?_
        refine ev_goto (pc := 32) 40 (by decide) dX12_seen_32 ?_
        exact ev_iret (pc := 40) rfl dX12_seen_40
def F_X12_seenTo_6 (N : Nat) : Nat → Int32 → Int32 → Int32 → Int32 → Int32 → PI → PL → RES
  | 0, _, _, _, _, _, _, _ => none
  | n + 1, v1, v2, v3, v4, v5, I, L => (if v3 < v5 then some (some (.int v4), I, L) else bI (f_X12_isSeen N v1 v2 v5 I L) (fun x1 I2 L3 => (if x1 = 0 then nmI (v4 + 0) (fun x4 => (F_X12_seenTo_6 N n) v1 v2 v3 x4 (v5 + 1) I2 L3) else nmI (v4 + 1) (fun x5 => (F_X12_seenTo_6 N n) v1 v2 v3 x5 (v5 + 1) I2 L3))))
set_option maxRecDepth 100000 in
theorem E_X12_seenTo_6 (N d : Nat) : ∀ (n : Nat) (v1 : Int32) (v2 : Int32) (v3 : Int32) (v4 : Int32) (v5 : Int32) (I : PI) (L : PL), EvW M_X12_seenTo (d + 2) 6 [(0, .ref 12), (1, .int v1), (2, .int v2), (3, .int v3), (4, .int v4), (5, .int v5)] [] I L (F_X12_seenTo_6 N n v1 v2 v3 v4 v5 I L) := by
  intro n
  induction n with
  | zero =>
    intro v1 v2 v3 v4 v5 I L
    exact EvW.none
  | succ n hr_6 =>
    intro v1 v2 v3 v4 v5 I L
    rw [F_X12_seenTo_6]
    refine ev_iload (pc := 6) 5 dX12_seenTo_6 rfl ?_
    refine ev_iload_n (pc := 8) 3 dX12_seenTo_8 rfl ?_
    refine ev_icmp_gt (pc := 9) 39 (by decide) dX12_seenTo_9 ?_ ?_
    · refine ev_iload (pc := 39) 4 dX12_seenTo_39 rfl ?_
      exact ev_iret (pc := 41) rfl dX12_seenTo_41
    · refine ev_iload (pc := 12) 4 dX12_seenTo_12 rfl ?_
      refine ev_aload_n (pc := 14) 0 dX12_seenTo_14 rfl ?_
      refine ev_iload_n (pc := 15) 1 dX12_seenTo_15 rfl ?_
      refine ev_iload_n (pc := 16) 2 dX12_seenTo_16 rfl ?_
      refine ev_iload (pc := 17) 5 dX12_seenTo_17 rfl ?_
      refine ev_callVI (pc := 19) (d := d + 1) (As := [.int v1, .int v2, .int v5]) (st := [.int v4]) cv_X12_isSeen rfl w_886 rfl (Nat.le_of_ble_eq_true rfl) (ok_X12_isSeen N (d) v1 v2 v5 I L) dX12_seenTo_19 (fun x1 I2 L3 => ?_)
      refine ev_if_eq (pc := 22) 29 (by decide) dX12_seenTo_22 ?_ ?_
      · refine ev_iconst (pc := 29) 0 k_iconst_0 dX12_seenTo_29 ?_
        refine ev_iadd (pc := 30) dX12_seenTo_30 ?_
        refine ev_nmI (fun x4 => ?_)
        refine ev_istore (pc := 31) (lv' := [(4, .int x4), (0, .ref 12), (1, .int v1), (2, .int v2), (3, .int v3), (5, .int v5)]) dX12_seenTo_31 rfl rfl ?_
        refine ev_iinc (pc := 33) (lv' := [(5, .int (v5 + 1)), (4, .int x4), (0, .ref 12), (1, .int v1), (2, .int v2), (3, .int v3)]) dX12_seenTo_33 5 rfl rfl 1 k_iconst_1 rfl ?_
        refine ev_goto (pc := 36) 6 (by decide) dX12_seenTo_36 ?_
        refine EvW.sub [2, 3, 4, 5, 1, 0] rfl ?_
        exact hr_6 v1 v2 v3 x4 (v5 + 1) I2 L3
      · refine ev_iconst (pc := 25) 1 k_iconst_1 dX12_seenTo_25 ?_
        refine ev_goto (pc := 26) 30 (by decide) dX12_seenTo_26 ?_
        refine ev_iadd (pc := 30) dX12_seenTo_30 ?_
        refine ev_nmI (fun x5 => ?_)
        refine ev_istore (pc := 31) (lv' := [(4, .int x5), (0, .ref 12), (1, .int v1), (2, .int v2), (3, .int v3), (5, .int v5)]) dX12_seenTo_31 rfl rfl ?_
        refine ev_iinc (pc := 33) (lv' := [(5, .int (v5 + 1)), (4, .int x5), (0, .ref 12), (1, .int v1), (2, .int v2), (3, .int v3)]) dX12_seenTo_33 5 rfl rfl 1 k_iconst_1 rfl ?_
        refine ev_goto (pc := 36) 6 (by decide) dX12_seenTo_36 ?_
        refine EvW.sub [2, 3, 4, 5, 1, 0] rfl ?_
        exact hr_6 v1 v2 v3 x5 (v5 + 1) I2 L3
def f_X12_seenTo (N : Nat) (a1 : Int32) (a2 : Int32) (a3 : Int32) (I : PI) (L : PL) : RES := F_X12_seenTo_6 N N a1 a2 a3 0 1 I L
set_option maxRecDepth 100000 in
theorem ok_X12_seenTo (N d : Nat) (a1 : Int32) (a2 : Int32) (a3 : Int32) (I : PI) (L : PL) : MOk M_X12_seenTo (d + 2) [.ref 12, .int a1, .int a2, .int a3] I L (f_X12_seenTo N a1 a2 a3 I L) := by
  refine MOk.of (by decide +kernel) (Nat.le_of_ble_eq_true rfl) ?_
  show EvW _ _ 0 [(0, .ref 12), (1, .int a1), (2, .int a2), (3, .int a3)] [] I L _
  rw [f_X12_seenTo]
  refine ev_iconst (pc := 0) 0 k_iconst_0 dX12_seenTo_0 ?_
  refine ev_istore (pc := 1) (lv' := [(4, .int 0), (0, .ref 12), (1, .int a1), (2, .int a2), (3, .int a3)]) dX12_seenTo_1 rfl rfl ?_
  refine ev_iconst (pc := 3) 1 k_iconst_1 dX12_seenTo_3 ?_
  refine ev_istore (pc := 4) (lv' := [(5, .int 1), (4, .int 0), (0, .ref 12), (1, .int a1), (2, .int a2), (3, .int a3)]) dX12_seenTo_4 rfl rfl ?_
  refine EvW.sub [2, 3, 4, 5, 1, 0] rfl ?_
  exact E_X12_seenTo_6 N d N a1 a2 a3 0 1 I L
def F_X12_map_49 (N : Nat) : Nat → Int32 → Int32 → Int32 → PI → PL → RES
  | 0, _, _, _, _, _ => none
  | n + 1, v1, v2, v4, I, L => (if v2 < v4 then some (some (.int (-1 : Int32)), I, L) else bI (f_X12_isSeen N v1 255 v4 I L) (fun x10 I11 L12 => (if x10 = 0 then some (some (.int v4), I11, L12) else (F_X12_map_49 N n) v1 v2 (v4 + 1) I11 L12)))
set_option maxRecDepth 100000 in
theorem E_X12_map_49 (N d : Nat) : ∀ (n : Nat) (v1 : Int32) (v2 : Int32) (v4 : Int32) (I : PI) (L : PL), EvW M_X12_map (d + 3) 49 [(0, .ref 12), (1, .int v1), (2, .int v2), (4, .int v4)] [] I L (F_X12_map_49 N n v1 v2 v4 I L) := by
  intro n
  induction n with
  | zero =>
    intro v1 v2 v4 I L
    exact EvW.none
  | succ n hr_49 =>
    intro v1 v2 v4 I L
    rw [F_X12_map_49]
    refine ev_iload (pc := 49) 3 dX12_map_49 rfl ?_
    refine ev_iload_n (pc := 51) 2 dX12_map_51 rfl ?_
    refine ev_icmp_gt (pc := 52) 77 (by decide) dX12_map_52 ?_ ?_
    · refine ev_iconst (pc := 77) (-1 : Int32) k_iconst_m1 dX12_map_77 ?_
      exact ev_iret (pc := 78) rfl dX12_map_78
    · refine ev_aload_n (pc := 55) 0 dX12_map_55 rfl ?_
      refine ev_iload_n (pc := 56) 1 dX12_map_56 rfl ?_
      refine ev_sipush (pc := 57) 255 k_sipush_255 dX12_map_57 ?_
      refine ev_iload (pc := 60) 3 dX12_map_60 rfl ?_
      refine ev_callVI (pc := 62) (d := d + 2) (As := [.int v1, .int 255, .int v4]) (st := []) cv_X12_isSeen rfl w_886 rfl (Nat.le_of_ble_eq_true rfl) (ok_X12_isSeen N (d + 1) v1 255 v4 I L) dX12_map_62 (fun x10 I11 L12 => ?_)
      refine ev_if_ne (pc := 65) 71 (by decide) dX12_map_65 ?_ ?_
      · refine ev_iinc (pc := 71) (lv' := [(4, .int (v4 + 1)), (0, .ref 12), (1, .int v1), (2, .int v2)]) dX12_map_71 3 rfl rfl 1 k_iconst_1 rfl ?_
        refine ev_goto (pc := 74) 49 (by decide) dX12_map_74 ?_
        refine EvW.sub [1, 2, 3, 0] rfl ?_
        exact hr_49 v1 v2 (v4 + 1) I11 L12
      · refine ev_iload (pc := 68) 3 dX12_map_68 rfl ?_
        exact ev_iret (pc := 70) rfl dX12_map_70
def f_X12_map (N : Nat) (a1 : Int32) (a2 : Int32) (a3 : Int32) (I : PI) (L : PL) : RES := bI (f_X12_isSet N a1 I L) (fun x1 I2 L3 => (if x1 = 0 then some (some (.int (-1000000 : Int32)), I2, L3) else bI (f_X12_in N a2 1 999 I2 L3) (fun x4 I5 L6 => (if x4 = 0 then some (some (.int (-1000000 : Int32)), I5, L6) else bI (f_X12_in N a3 0 1 I5 L6) (fun x7 I8 L9 => (if x7 = 0 then some (some (.int (-1000000 : Int32)), I8, L9) else (if a3 = 0 then bI (f_X12_seenTo N a1 255 a2 I8 L9) (fun x13 I14 L15 => some (some (.int x13), I14, L15)) else F_X12_map_49 N N a1 a2 1 I8 L9)))))))
set_option maxRecDepth 100000 in
theorem ok_X12_map (N d : Nat) (a1 : Int32) (a2 : Int32) (a3 : Int32) (I : PI) (L : PL) : MOk M_X12_map (d + 3) [.ref 12, .int a1, .int a2, .int a3] I L (f_X12_map N a1 a2 a3 I L) := by
  refine MOk.of (by decide +kernel) (Nat.le_of_ble_eq_true rfl) ?_
  show EvW _ _ 0 [(0, .ref 12), (1, .int a1), (2, .int a2), (3, .int a3)] [] I L _
  rw [f_X12_map]
  refine ev_aload_n (pc := 0) 0 dX12_map_0 rfl ?_
  refine ev_iload_n (pc := 1) 1 dX12_map_1 rfl ?_
  refine ev_callVI (pc := 2) (d := d + 2) (As := [.int a1]) (st := []) cv_X12_isSet rfl w_806 rfl (Nat.le_of_ble_eq_true rfl) (ok_X12_isSet N (d + 1) a1 I L) dX12_map_2 (fun x1 I2 L3 => ?_)
  refine ev_if_eq (pc := 5) 28 (by decide) dX12_map_5 ?_ ?_
  · refine ev_ldcw (pc := 28) w_807 dX12_map_28 ?_
    exact ev_iret (pc := 31) rfl dX12_map_31
  · refine ev_iload_n (pc := 8) 2 dX12_map_8 rfl ?_
    refine ev_iconst (pc := 9) 1 k_iconst_1 dX12_map_9 ?_
    refine ev_sipush (pc := 10) 999 k_sipush_999 dX12_map_10 ?_
    refine ev_callSI (pc := 13) (d := d + 2) (As := [.int a2, .int 1, .int 999]) (st := []) cv_X12_in rfl w_790 rfl (Nat.le_of_ble_eq_true rfl) (ok_X12_in N (d + 2) a2 1 999 I2 L3) dX12_map_13 (fun x4 I5 L6 => ?_)
    refine ev_if_eq (pc := 16) 28 (by decide) dX12_map_16 ?_ ?_
    · refine ev_ldcw (pc := 28) w_807 dX12_map_28 ?_
      exact ev_iret (pc := 31) rfl dX12_map_31
    · refine ev_iload_n (pc := 19) 3 dX12_map_19 rfl ?_
      refine ev_iconst (pc := 20) 0 k_iconst_0 dX12_map_20 ?_
      refine ev_iconst (pc := 21) 1 k_iconst_1 dX12_map_21 ?_
      refine ev_callSI (pc := 22) (d := d + 2) (As := [.int a3, .int 0, .int 1]) (st := []) cv_X12_in rfl w_790 rfl (Nat.le_of_ble_eq_true rfl) (ok_X12_in N (d + 2) a3 0 1 I5 L6) dX12_map_22 (fun x7 I8 L9 => ?_)
      refine ev_if_ne (pc := 25) 32 (by decide) dX12_map_25 ?_ ?_
      · refine ev_iload_n (pc := 32) 3 dX12_map_32 rfl ?_
        refine ev_if_ne (pc := 33) 46 (by decide) dX12_map_33 ?_ ?_
        · refine ev_iconst (pc := 46) 1 k_iconst_1 dX12_map_46 ?_
          refine ev_istore (pc := 47) (lv' := [(4, .int 1), (0, .ref 12), (1, .int a1), (2, .int a2), (3, .int a3)]) dX12_map_47 rfl rfl ?_
          refine EvW.sub [1, 2, 3, 0] rfl ?_
          exact E_X12_map_49 N d N a1 a2 1 I8 L9
        · refine ev_aload_n (pc := 36) 0 dX12_map_36 rfl ?_
          refine ev_iload_n (pc := 37) 1 dX12_map_37 rfl ?_
          refine ev_sipush (pc := 38) 255 k_sipush_255 dX12_map_38 ?_
          refine ev_iload_n (pc := 41) 2 dX12_map_41 rfl ?_
          refine ev_callVI (pc := 42) (d := d + 2) (As := [.int a1, .int 255, .int a2]) (st := []) cv_X12_seenTo rfl w_890 rfl (Nat.le_of_ble_eq_true rfl) (ok_X12_seenTo N (d) a1 255 a2 I8 L9) dX12_map_42 (fun x13 I14 L15 => ?_)
          exact ev_iret (pc := 45) rfl dX12_map_45
      · refine ev_ldcw (pc := 28) w_807 dX12_map_28 ?_
        exact ev_iret (pc := 31) rfl dX12_map_31
def F_X12_choice_99 (N : Nat) (r_54 : Int32 → Int32 → Int32 → Int32 → Int32 → Int32 → Int32 → PI → PL → RES) (v1 : Int32) (v2 : Int32) (v3 : Int32) (v4 : Int32) (v7 : Int32) (v8 : Int32) (I : PI) (L : PL) : RES := r_54 v1 v2 v3 v4 v7 v8 (v7 + 1) I L
set_option maxRecDepth 100000 in
theorem E_X12_choice_99 (N d : Nat) (r_54 : Int32 → Int32 → Int32 → Int32 → Int32 → Int32 → Int32 → PI → PL → RES) (hr_54 : ∀ (v1 : Int32) (v2 : Int32) (v3 : Int32) (v4 : Int32) (v5 : Int32) (v6 : Int32) (v7 : Int32) (I : PI) (L : PL), EvW M_X12_choice (d + 3) 54 [(0, .ref 12), (1, .int v1), (2, .int v2), (3, .int v3), (4, .int v4), (5, .int v5), (6, .int v6), (7, .int v7)] [] I L (r_54 v1 v2 v3 v4 v5 v6 v7 I L)) (v1 : Int32) (v2 : Int32) (v3 : Int32) (v4 : Int32) (v7 : Int32) (v8 : Int32) (I : PI) (L : PL) : EvW M_X12_choice (d + 3) 99 [(0, .ref 12), (1, .int v1), (2, .int v2), (3, .int v3), (4, .int v4), (7, .int v7), (8, .int v8)] [] I L (F_X12_choice_99 N r_54 v1 v2 v3 v4 v7 v8 I L) := by
  rw [F_X12_choice_99]
  refine ev_iload (pc := 99) 5 dX12_choice_99 rfl ?_
  refine ev_istore (pc := 101) (lv' := [(5, .int v7), (0, .ref 12), (1, .int v1), (2, .int v2), (3, .int v3), (4, .int v4), (7, .int v7), (8, .int v8)]) dX12_choice_101 rfl rfl ?_
  refine ev_iload (pc := 103) 7 dX12_choice_103 rfl ?_
  refine ev_istore (pc := 105) (lv' := [(6, .int v8), (5, .int v7), (0, .ref 12), (1, .int v1), (2, .int v2), (3, .int v3), (4, .int v4), (7, .int v7), (8, .int v8)]) dX12_choice_105 rfl rfl ?_
  refine ev_iinc (pc := 107) (lv' := [(7, .int (v7 + 1)), (6, .int v8), (5, .int v7), (0, .ref 12), (1, .int v1), (2, .int v2), (3, .int v3), (4, .int v4), (8, .int v8)]) dX12_choice_107 7 rfl rfl 1 k_iconst_1 rfl ?_
  refine ev_goto (pc := 110) 54 (by decide) dX12_choice_110 ?_
  refine EvW.sub [3, 4, 5, 6, 7, 2, 1, 0] rfl ?_
  exact hr_54 v1 v2 v3 v4 v7 v8 (v7 + 1) I L
def F_X12_choice_54 (N : Nat) : Nat → Int32 → Int32 → Int32 → Int32 → Int32 → Int32 → Int32 → PI → PL → RES
  | 0, _, _, _, _, _, _, _, _, _ => none
  | n + 1, v1, v2, v3, v4, v5, v6, v7, I, L => gd (inb v1 7) ((if ((1 : Int32) <<< ((I 52 (Int32.toNatClampNeg v1)) &&& 31)) ≤ v7 then (if v4 = 0 then some (some (.int v5), I, L) else some (some (.int v6), I, L)) else bI (f_J6_bitCount_0f7a4 N v7 I L) (fun x13 I14 L15 => (if x13 = v2 then bI (f_X12_seenTo N v1 v7 v3 I14 L15) (fun x16 I17 L18 => (if v5 = (-1 : Int32) then F_X12_choice_99 N (F_X12_choice_54 N n) v1 v2 v3 v4 v7 x16 I17 L18 else (if x16 ≤ v6 then (F_X12_choice_54 N n) v1 v2 v3 v4 v5 v6 (v7 + 1) I17 L18 else F_X12_choice_99 N (F_X12_choice_54 N n) v1 v2 v3 v4 v7 x16 I17 L18))) else (F_X12_choice_54 N n) v1 v2 v3 v4 v5 v6 (v7 + 1) I14 L15))))
set_option maxRecDepth 100000 in
theorem E_X12_choice_54 (N d : Nat) : ∀ (n : Nat) (v1 : Int32) (v2 : Int32) (v3 : Int32) (v4 : Int32) (v5 : Int32) (v6 : Int32) (v7 : Int32) (I : PI) (L : PL), EvW M_X12_choice (d + 3) 54 [(0, .ref 12), (1, .int v1), (2, .int v2), (3, .int v3), (4, .int v4), (5, .int v5), (6, .int v6), (7, .int v7)] [] I L (F_X12_choice_54 N n v1 v2 v3 v4 v5 v6 v7 I L) := by
  intro n
  induction n with
  | zero =>
    intro v1 v2 v3 v4 v5 v6 v7 I L
    exact EvW.none
  | succ n hr_54 =>
    intro v1 v2 v3 v4 v5 v6 v7 I L
    rw [F_X12_choice_54]
    refine ev_iload (pc := 54) 7 dX12_choice_54 rfl ?_
    refine ev_iconst (pc := 56) 1 k_iconst_1 dX12_choice_56 ?_
    refine ev_aload_n (pc := 57) 0 dX12_choice_57 rfl ?_
    refine gf_X12_49 (pc := 58) rfl dX12_choice_58 ?_
    refine ev_iload_n (pc := 61) 1 dX12_choice_61 rfl ?_
    refine ev_iald (pc := 62) kK_52 dX12_choice_62 ?_
    refine ev_ishl (pc := 63) dX12_choice_63 ?_
    refine ev_icmp_ge (pc := 64) 113 (by decide) dX12_choice_64 ?_ ?_
    · refine ev_iload (pc := 113) 4 dX12_choice_113 rfl ?_
      refine ev_if_ne (pc := 115) 123 (by decide) dX12_choice_115 ?_ ?_
      · refine ev_iload (pc := 123) 6 dX12_choice_123 rfl ?_
        exact ev_iret (pc := 125) rfl dX12_choice_125
      · refine ev_iload (pc := 118) 5 dX12_choice_118 rfl ?_
        refine ev_goto (pc := 120) 125 (by decide) dX12_choice_120 ?_
        exact ev_iret (pc := 125) rfl dX12_choice_125
    · refine ev_iload (pc := 67) 7 dX12_choice_67 rfl ?_
      refine ev_callSI (pc := 69) (d := d + 2) (As := [.int v7]) (st := []) cv_J6_bitCount_0f7a4 rfl w_866 rfl (Nat.le_of_ble_eq_true rfl) (ok_J6_bitCount_0f7a4 N (d + 2) v7 I L) dX12_choice_69 (fun x13 I14 L15 => ?_)
      refine ev_iload_n (pc := 72) 2 dX12_choice_72 rfl ?_
      refine ev_icmp_ne (pc := 73) 107 (by decide) dX12_choice_73 ?_ ?_
      · refine ev_iinc (pc := 107) (lv' := [(7, .int (v7 + 1)), (0, .ref 12), (1, .int v1), (2, .int v2), (3, .int v3), (4, .int v4), (5, .int v5), (6, .int v6)]) dX12_choice_107 7 rfl rfl 1 k_iconst_1 rfl ?_
        refine ev_goto (pc := 110) 54 (by decide) dX12_choice_110 ?_
        refine EvW.sub [1, 2, 3, 4, 5, 6, 7, 0] rfl ?_
        exact hr_54 v1 v2 v3 v4 v5 v6 (v7 + 1) I14 L15
      · refine ev_aload_n (pc := 76) 0 dX12_choice_76 rfl ?_
        refine ev_iload_n (pc := 77) 1 dX12_choice_77 rfl ?_
        refine ev_iload (pc := 78) 7 dX12_choice_78 rfl ?_
        refine ev_iload_n (pc := 80) 3 dX12_choice_80 rfl ?_
        refine ev_callVI (pc := 81) (d := d + 2) (As := [.int v1, .int v7, .int v3]) (st := []) cv_X12_seenTo rfl w_890 rfl (Nat.le_of_ble_eq_true rfl) (ok_X12_seenTo N (d) v1 v7 v3 I14 L15) dX12_choice_81 (fun x16 I17 L18 => ?_)
        refine ev_istore (pc := 84) (lv' := [(8, .int x16), (0, .ref 12), (1, .int v1), (2, .int v2), (3, .int v3), (4, .int v4), (5, .int v5), (6, .int v6), (7, .int v7)]) dX12_choice_84 rfl rfl ?_
        refine ev_iload (pc := 86) 6 dX12_choice_86 rfl ?_
        refine ev_iconst (pc := 88) (-1 : Int32) k_iconst_m1 dX12_choice_88 ?_
        refine ev_icmp_eq (pc := 89) 99 (by decide) dX12_choice_89 ?_ ?_
        · refine EvW.sub [1, 2, 3, 4, 5, 8, 0] rfl ?_
          exact E_X12_choice_99 N d (F_X12_choice_54 N n) hr_54 v1 v2 v3 v4 v7 x16 I17 L18
        · refine ev_iload (pc := 92) 0 dX12_choice_92 rfl ?_
          refine ev_iload (pc := 94) 7 dX12_choice_94 rfl ?_
          refine ev_icmp_le (pc := 96) 107 (by decide) dX12_choice_96 ?_ ?_
          · refine ev_iinc (pc := 107) (lv' := [(7, .int (v7 + 1)), (8, .int x16), (0, .ref 12), (1, .int v1), (2, .int v2), (3, .int v3), (4, .int v4), (5, .int v5), (6, .int v6)]) dX12_choice_107 8 rfl rfl 1 k_iconst_1 rfl ?_
            refine ev_goto (pc := 110) 54 (by decide) dX12_choice_110 ?_
            refine EvW.sub [2, 3, 4, 5, 6, 7, 8, 0] rfl ?_
            exact hr_54 v1 v2 v3 v4 v5 v6 (v7 + 1) I17 L18
          · refine EvW.sub [1, 2, 3, 4, 5, 8, 0] rfl ?_
            exact E_X12_choice_99 N d (F_X12_choice_54 N n) hr_54 v1 v2 v3 v4 v7 x16 I17 L18
def f_X12_choice (N : Nat) (a1 : Int32) (a2 : Int32) (a3 : Int32) (a4 : Int32) (I : PI) (L : PL) : RES := bI (f_X12_isSet N a1 I L) (fun x1 I2 L3 => (if x1 = 0 then some (some (.int (-1 : Int32)), I2, L3) else gd (inb a1 7) (bI (f_X12_in N a2 1 (I2 52 (Int32.toNatClampNeg a1)) I2 L3) (fun x4 I5 L6 => (if x4 = 0 then some (some (.int (-1 : Int32)), I5, L6) else bI (f_X12_in N a3 1 999 I5 L6) (fun x7 I8 L9 => (if x7 = 0 then some (some (.int (-1 : Int32)), I8, L9) else bI (f_X12_in N a4 0 1 I8 L9) (fun x10 I11 L12 => (if x10 = 0 then some (some (.int (-1 : Int32)), I11, L12) else F_X12_choice_54 N N a1 a2 a3 a4 (-1 : Int32) 0 1 I11 L12)))))))))
set_option maxRecDepth 100000 in
theorem ok_X12_choice (N d : Nat) (a1 : Int32) (a2 : Int32) (a3 : Int32) (a4 : Int32) (I : PI) (L : PL) : MOk M_X12_choice (d + 3) [.ref 12, .int a1, .int a2, .int a3, .int a4] I L (f_X12_choice N a1 a2 a3 a4 I L) := by
  refine MOk.of (by decide +kernel) (Nat.le_of_ble_eq_true rfl) ?_
  show EvW _ _ 0 [(0, .ref 12), (1, .int a1), (2, .int a2), (3, .int a3), (4, .int a4)] [] I L _
  rw [f_X12_choice]
  refine ev_aload_n (pc := 0) 0 dX12_choice_0 rfl ?_
  refine ev_iload_n (pc := 1) 1 dX12_choice_1 rfl ?_
  refine ev_callVI (pc := 2) (d := d + 2) (As := [.int a1]) (st := []) cv_X12_isSet rfl w_806 rfl (Nat.le_of_ble_eq_true rfl) (ok_X12_isSet N (d + 1) a1 I L) dX12_choice_2 (fun x1 I2 L3 => ?_)
  refine ev_if_eq (pc := 5) 43 (by decide) dX12_choice_5 ?_ ?_
  · refine ev_iconst (pc := 43) (-1 : Int32) k_iconst_m1 dX12_choice_43 ?_
    exact ev_iret (pc := 44) rfl dX12_choice_44
  · refine ev_iload_n (pc := 8) 2 dX12_choice_8 rfl ?_
    refine ev_iconst (pc := 9) 1 k_iconst_1 dX12_choice_9 ?_
    refine ev_aload_n (pc := 10) 0 dX12_choice_10 rfl ?_
    refine gf_X12_49 (pc := 11) rfl dX12_choice_11 ?_
    refine ev_iload_n (pc := 14) 1 dX12_choice_14 rfl ?_
    refine ev_iald (pc := 15) kK_52 dX12_choice_15 ?_
    refine ev_callSI (pc := 16) (d := d + 2) (As := [.int a2, .int 1, .int (I2 52 (Int32.toNatClampNeg a1))]) (st := []) cv_X12_in rfl w_790 rfl (Nat.le_of_ble_eq_true rfl) (ok_X12_in N (d + 2) a2 1 (I2 52 (Int32.toNatClampNeg a1)) I2 L3) dX12_choice_16 (fun x4 I5 L6 => ?_)
    refine ev_if_eq (pc := 19) 43 (by decide) dX12_choice_19 ?_ ?_
    · refine ev_iconst (pc := 43) (-1 : Int32) k_iconst_m1 dX12_choice_43 ?_
      exact ev_iret (pc := 44) rfl dX12_choice_44
    · refine ev_iload_n (pc := 22) 3 dX12_choice_22 rfl ?_
      refine ev_iconst (pc := 23) 1 k_iconst_1 dX12_choice_23 ?_
      refine ev_sipush (pc := 24) 999 k_sipush_999 dX12_choice_24 ?_
      refine ev_callSI (pc := 27) (d := d + 2) (As := [.int a3, .int 1, .int 999]) (st := []) cv_X12_in rfl w_790 rfl (Nat.le_of_ble_eq_true rfl) (ok_X12_in N (d + 2) a3 1 999 I5 L6) dX12_choice_27 (fun x7 I8 L9 => ?_)
      refine ev_if_eq (pc := 30) 43 (by decide) dX12_choice_30 ?_ ?_
      · refine ev_iconst (pc := 43) (-1 : Int32) k_iconst_m1 dX12_choice_43 ?_
        exact ev_iret (pc := 44) rfl dX12_choice_44
      · refine ev_iload (pc := 33) 4 dX12_choice_33 rfl ?_
        refine ev_iconst (pc := 35) 0 k_iconst_0 dX12_choice_35 ?_
        refine ev_iconst (pc := 36) 1 k_iconst_1 dX12_choice_36 ?_
        refine ev_callSI (pc := 37) (d := d + 2) (As := [.int a4, .int 0, .int 1]) (st := []) cv_X12_in rfl w_790 rfl (Nat.le_of_ble_eq_true rfl) (ok_X12_in N (d + 2) a4 0 1 I8 L9) dX12_choice_37 (fun x10 I11 L12 => ?_)
        refine ev_if_ne (pc := 40) 45 (by decide) dX12_choice_40 ?_ ?_
        · refine ev_iconst (pc := 45) (-1 : Int32) k_iconst_m1 dX12_choice_45 ?_
          refine ev_istore (pc := 46) (lv' := [(5, .int (-1 : Int32)), (0, .ref 12), (1, .int a1), (2, .int a2), (3, .int a3), (4, .int a4)]) dX12_choice_46 rfl rfl ?_
          refine ev_iconst (pc := 48) 0 k_iconst_0 dX12_choice_48 ?_
          refine ev_istore (pc := 49) (lv' := [(6, .int 0), (5, .int (-1 : Int32)), (0, .ref 12), (1, .int a1), (2, .int a2), (3, .int a3), (4, .int a4)]) dX12_choice_49 rfl rfl ?_
          refine ev_iconst (pc := 51) 1 k_iconst_1 dX12_choice_51 ?_
          refine ev_istore (pc := 52) (lv' := [(7, .int 1), (6, .int 0), (5, .int (-1 : Int32)), (0, .ref 12), (1, .int a1), (2, .int a2), (3, .int a3), (4, .int a4)]) dX12_choice_52 rfl rfl ?_
          refine EvW.sub [3, 4, 5, 6, 7, 2, 1, 0] rfl ?_
          exact E_X12_choice_54 N d N a1 a2 a3 a4 (-1 : Int32) 0 1 I11 L12
        · refine ev_iconst (pc := 43) (-1 : Int32) k_iconst_m1 dX12_choice_43 ?_
          exact ev_iret (pc := 44) rfl dX12_choice_44
def f_X12_read (N : Nat) (a1 : Int32) (a2 : Int32) (I : PI) (L : PL) : RES := bI (f_X12_in N a1 0 7 I L) (fun x1 I2 L3 => (if x1 = 0 then gd (decide (0 &&& 1 = 0)) (some (some (.int 0), I2, L3)) else bI (f_X12_in N a2 (-1 : Int32) 98 I2 L3) (fun x4 I5 L6 => (if x4 = 0 then gd (decide (0 &&& 1 = 0)) (some (some (.int 0), I5, L6)) else gd (inb a1 8) (nmW (uI I5 54 (Int32.toNatClampNeg a1) a2) (fun I7 => gd (decide (1 &&& 1 = 1)) (some (some (.int 1), I7, L6))))))))
set_option maxRecDepth 100000 in
theorem ok_X12_read (N d : Nat) (a1 : Int32) (a2 : Int32) (I : PI) (L : PL) : MOk M_X12_read (d + 1) [.ref 12, .int a1, .int a2] I L (f_X12_read N a1 a2 I L) := by
  refine MOk.of (by decide +kernel) (Nat.le_of_ble_eq_true rfl) ?_
  show EvW _ _ 0 [(0, .ref 12), (1, .int a1), (2, .int a2)] [] I L _
  rw [f_X12_read]
  refine ev_iload_n (pc := 0) 1 dX12_read_0 rfl ?_
  refine ev_iconst (pc := 1) 0 k_iconst_0 dX12_read_1 ?_
  refine ev_bipush (pc := 2) 7 k_bipush_7 dX12_read_2 ?_
  refine ev_callSI (pc := 4) (d := d) (As := [.int a1, .int 0, .int 7]) (st := []) cv_X12_in rfl w_790 rfl (Nat.le_of_ble_eq_true rfl) (ok_X12_in N (d) a1 0 7 I L) dX12_read_4 (fun x1 I2 L3 => ?_)
  refine ev_if_eq (pc := 7) 20 (by decide) dX12_read_7 ?_ ?_
  · refine ev_iconst (pc := 20) 0 k_iconst_0 dX12_read_20 ?_
    exact ev_zret (pc := 21) rfl dX12_read_21
  · refine ev_iload_n (pc := 10) 2 dX12_read_10 rfl ?_
    refine ev_iconst (pc := 11) (-1 : Int32) k_iconst_m1 dX12_read_11 ?_
    refine ev_bipush (pc := 12) 98 k_bipush_98 dX12_read_12 ?_
    refine ev_callSI (pc := 14) (d := d) (As := [.int a2, .int (-1 : Int32), .int 98]) (st := []) cv_X12_in rfl w_790 rfl (Nat.le_of_ble_eq_true rfl) (ok_X12_in N (d) a2 (-1 : Int32) 98 I2 L3) dX12_read_14 (fun x4 I5 L6 => ?_)
    refine ev_if_ne (pc := 17) 22 (by decide) dX12_read_17 ?_ ?_
    · refine ev_aload_n (pc := 22) 0 dX12_read_22 rfl ?_
      refine gf_X12_74 (pc := 23) rfl dX12_read_23 ?_
      refine ev_iload_n (pc := 26) 1 dX12_read_26 rfl ?_
      refine ev_iload_n (pc := 27) 2 dX12_read_27 rfl ?_
      refine ev_iast (pc := 28) kK_54 dX12_read_28 ?_
      refine ev_nmW (fun I7 => ?_)
      refine ev_iconst (pc := 29) 1 k_iconst_1 dX12_read_29 ?_
      exact ev_zret (pc := 30) rfl dX12_read_30
    · refine ev_iconst (pc := 20) 0 k_iconst_0 dX12_read_20 ?_
      exact ev_zret (pc := 21) rfl dX12_read_21
def F_X12_areReadings_2 (N : Nat) : Nat → Int32 → Int32 → PI → PL → RES
  | 0, _, _, _, _ => none
  | n + 1, v1, v2, I, L => (if 8 ≤ v2 then gd (decide (1 &&& 1 = 1)) (some (some (.int 1), I, L)) else gd (inb v2 8) ((if (I 54 (Int32.toNatClampNeg v2)) = (-1 : Int32) then (F_X12_areReadings_2 N n) v1 (v2 + 1) I L else gd (inb v1 7) ((if (I 52 (Int32.toNatClampNeg v1)) ≤ v2 then gd (decide (0 &&& 1 = 0)) (some (some (.int 0), I, L)) else gd (inb v2 8) (gd (inb ((8 * v1) + v2) 56) ((if (I 54 (Int32.toNatClampNeg v2)) < (I 51 (Int32.toNatClampNeg ((8 * v1) + v2))) then (F_X12_areReadings_2 N n) v1 (v2 + 1) I L else gd (decide (0 &&& 1 = 0)) (some (some (.int 0), I, L))))))))))
set_option maxRecDepth 100000 in
theorem E_X12_areReadings_2 (N d : Nat) : ∀ (n : Nat) (v1 : Int32) (v2 : Int32) (I : PI) (L : PL), EvW M_X12_areReadings (d) 2 [(0, .ref 12), (1, .int v1), (2, .int v2)] [] I L (F_X12_areReadings_2 N n v1 v2 I L) := by
  intro n
  induction n with
  | zero =>
    intro v1 v2 I L
    exact EvW.none
  | succ n hr_2 =>
    intro v1 v2 I L
    rw [F_X12_areReadings_2]
    refine ev_iload_n (pc := 2) 2 dX12_areReadings_2 rfl ?_
    refine ev_bipush (pc := 3) 8 k_bipush_8 dX12_areReadings_3 ?_
    refine ev_icmp_ge (pc := 5) 56 (by decide) dX12_areReadings_5 ?_ ?_
    · refine ev_iconst (pc := 56) 1 k_iconst_1 dX12_areReadings_56 ?_
      exact ev_zret (pc := 57) rfl dX12_areReadings_57
    · refine ev_aload_n (pc := 8) 0 dX12_areReadings_8 rfl ?_
      refine gf_X12_74 (pc := 9) rfl dX12_areReadings_9 ?_
      refine ev_iload_n (pc := 12) 2 dX12_areReadings_12 rfl ?_
      refine ev_iald (pc := 13) kK_54 dX12_areReadings_13 ?_
      refine ev_iconst (pc := 14) (-1 : Int32) k_iconst_m1 dX12_areReadings_14 ?_
      refine ev_icmp_eq (pc := 15) 50 (by decide) dX12_areReadings_15 ?_ ?_
      · refine ev_iinc (pc := 50) (lv' := [(2, .int (v2 + 1)), (0, .ref 12), (1, .int v1)]) dX12_areReadings_50 2 rfl rfl 1 k_iconst_1 rfl ?_
        refine ev_goto (pc := 53) 2 (by decide) dX12_areReadings_53 ?_
        refine EvW.sub [1, 2, 0] rfl ?_
        exact hr_2 v1 (v2 + 1) I L
      · refine ev_iload_n (pc := 18) 2 dX12_areReadings_18 rfl ?_
        refine ev_aload_n (pc := 19) 0 dX12_areReadings_19 rfl ?_
        refine gf_X12_49 (pc := 20) rfl dX12_areReadings_20 ?_
        refine ev_iload_n (pc := 23) 1 dX12_areReadings_23 rfl ?_
        refine ev_iald (pc := 24) kK_52 dX12_areReadings_24 ?_
        refine ev_icmp_ge (pc := 25) 48 (by decide) dX12_areReadings_25 ?_ ?_
        · refine ev_iconst (pc := 48) 0 k_iconst_0 dX12_areReadings_48 ?_
          exact ev_zret (pc := 49) rfl dX12_areReadings_49
        · refine ev_aload_n (pc := 28) 0 dX12_areReadings_28 rfl ?_
          refine gf_X12_74 (pc := 29) rfl dX12_areReadings_29 ?_
          refine ev_iload_n (pc := 32) 2 dX12_areReadings_32 rfl ?_
          refine ev_iald (pc := 33) kK_54 dX12_areReadings_33 ?_
          refine ev_aload_n (pc := 34) 0 dX12_areReadings_34 rfl ?_
          refine gf_X12_46 (pc := 35) rfl dX12_areReadings_35 ?_
          refine ev_bipush (pc := 38) 8 k_bipush_8 dX12_areReadings_38 ?_
          refine ev_iload_n (pc := 40) 1 dX12_areReadings_40 rfl ?_
          refine ev_imul (pc := 41) dX12_areReadings_41 ?_
          refine ev_iload_n (pc := 42) 2 dX12_areReadings_42 rfl ?_
          refine ev_iadd (pc := 43) dX12_areReadings_43 ?_
          refine ev_iald (pc := 44) kK_51 dX12_areReadings_44 ?_
          refine ev_icmp_lt (pc := 45) 50 (by decide) dX12_areReadings_45 ?_ ?_
          · refine ev_iinc (pc := 50) (lv' := [(2, .int (v2 + 1)), (0, .ref 12), (1, .int v1)]) dX12_areReadings_50 2 rfl rfl 1 k_iconst_1 rfl ?_
            refine ev_goto (pc := 53) 2 (by decide) dX12_areReadings_53 ?_
            refine EvW.sub [1, 2, 0] rfl ?_
            exact hr_2 v1 (v2 + 1) I L
          · refine ev_iconst (pc := 48) 0 k_iconst_0 dX12_areReadings_48 ?_
            exact ev_zret (pc := 49) rfl dX12_areReadings_49
def f_X12_areReadings (N : Nat) (a1 : Int32) (I : PI) (L : PL) : RES := F_X12_areReadings_2 N N a1 0 I L
set_option maxRecDepth 100000 in
theorem ok_X12_areReadings (N d : Nat) (a1 : Int32) (I : PI) (L : PL) : MOk M_X12_areReadings (d) [.ref 12, .int a1] I L (f_X12_areReadings N a1 I L) := by
  refine MOk.of (by decide +kernel) (Nat.le_of_ble_eq_true rfl) ?_
  show EvW _ _ 0 [(0, .ref 12), (1, .int a1)] [] I L _
  rw [f_X12_areReadings]
  refine ev_iconst (pc := 0) 0 k_iconst_0 dX12_areReadings_0 ?_
  refine ev_istore_n (pc := 1) (lv' := [(2, .int 0), (0, .ref 12), (1, .int a1)]) dX12_areReadings_1 rfl rfl rfl ?_
  refine EvW.sub [1, 2, 0] rfl ?_
  exact E_X12_areReadings_2 N d N a1 0 I L
def F_X12_offs_61 (N : Nat) (r_6 : Int32 → Int32 → Int32 → Int32 → Int32 → PI → PL → RES) (v1 : Int32) (v2 : Int32) (v3 : Int32) (v4 : Int32) (v5 : Int32) (v6 : Int32) (s0 : Int32) (I : PI) (L : PL) : RES := (if (jmin s0 (v6 - s0)) ≤ v3 then nmI (v4 + 0) (fun x2 => r_6 v1 v2 v3 x2 (v5 + 1) I L) else nmI (v4 + 1) (fun x3 => r_6 v1 v2 v3 x3 (v5 + 1) I L))
set_option maxRecDepth 100000 in
theorem E_X12_offs_61 (N d : Nat) (r_6 : Int32 → Int32 → Int32 → Int32 → Int32 → PI → PL → RES) (hr_6 : ∀ (v1 : Int32) (v2 : Int32) (v3 : Int32) (v4 : Int32) (v5 : Int32) (I : PI) (L : PL), EvW M_X12_offs (d + 1) 6 [(0, .ref 12), (1, .int v1), (2, .int v2), (3, .int v3), (4, .int v4), (5, .int v5)] [] I L (r_6 v1 v2 v3 v4 v5 I L)) (v1 : Int32) (v2 : Int32) (v3 : Int32) (v4 : Int32) (v5 : Int32) (v6 : Int32) (s0 : Int32) (I : PI) (L : PL) : EvW M_X12_offs (d + 1) 61 [(0, .ref 12), (1, .int v1), (2, .int v2), (3, .int v3), (4, .int v4), (5, .int v5), (6, .int v6)] [.int s0] I L (F_X12_offs_61 N r_6 v1 v2 v3 v4 v5 v6 s0 I L) := by
  rw [F_X12_offs_61]
  refine ev_istore (pc := 61) (lv' := [(7, .int s0), (0, .ref 12), (1, .int v1), (2, .int v2), (3, .int v3), (4, .int v4), (5, .int v5), (6, .int v6)]) dX12_offs_61 rfl rfl ?_
  refine ev_iload (pc := 63) 5 dX12_offs_63 rfl ?_
  refine ev_iload (pc := 65) 0 dX12_offs_65 rfl ?_
  refine ev_iload (pc := 67) 7 dX12_offs_67 rfl ?_
  refine ev_iload (pc := 69) 0 dX12_offs_69 rfl ?_
  refine ev_isub (pc := 71) dX12_offs_71 ?_
  refine ev_mmin (pc := 72) (d := d) w_835 w_134 w_131 w_135 (Nat.le_of_ble_eq_true rfl) dX12_offs_72 ?_
  refine ev_iload_n (pc := 75) 4 dX12_offs_75 rfl ?_
  refine ev_icmp_le (pc := 76) 83 (by decide) dX12_offs_76 ?_ ?_
  · refine ev_iconst (pc := 83) 0 k_iconst_0 dX12_offs_83 ?_
    refine ev_iadd (pc := 84) dX12_offs_84 ?_
    refine ev_nmI (fun x2 => ?_)
    refine ev_istore (pc := 85) (lv' := [(4, .int x2), (7, .int s0), (0, .ref 12), (1, .int v1), (2, .int v2), (3, .int v3), (5, .int v5), (6, .int v6)]) dX12_offs_85 rfl rfl ?_
    refine ev_iinc (pc := 87) (lv' := [(5, .int (v5 + 1)), (4, .int x2), (7, .int s0), (0, .ref 12), (1, .int v1), (2, .int v2), (3, .int v3), (6, .int v6)]) dX12_offs_87 6 rfl rfl 1 k_iconst_1 rfl ?_
    refine ev_goto (pc := 90) 6 (by decide) dX12_offs_90 ?_
    refine EvW.sub [3, 4, 5, 6, 1, 0] rfl ?_
    exact hr_6 v1 v2 v3 x2 (v5 + 1) I L
  · refine ev_iconst (pc := 79) 1 k_iconst_1 dX12_offs_79 ?_
    refine ev_goto (pc := 80) 84 (by decide) dX12_offs_80 ?_
    refine ev_iadd (pc := 84) dX12_offs_84 ?_
    refine ev_nmI (fun x3 => ?_)
    refine ev_istore (pc := 85) (lv' := [(4, .int x3), (7, .int s0), (0, .ref 12), (1, .int v1), (2, .int v2), (3, .int v3), (5, .int v5), (6, .int v6)]) dX12_offs_85 rfl rfl ?_
    refine ev_iinc (pc := 87) (lv' := [(5, .int (v5 + 1)), (4, .int x3), (7, .int s0), (0, .ref 12), (1, .int v1), (2, .int v2), (3, .int v3), (6, .int v6)]) dX12_offs_87 6 rfl rfl 1 k_iconst_1 rfl ?_
    refine ev_goto (pc := 90) 6 (by decide) dX12_offs_90 ?_
    refine EvW.sub [3, 4, 5, 6, 1, 0] rfl ?_
    exact hr_6 v1 v2 v3 x3 (v5 + 1) I L
def F_X12_offs_6 (N : Nat) : Nat → Int32 → Int32 → Int32 → Int32 → Int32 → PI → PL → RES
  | 0, _, _, _, _, _, _, _ => none
  | n + 1, v1, v2, v3, v4, v5, I, L => gd (inb v1 7) ((if (I 52 (Int32.toNatClampNeg v1)) ≤ v5 then some (some (.int v4), I, L) else gd (inb ((8 * v1) + v5) 56) (nmI (I 51 (Int32.toNatClampNeg ((8 * v1) + v5))) (fun x1 => gd (inb v5 8) ((if (I 54 (Int32.toNatClampNeg v5)) = (-1 : Int32) then F_X12_offs_61 N (F_X12_offs_6 N n) v1 v2 v3 v4 v5 x1 0 I L else gd (decide (¬ x1 = 0)) (gd (inb v5 8) (F_X12_offs_61 N (F_X12_offs_6 N n) v1 v2 v3 v4 v5 x1 (jabs ((jirem v2 x1) - (I 54 (Int32.toNatClampNeg v5)))) I L))))))))
set_option maxRecDepth 100000 in
theorem E_X12_offs_6 (N d : Nat) : ∀ (n : Nat) (v1 : Int32) (v2 : Int32) (v3 : Int32) (v4 : Int32) (v5 : Int32) (I : PI) (L : PL), EvW M_X12_offs (d + 1) 6 [(0, .ref 12), (1, .int v1), (2, .int v2), (3, .int v3), (4, .int v4), (5, .int v5)] [] I L (F_X12_offs_6 N n v1 v2 v3 v4 v5 I L) := by
  intro n
  induction n with
  | zero =>
    intro v1 v2 v3 v4 v5 I L
    exact EvW.none
  | succ n hr_6 =>
    intro v1 v2 v3 v4 v5 I L
    rw [F_X12_offs_6]
    refine ev_iload (pc := 6) 5 dX12_offs_6 rfl ?_
    refine ev_aload_n (pc := 8) 0 dX12_offs_8 rfl ?_
    refine gf_X12_49 (pc := 9) rfl dX12_offs_9 ?_
    refine ev_iload_n (pc := 12) 1 dX12_offs_12 rfl ?_
    refine ev_iald (pc := 13) kK_52 dX12_offs_13 ?_
    refine ev_icmp_ge (pc := 14) 93 (by decide) dX12_offs_14 ?_ ?_
    · refine ev_iload (pc := 93) 4 dX12_offs_93 rfl ?_
      exact ev_iret (pc := 95) rfl dX12_offs_95
    · refine ev_aload_n (pc := 17) 0 dX12_offs_17 rfl ?_
      refine gf_X12_46 (pc := 18) rfl dX12_offs_18 ?_
      refine ev_bipush (pc := 21) 8 k_bipush_8 dX12_offs_21 ?_
      refine ev_iload_n (pc := 23) 1 dX12_offs_23 rfl ?_
      refine ev_imul (pc := 24) dX12_offs_24 ?_
      refine ev_iload (pc := 25) 5 dX12_offs_25 rfl ?_
      refine ev_iadd (pc := 27) dX12_offs_27 ?_
      refine ev_iald (pc := 28) kK_51 dX12_offs_28 ?_
      refine ev_nmI (fun x1 => ?_)
      refine ev_istore (pc := 29) (lv' := [(6, .int x1), (0, .ref 12), (1, .int v1), (2, .int v2), (3, .int v3), (4, .int v4), (5, .int v5)]) dX12_offs_29 rfl rfl ?_
      refine ev_aload_n (pc := 31) 1 dX12_offs_31 rfl ?_
      refine gf_X12_74 (pc := 32) rfl dX12_offs_32 ?_
      refine ev_iload (pc := 35) 6 dX12_offs_35 rfl ?_
      refine ev_iald (pc := 37) kK_54 dX12_offs_37 ?_
      refine ev_iconst (pc := 38) (-1 : Int32) k_iconst_m1 dX12_offs_38 ?_
      refine ev_icmp_ne (pc := 39) 46 (by decide) dX12_offs_39 ?_ ?_
      · refine ev_iload_n (pc := 46) 3 dX12_offs_46 rfl ?_
        refine ev_iload (pc := 47) 0 dX12_offs_47 rfl ?_
        refine ev_irem (pc := 49) dX12_offs_49 ?_
        refine ev_aload_n (pc := 50) 1 dX12_offs_50 rfl ?_
        refine gf_X12_74 (pc := 51) rfl dX12_offs_51 ?_
        refine ev_iload (pc := 54) 6 dX12_offs_54 rfl ?_
        refine ev_iald (pc := 56) kK_54 dX12_offs_56 ?_
        refine ev_isub (pc := 57) dX12_offs_57 ?_
        refine ev_mabs (pc := 58) (d := d) w_896 w_428 w_131 w_429 (Nat.le_of_ble_eq_true rfl) dX12_offs_58 ?_
        refine EvW.sub [1, 2, 3, 4, 5, 6, 0] rfl ?_
        exact E_X12_offs_61 N d (F_X12_offs_6 N n) hr_6 v1 v2 v3 v4 v5 x1 (jabs ((jirem v2 x1) - (I 54 (Int32.toNatClampNeg v5)))) I L
      · refine ev_iconst (pc := 42) 0 k_iconst_0 dX12_offs_42 ?_
        refine ev_goto (pc := 43) 61 (by decide) dX12_offs_43 ?_
        refine EvW.sub [1, 2, 3, 4, 5, 6, 0] rfl ?_
        exact E_X12_offs_61 N d (F_X12_offs_6 N n) hr_6 v1 v2 v3 v4 v5 x1 0 I L
def f_X12_offs (N : Nat) (a1 : Int32) (a2 : Int32) (a3 : Int32) (I : PI) (L : PL) : RES := F_X12_offs_6 N N a1 a2 a3 0 0 I L
set_option maxRecDepth 100000 in
theorem ok_X12_offs (N d : Nat) (a1 : Int32) (a2 : Int32) (a3 : Int32) (I : PI) (L : PL) : MOk M_X12_offs (d + 1) [.ref 12, .int a1, .int a2, .int a3] I L (f_X12_offs N a1 a2 a3 I L) := by
  refine MOk.of (by decide +kernel) (Nat.le_of_ble_eq_true rfl) ?_
  show EvW _ _ 0 [(0, .ref 12), (1, .int a1), (2, .int a2), (3, .int a3)] [] I L _
  rw [f_X12_offs]
  refine ev_iconst (pc := 0) 0 k_iconst_0 dX12_offs_0 ?_
  refine ev_istore (pc := 1) (lv' := [(4, .int 0), (0, .ref 12), (1, .int a1), (2, .int a2), (3, .int a3)]) dX12_offs_1 rfl rfl ?_
  refine ev_iconst (pc := 3) 0 k_iconst_0 dX12_offs_3 ?_
  refine ev_istore (pc := 4) (lv' := [(5, .int 0), (4, .int 0), (0, .ref 12), (1, .int a1), (2, .int a2), (3, .int a3)]) dX12_offs_4 rfl rfl ?_
  refine EvW.sub [2, 3, 4, 5, 1, 0] rfl ?_
  exact E_X12_offs_6 N d N a1 a2 a3 0 0 I L
def F_X12_unfold_69 (N : Nat) : Nat → Int32 → Int32 → Int32 → Int32 → Int32 → Int32 → Int32 → Int32 → PI → PL → RES
  | 0, _, _, _, _, _, _, _, _, _, _ => none
  | n + 1, v1, v2, v3, v4, v5, v6, v7, v8, I, L => (if v2 < v8 then (if v5 = (-1 : Int32) then some (some (.int v6), I, L) else some (some (.int v7), I, L)) else bI (f_X12_offs N v1 v8 v4 I L) (fun x16 I17 L18 => (if v3 < x16 then (F_X12_unfold_69 N n) v1 v2 v3 v4 v5 v6 v7 (v8 + 1) I17 L18 else (if v6 = v5 then (F_X12_unfold_69 N n) v1 v2 v3 v4 v5 (v6 + 1) v8 (v8 + 1) I17 L18 else (F_X12_unfold_69 N n) v1 v2 v3 v4 v5 (v6 + 1) v7 (v8 + 1) I17 L18))))
set_option maxRecDepth 100000 in
theorem E_X12_unfold_69 (N d : Nat) : ∀ (n : Nat) (v1 : Int32) (v2 : Int32) (v3 : Int32) (v4 : Int32) (v5 : Int32) (v6 : Int32) (v7 : Int32) (v8 : Int32) (I : PI) (L : PL), EvW M_X12_unfold (d + 2) 69 [(0, .ref 12), (1, .int v1), (2, .int v2), (3, .int v3), (4, .int v4), (5, .int v5), (6, .int v6), (7, .int v7), (8, .int v8)] [] I L (F_X12_unfold_69 N n v1 v2 v3 v4 v5 v6 v7 v8 I L) := by
  intro n
  induction n with
  | zero =>
    intro v1 v2 v3 v4 v5 v6 v7 v8 I L
    exact EvW.none
  | succ n hr_69 =>
    intro v1 v2 v3 v4 v5 v6 v7 v8 I L
    rw [F_X12_unfold_69]
    refine ev_iload (pc := 69) 8 dX12_unfold_69 rfl ?_
    refine ev_iload_n (pc := 71) 2 dX12_unfold_71 rfl ?_
    refine ev_icmp_gt (pc := 72) 113 (by decide) dX12_unfold_72 ?_ ?_
    · refine ev_iload (pc := 113) 5 dX12_unfold_113 rfl ?_
      refine ev_iconst (pc := 115) (-1 : Int32) k_iconst_m1 dX12_unfold_115 ?_
      refine ev_icmp_ne (pc := 116) 124 (by decide) dX12_unfold_116 ?_ ?_
      · refine ev_iload (pc := 124) 7 dX12_unfold_124 rfl ?_
        exact ev_iret (pc := 126) rfl dX12_unfold_126
      · refine ev_iload (pc := 119) 6 dX12_unfold_119 rfl ?_
        refine ev_goto (pc := 121) 126 (by decide) dX12_unfold_121 ?_
        exact ev_iret (pc := 126) rfl dX12_unfold_126
    · refine ev_aload_n (pc := 75) 0 dX12_unfold_75 rfl ?_
      refine ev_iload_n (pc := 76) 1 dX12_unfold_76 rfl ?_
      refine ev_iload (pc := 77) 8 dX12_unfold_77 rfl ?_
      refine ev_iload (pc := 79) 4 dX12_unfold_79 rfl ?_
      refine ev_callVI (pc := 81) (d := d + 1) (As := [.int v1, .int v8, .int v4]) (st := []) cv_X12_offs rfl w_900 rfl (Nat.le_of_ble_eq_true rfl) (ok_X12_offs N (d) v1 v8 v4 I L) dX12_unfold_81 (fun x16 I17 L18 => ?_)
      refine ev_iload_n (pc := 84) 3 dX12_unfold_84 rfl ?_
      refine ev_icmp_gt (pc := 85) 107 (by decide) dX12_unfold_85 ?_ ?_
      · refine ev_iinc (pc := 107) (lv' := [(8, .int (v8 + 1)), (0, .ref 12), (1, .int v1), (2, .int v2), (3, .int v3), (4, .int v4), (5, .int v5), (6, .int v6), (7, .int v7)]) dX12_unfold_107 8 rfl rfl 1 k_iconst_1 rfl ?_
        refine ev_goto (pc := 110) 69 (by decide) dX12_unfold_110 ?_
        refine EvW.sub [1, 2, 3, 4, 5, 6, 7, 8, 0] rfl ?_
        exact hr_69 v1 v2 v3 v4 v5 v6 v7 (v8 + 1) I17 L18
      · refine ev_iload (pc := 88) 6 dX12_unfold_88 rfl ?_
        refine ev_iload (pc := 90) 5 dX12_unfold_90 rfl ?_
        refine ev_icmp_ne (pc := 92) 100 (by decide) dX12_unfold_92 ?_ ?_
        · refine ev_iload (pc := 100) 7 dX12_unfold_100 rfl ?_
          refine ev_istore (pc := 102) (lv' := [(7, .int v7), (0, .ref 12), (1, .int v1), (2, .int v2), (3, .int v3), (4, .int v4), (5, .int v5), (6, .int v6), (8, .int v8)]) dX12_unfold_102 rfl rfl ?_
          refine ev_iinc (pc := 104) (lv' := [(6, .int (v6 + 1)), (7, .int v7), (0, .ref 12), (1, .int v1), (2, .int v2), (3, .int v3), (4, .int v4), (5, .int v5), (8, .int v8)]) dX12_unfold_104 7 rfl rfl 1 k_iconst_1 rfl ?_
          refine ev_iinc (pc := 107) (lv' := [(8, .int (v8 + 1)), (6, .int (v6 + 1)), (7, .int v7), (0, .ref 12), (1, .int v1), (2, .int v2), (3, .int v3), (4, .int v4), (5, .int v5)]) dX12_unfold_107 8 rfl rfl 1 k_iconst_1 rfl ?_
          refine ev_goto (pc := 110) 69 (by decide) dX12_unfold_110 ?_
          refine EvW.sub [3, 4, 5, 6, 7, 8, 1, 2, 0] rfl ?_
          exact hr_69 v1 v2 v3 v4 v5 (v6 + 1) v7 (v8 + 1) I17 L18
        · refine ev_iload (pc := 95) 8 dX12_unfold_95 rfl ?_
          refine ev_goto (pc := 97) 102 (by decide) dX12_unfold_97 ?_
          refine ev_istore (pc := 102) (lv' := [(7, .int v8), (0, .ref 12), (1, .int v1), (2, .int v2), (3, .int v3), (4, .int v4), (5, .int v5), (6, .int v6), (8, .int v8)]) dX12_unfold_102 rfl rfl ?_
          refine ev_iinc (pc := 104) (lv' := [(6, .int (v6 + 1)), (7, .int v8), (0, .ref 12), (1, .int v1), (2, .int v2), (3, .int v3), (4, .int v4), (5, .int v5), (8, .int v8)]) dX12_unfold_104 7 rfl rfl 1 k_iconst_1 rfl ?_
          refine ev_iinc (pc := 107) (lv' := [(8, .int (v8 + 1)), (6, .int (v6 + 1)), (7, .int v8), (0, .ref 12), (1, .int v1), (2, .int v2), (3, .int v3), (4, .int v4), (5, .int v5)]) dX12_unfold_107 8 rfl rfl 1 k_iconst_1 rfl ?_
          refine ev_goto (pc := 110) 69 (by decide) dX12_unfold_110 ?_
          refine EvW.sub [3, 4, 5, 6, 7, 8, 1, 2, 0] rfl ?_
          exact hr_69 v1 v2 v3 v4 v5 (v6 + 1) v8 (v8 + 1) I17 L18
def f_X12_unfold (N : Nat) (a1 : Int32) (a2 : Int32) (a3 : Int32) (a4 : Int32) (a5 : Int32) (I : PI) (L : PL) : RES := bI (f_X12_isSet N a1 I L) (fun x1 I2 L3 => (if x1 = 0 then some (some (.int (-1 : Int32)), I2, L3) else bI (f_X12_in N a2 0 999 I2 L3) (fun x4 I5 L6 => (if x4 = 0 then some (some (.int (-1 : Int32)), I5, L6) else bI (f_X12_in N a3 0 8 I5 L6) (fun x7 I8 L9 => (if x7 = 0 then some (some (.int (-1 : Int32)), I8, L9) else bI (f_X12_in N a4 0 9 I8 L9) (fun x10 I11 L12 => (if x10 = 0 then some (some (.int (-1 : Int32)), I11, L12) else (if (-1 : Int32) ≤ a5 then bI (f_X12_areReadings N a1 I11 L12) (fun x13 I14 L15 => (if x13 = 0 then some (some (.int (-1000000 : Int32)), I14, L15) else F_X12_unfold_69 N N a1 a2 a3 a4 a5 0 (-1 : Int32) 0 I14 L15)) else some (some (.int (-1 : Int32)), I11, L12))))))))))
set_option maxRecDepth 100000 in
theorem ok_X12_unfold (N d : Nat) (a1 : Int32) (a2 : Int32) (a3 : Int32) (a4 : Int32) (a5 : Int32) (I : PI) (L : PL) : MOk M_X12_unfold (d + 2) [.ref 12, .int a1, .int a2, .int a3, .int a4, .int a5] I L (f_X12_unfold N a1 a2 a3 a4 a5 I L) := by
  refine MOk.of (by decide +kernel) (Nat.le_of_ble_eq_true rfl) ?_
  show EvW _ _ 0 [(0, .ref 12), (1, .int a1), (2, .int a2), (3, .int a3), (4, .int a4), (5, .int a5)] [] I L _
  rw [f_X12_unfold]
  refine ev_aload_n (pc := 0) 0 dX12_unfold_0 rfl ?_
  refine ev_iload_n (pc := 1) 1 dX12_unfold_1 rfl ?_
  refine ev_callVI (pc := 2) (d := d + 1) (As := [.int a1]) (st := []) cv_X12_isSet rfl w_806 rfl (Nat.le_of_ble_eq_true rfl) (ok_X12_isSet N (d) a1 I L) dX12_unfold_2 (fun x1 I2 L3 => ?_)
  refine ev_if_eq (pc := 5) 46 (by decide) dX12_unfold_5 ?_ ?_
  · refine ev_iconst (pc := 46) (-1 : Int32) k_iconst_m1 dX12_unfold_46 ?_
    exact ev_iret (pc := 47) rfl dX12_unfold_47
  · refine ev_iload_n (pc := 8) 2 dX12_unfold_8 rfl ?_
    refine ev_iconst (pc := 9) 0 k_iconst_0 dX12_unfold_9 ?_
    refine ev_sipush (pc := 10) 999 k_sipush_999 dX12_unfold_10 ?_
    refine ev_callSI (pc := 13) (d := d + 1) (As := [.int a2, .int 0, .int 999]) (st := []) cv_X12_in rfl w_790 rfl (Nat.le_of_ble_eq_true rfl) (ok_X12_in N (d + 1) a2 0 999 I2 L3) dX12_unfold_13 (fun x4 I5 L6 => ?_)
    refine ev_if_eq (pc := 16) 46 (by decide) dX12_unfold_16 ?_ ?_
    · refine ev_iconst (pc := 46) (-1 : Int32) k_iconst_m1 dX12_unfold_46 ?_
      exact ev_iret (pc := 47) rfl dX12_unfold_47
    · refine ev_iload_n (pc := 19) 3 dX12_unfold_19 rfl ?_
      refine ev_iconst (pc := 20) 0 k_iconst_0 dX12_unfold_20 ?_
      refine ev_bipush (pc := 21) 8 k_bipush_8 dX12_unfold_21 ?_
      refine ev_callSI (pc := 23) (d := d + 1) (As := [.int a3, .int 0, .int 8]) (st := []) cv_X12_in rfl w_790 rfl (Nat.le_of_ble_eq_true rfl) (ok_X12_in N (d + 1) a3 0 8 I5 L6) dX12_unfold_23 (fun x7 I8 L9 => ?_)
      refine ev_if_eq (pc := 26) 46 (by decide) dX12_unfold_26 ?_ ?_
      · refine ev_iconst (pc := 46) (-1 : Int32) k_iconst_m1 dX12_unfold_46 ?_
        exact ev_iret (pc := 47) rfl dX12_unfold_47
      · refine ev_iload (pc := 29) 4 dX12_unfold_29 rfl ?_
        refine ev_iconst (pc := 31) 0 k_iconst_0 dX12_unfold_31 ?_
        refine ev_bipush (pc := 32) 9 k_bipush_9 dX12_unfold_32 ?_
        refine ev_callSI (pc := 34) (d := d + 1) (As := [.int a4, .int 0, .int 9]) (st := []) cv_X12_in rfl w_790 rfl (Nat.le_of_ble_eq_true rfl) (ok_X12_in N (d + 1) a4 0 9 I8 L9) dX12_unfold_34 (fun x10 I11 L12 => ?_)
        refine ev_if_eq (pc := 37) 46 (by decide) dX12_unfold_37 ?_ ?_
        · refine ev_iconst (pc := 46) (-1 : Int32) k_iconst_m1 dX12_unfold_46 ?_
          exact ev_iret (pc := 47) rfl dX12_unfold_47
        · refine ev_iload (pc := 40) 5 dX12_unfold_40 rfl ?_
          refine ev_iconst (pc := 42) (-1 : Int32) k_iconst_m1 dX12_unfold_42 ?_
          refine ev_icmp_ge (pc := 43) 48 (by decide) dX12_unfold_43 ?_ ?_
          · refine ev_aload_n (pc := 48) 0 dX12_unfold_48 rfl ?_
            refine ev_iload_n (pc := 49) 1 dX12_unfold_49 rfl ?_
            refine ev_callVI (pc := 50) (d := d + 1) (As := [.int a1]) (st := []) cv_X12_areReadings rfl w_895 rfl (Nat.le_of_ble_eq_true rfl) (ok_X12_areReadings N (d + 1) a1 I11 L12) dX12_unfold_50 (fun x13 I14 L15 => ?_)
            refine ev_if_ne (pc := 53) 60 (by decide) dX12_unfold_53 ?_ ?_
            · refine ev_iconst (pc := 60) 0 k_iconst_0 dX12_unfold_60 ?_
              refine ev_istore (pc := 61) (lv' := [(6, .int 0), (0, .ref 12), (1, .int a1), (2, .int a2), (3, .int a3), (4, .int a4), (5, .int a5)]) dX12_unfold_61 rfl rfl ?_
              refine ev_iconst (pc := 63) (-1 : Int32) k_iconst_m1 dX12_unfold_63 ?_
              refine ev_istore (pc := 64) (lv' := [(7, .int (-1 : Int32)), (6, .int 0), (0, .ref 12), (1, .int a1), (2, .int a2), (3, .int a3), (4, .int a4), (5, .int a5)]) dX12_unfold_64 rfl rfl ?_
              refine ev_iconst (pc := 66) 0 k_iconst_0 dX12_unfold_66 ?_
              refine ev_istore (pc := 67) (lv' := [(8, .int 0), (7, .int (-1 : Int32)), (6, .int 0), (0, .ref 12), (1, .int a1), (2, .int a2), (3, .int a3), (4, .int a4), (5, .int a5)]) dX12_unfold_67 rfl rfl ?_
              refine EvW.sub [3, 4, 5, 6, 7, 8, 2, 1, 0] rfl ?_
              exact E_X12_unfold_69 N d N a1 a2 a3 a4 a5 0 (-1 : Int32) 0 I14 L15
            · refine ev_ldcw (pc := 56) w_807 dX12_unfold_56 ?_
              exact ev_iret (pc := 59) rfl dX12_unfold_59
          · refine ev_iconst (pc := 46) (-1 : Int32) k_iconst_m1 dX12_unfold_46 ?_
            exact ev_iret (pc := 47) rfl dX12_unfold_47
def F_X12_isGhost_3 (N : Nat) : Nat → Int32 → Int32 → Int32 → Int32 → Int32 → PI → PL → RES
  | 0, _, _, _, _, _, _, _ => none
  | n + 1, v1, v2, v3, v4, v5, I, L => gd (inb v1 7) ((if (I 52 (Int32.toNatClampNeg v1)) ≤ v5 then (if v4 = v2 then gd (decide (0 &&& 1 = 0)) (some (some (.int 0), I, L)) else (if v4 = v3 then gd (decide (0 &&& 1 = 0)) (some (some (.int 0), I, L)) else gd (decide (1 &&& 1 = 1)) (some (some (.int 1), I, L)))) else gd (inb ((8 * v1) + v5) 56) (nmI (I 51 (Int32.toNatClampNeg ((8 * v1) + v5))) (fun x1 => gd (decide (¬ x1 = 0)) (gd (decide (¬ x1 = 0)) ((if (jirem v4 x1) = (jirem v2 x1) then (F_X12_isGhost_3 N n) v1 v2 v3 v4 (v5 + 1) I L else gd (decide (¬ x1 = 0)) (gd (decide (¬ x1 = 0)) ((if (jirem v4 x1) = (jirem v3 x1) then (F_X12_isGhost_3 N n) v1 v2 v3 v4 (v5 + 1) I L else gd (decide (0 &&& 1 = 0)) (some (some (.int 0), I, L))))))))))))
set_option maxRecDepth 100000 in
theorem E_X12_isGhost_3 (N d : Nat) : ∀ (n : Nat) (v1 : Int32) (v2 : Int32) (v3 : Int32) (v4 : Int32) (v5 : Int32) (I : PI) (L : PL), EvW M_X12_isGhost (d) 3 [(0, .ref 12), (1, .int v1), (2, .int v2), (3, .int v3), (4, .int v4), (5, .int v5)] [] I L (F_X12_isGhost_3 N n v1 v2 v3 v4 v5 I L) := by
  intro n
  induction n with
  | zero =>
    intro v1 v2 v3 v4 v5 I L
    exact EvW.none
  | succ n hr_3 =>
    intro v1 v2 v3 v4 v5 I L
    rw [F_X12_isGhost_3]
    refine ev_iload (pc := 3) 5 dX12_isGhost_3 rfl ?_
    refine ev_aload_n (pc := 5) 0 dX12_isGhost_5 rfl ?_
    refine gf_X12_49 (pc := 6) rfl dX12_isGhost_6 ?_
    refine ev_iload_n (pc := 9) 1 dX12_isGhost_9 rfl ?_
    refine ev_iald (pc := 10) kK_52 dX12_isGhost_10 ?_
    refine ev_icmp_ge (pc := 11) 60 (by decide) dX12_isGhost_11 ?_ ?_
    · refine ev_iload (pc := 60) 4 dX12_isGhost_60 rfl ?_
      refine ev_iload_n (pc := 62) 2 dX12_isGhost_62 rfl ?_
      refine ev_icmp_eq (pc := 63) 76 (by decide) dX12_isGhost_63 ?_ ?_
      · refine ev_iconst (pc := 76) 0 k_iconst_0 dX12_isGhost_76 ?_
        exact ev_zret (pc := 77) rfl dX12_isGhost_77
      · refine ev_iload (pc := 66) 4 dX12_isGhost_66 rfl ?_
        refine ev_iload_n (pc := 68) 3 dX12_isGhost_68 rfl ?_
        refine ev_icmp_eq (pc := 69) 76 (by decide) dX12_isGhost_69 ?_ ?_
        · refine ev_iconst (pc := 76) 0 k_iconst_0 dX12_isGhost_76 ?_
          exact ev_zret (pc := 77) rfl dX12_isGhost_77
        · refine ev_iconst (pc := 72) 1 k_iconst_1 dX12_isGhost_72 ?_
          refine ev_goto (pc := 73) 77 (by decide) dX12_isGhost_73 ?_
          exact ev_zret (pc := 77) rfl dX12_isGhost_77
    · refine ev_aload_n (pc := 14) 0 dX12_isGhost_14 rfl ?_
      refine gf_X12_46 (pc := 15) rfl dX12_isGhost_15 ?_
      refine ev_bipush (pc := 18) 8 k_bipush_8 dX12_isGhost_18 ?_
      refine ev_iload_n (pc := 20) 1 dX12_isGhost_20 rfl ?_
      refine ev_imul (pc := 21) dX12_isGhost_21 ?_
      refine ev_iload (pc := 22) 5 dX12_isGhost_22 rfl ?_
      refine ev_iadd (pc := 24) dX12_isGhost_24 ?_
      refine ev_iald (pc := 25) kK_51 dX12_isGhost_25 ?_
      refine ev_nmI (fun x1 => ?_)
      refine ev_istore (pc := 26) (lv' := [(6, .int x1), (0, .ref 12), (1, .int v1), (2, .int v2), (3, .int v3), (4, .int v4), (5, .int v5)]) dX12_isGhost_26 rfl rfl ?_
      refine ev_iload (pc := 28) 5 dX12_isGhost_28 rfl ?_
      refine ev_iload (pc := 30) 0 dX12_isGhost_30 rfl ?_
      refine ev_irem (pc := 32) dX12_isGhost_32 ?_
      refine ev_iload_n (pc := 33) 3 dX12_isGhost_33 rfl ?_
      refine ev_iload (pc := 34) 0 dX12_isGhost_34 rfl ?_
      refine ev_irem (pc := 36) dX12_isGhost_36 ?_
      refine ev_icmp_eq (pc := 37) 54 (by decide) dX12_isGhost_37 ?_ ?_
      · refine ev_iinc (pc := 54) (lv' := [(5, .int (v5 + 1)), (6, .int x1), (0, .ref 12), (1, .int v1), (2, .int v2), (3, .int v3), (4, .int v4)]) dX12_isGhost_54 6 rfl rfl 1 k_iconst_1 rfl ?_
        refine ev_goto (pc := 57) 3 (by decide) dX12_isGhost_57 ?_
        refine EvW.sub [2, 3, 4, 5, 6, 0] rfl ?_
        exact hr_3 v1 v2 v3 v4 (v5 + 1) I L
      · refine ev_iload (pc := 40) 5 dX12_isGhost_40 rfl ?_
        refine ev_iload (pc := 42) 0 dX12_isGhost_42 rfl ?_
        refine ev_irem (pc := 44) dX12_isGhost_44 ?_
        refine ev_iload_n (pc := 45) 4 dX12_isGhost_45 rfl ?_
        refine ev_iload (pc := 46) 0 dX12_isGhost_46 rfl ?_
        refine ev_irem (pc := 48) dX12_isGhost_48 ?_
        refine ev_icmp_eq (pc := 49) 54 (by decide) dX12_isGhost_49 ?_ ?_
        · refine ev_iinc (pc := 54) (lv' := [(5, .int (v5 + 1)), (6, .int x1), (0, .ref 12), (1, .int v1), (2, .int v2), (3, .int v3), (4, .int v4)]) dX12_isGhost_54 6 rfl rfl 1 k_iconst_1 rfl ?_
          refine ev_goto (pc := 57) 3 (by decide) dX12_isGhost_57 ?_
          refine EvW.sub [2, 3, 4, 5, 6, 0] rfl ?_
          exact hr_3 v1 v2 v3 v4 (v5 + 1) I L
        · refine ev_iconst (pc := 52) 0 k_iconst_0 dX12_isGhost_52 ?_
          exact ev_zret (pc := 53) rfl dX12_isGhost_53
def f_X12_isGhost (N : Nat) (a1 : Int32) (a2 : Int32) (a3 : Int32) (a4 : Int32) (I : PI) (L : PL) : RES := F_X12_isGhost_3 N N a1 a2 a3 a4 0 I L
set_option maxRecDepth 100000 in
theorem ok_X12_isGhost (N d : Nat) (a1 : Int32) (a2 : Int32) (a3 : Int32) (a4 : Int32) (I : PI) (L : PL) : MOk M_X12_isGhost (d) [.ref 12, .int a1, .int a2, .int a3, .int a4] I L (f_X12_isGhost N a1 a2 a3 a4 I L) := by
  refine MOk.of (by decide +kernel) (Nat.le_of_ble_eq_true rfl) ?_
  show EvW _ _ 0 [(0, .ref 12), (1, .int a1), (2, .int a2), (3, .int a3), (4, .int a4)] [] I L _
  rw [f_X12_isGhost]
  refine ev_iconst (pc := 0) 0 k_iconst_0 dX12_isGhost_0 ?_
  refine ev_istore (pc := 1) (lv' := [(5, .int 0), (0, .ref 12), (1, .int a1), (2, .int a2), (3, .int a3), (4, .int a4)]) dX12_isGhost_1 rfl rfl ?_
  refine EvW.sub [1, 2, 3, 4, 5, 0] rfl ?_
  exact E_X12_isGhost_3 N d N a1 a2 a3 a4 0 I L
def F_X12_ghosts_50 (N : Nat) : Nat → Int32 → Int32 → Int32 → Int32 → Int32 → Int32 → PI → PL → RES
  | 0, _, _, _, _, _, _, _, _ => none
  | n + 1, v1, v2, v3, v4, v5, v6, I, L => (if v4 < v6 then some (some (.int v5), I, L) else bI (f_X12_isGhost N v1 v2 v3 v6 I L) (fun x13 I14 L15 => (if x13 = 0 then nmI (v5 + 0) (fun x16 => (F_X12_ghosts_50 N n) v1 v2 v3 v4 x16 (v6 + 1) I14 L15) else nmI (v5 + 1) (fun x17 => (F_X12_ghosts_50 N n) v1 v2 v3 v4 x17 (v6 + 1) I14 L15))))
set_option maxRecDepth 100000 in
theorem E_X12_ghosts_50 (N d : Nat) : ∀ (n : Nat) (v1 : Int32) (v2 : Int32) (v3 : Int32) (v4 : Int32) (v5 : Int32) (v6 : Int32) (I : PI) (L : PL), EvW M_X12_ghosts (d + 2) 50 [(0, .ref 12), (1, .int v1), (2, .int v2), (3, .int v3), (4, .int v4), (5, .int v5), (6, .int v6)] [] I L (F_X12_ghosts_50 N n v1 v2 v3 v4 v5 v6 I L) := by
  intro n
  induction n with
  | zero =>
    intro v1 v2 v3 v4 v5 v6 I L
    exact EvW.none
  | succ n hr_50 =>
    intro v1 v2 v3 v4 v5 v6 I L
    rw [F_X12_ghosts_50]
    refine ev_iload (pc := 50) 6 dX12_ghosts_50 rfl ?_
    refine ev_iload (pc := 52) 4 dX12_ghosts_52 rfl ?_
    refine ev_icmp_gt (pc := 54) 85 (by decide) dX12_ghosts_54 ?_ ?_
    · refine ev_iload (pc := 85) 5 dX12_ghosts_85 rfl ?_
      exact ev_iret (pc := 87) rfl dX12_ghosts_87
    · refine ev_iload (pc := 57) 5 dX12_ghosts_57 rfl ?_
      refine ev_aload_n (pc := 59) 0 dX12_ghosts_59 rfl ?_
      refine ev_iload_n (pc := 60) 1 dX12_ghosts_60 rfl ?_
      refine ev_iload_n (pc := 61) 2 dX12_ghosts_61 rfl ?_
      refine ev_iload_n (pc := 62) 3 dX12_ghosts_62 rfl ?_
      refine ev_iload (pc := 63) 6 dX12_ghosts_63 rfl ?_
      refine ev_callVI (pc := 65) (d := d + 1) (As := [.int v1, .int v2, .int v3, .int v6]) (st := [.int v5]) cv_X12_isGhost rfl w_904 rfl (Nat.le_of_ble_eq_true rfl) (ok_X12_isGhost N (d + 1) v1 v2 v3 v6 I L) dX12_ghosts_65 (fun x13 I14 L15 => ?_)
      refine ev_if_eq (pc := 68) 75 (by decide) dX12_ghosts_68 ?_ ?_
      · refine ev_iconst (pc := 75) 0 k_iconst_0 dX12_ghosts_75 ?_
        refine ev_iadd (pc := 76) dX12_ghosts_76 ?_
        refine ev_nmI (fun x16 => ?_)
        refine ev_istore (pc := 77) (lv' := [(5, .int x16), (0, .ref 12), (1, .int v1), (2, .int v2), (3, .int v3), (4, .int v4), (6, .int v6)]) dX12_ghosts_77 rfl rfl ?_
        refine ev_iinc (pc := 79) (lv' := [(6, .int (v6 + 1)), (5, .int x16), (0, .ref 12), (1, .int v1), (2, .int v2), (3, .int v3), (4, .int v4)]) dX12_ghosts_79 6 rfl rfl 1 k_iconst_1 rfl ?_
        refine ev_goto (pc := 82) 50 (by decide) dX12_ghosts_82 ?_
        refine EvW.sub [2, 3, 4, 5, 6, 1, 0] rfl ?_
        exact hr_50 v1 v2 v3 v4 x16 (v6 + 1) I14 L15
      · refine ev_iconst (pc := 71) 1 k_iconst_1 dX12_ghosts_71 ?_
        refine ev_goto (pc := 72) 76 (by decide) dX12_ghosts_72 ?_
        refine ev_iadd (pc := 76) dX12_ghosts_76 ?_
        refine ev_nmI (fun x17 => ?_)
        refine ev_istore (pc := 77) (lv' := [(5, .int x17), (0, .ref 12), (1, .int v1), (2, .int v2), (3, .int v3), (4, .int v4), (6, .int v6)]) dX12_ghosts_77 rfl rfl ?_
        refine ev_iinc (pc := 79) (lv' := [(6, .int (v6 + 1)), (5, .int x17), (0, .ref 12), (1, .int v1), (2, .int v2), (3, .int v3), (4, .int v4)]) dX12_ghosts_79 6 rfl rfl 1 k_iconst_1 rfl ?_
        refine ev_goto (pc := 82) 50 (by decide) dX12_ghosts_82 ?_
        refine EvW.sub [2, 3, 4, 5, 6, 1, 0] rfl ?_
        exact hr_50 v1 v2 v3 v4 x17 (v6 + 1) I14 L15
def f_X12_ghosts (N : Nat) (a1 : Int32) (a2 : Int32) (a3 : Int32) (a4 : Int32) (I : PI) (L : PL) : RES := bI (f_X12_isSet N a1 I L) (fun x1 I2 L3 => (if x1 = 0 then some (some (.int (-1 : Int32)), I2, L3) else bI (f_X12_in N a2 0 999 I2 L3) (fun x4 I5 L6 => (if x4 = 0 then some (some (.int (-1 : Int32)), I5, L6) else bI (f_X12_in N a3 0 999 I5 L6) (fun x7 I8 L9 => (if x7 = 0 then some (some (.int (-1 : Int32)), I8, L9) else bI (f_X12_in N a4 0 999 I8 L9) (fun x10 I11 L12 => (if x10 = 0 then some (some (.int (-1 : Int32)), I11, L12) else F_X12_ghosts_50 N N a1 a2 a3 a4 0 0 I11 L12))))))))
set_option maxRecDepth 100000 in
theorem ok_X12_ghosts (N d : Nat) (a1 : Int32) (a2 : Int32) (a3 : Int32) (a4 : Int32) (I : PI) (L : PL) : MOk M_X12_ghosts (d + 2) [.ref 12, .int a1, .int a2, .int a3, .int a4] I L (f_X12_ghosts N a1 a2 a3 a4 I L) := by
  refine MOk.of (by decide +kernel) (Nat.le_of_ble_eq_true rfl) ?_
  show EvW _ _ 0 [(0, .ref 12), (1, .int a1), (2, .int a2), (3, .int a3), (4, .int a4)] [] I L _
  rw [f_X12_ghosts]
  refine ev_aload_n (pc := 0) 0 dX12_ghosts_0 rfl ?_
  refine ev_iload_n (pc := 1) 1 dX12_ghosts_1 rfl ?_
  refine ev_callVI (pc := 2) (d := d + 1) (As := [.int a1]) (st := []) cv_X12_isSet rfl w_806 rfl (Nat.le_of_ble_eq_true rfl) (ok_X12_isSet N (d) a1 I L) dX12_ghosts_2 (fun x1 I2 L3 => ?_)
  refine ev_if_eq (pc := 5) 42 (by decide) dX12_ghosts_5 ?_ ?_
  · refine ev_iconst (pc := 42) (-1 : Int32) k_iconst_m1 dX12_ghosts_42 ?_
    exact ev_iret (pc := 43) rfl dX12_ghosts_43
  · refine ev_iload_n (pc := 8) 2 dX12_ghosts_8 rfl ?_
    refine ev_iconst (pc := 9) 0 k_iconst_0 dX12_ghosts_9 ?_
    refine ev_sipush (pc := 10) 999 k_sipush_999 dX12_ghosts_10 ?_
    refine ev_callSI (pc := 13) (d := d + 1) (As := [.int a2, .int 0, .int 999]) (st := []) cv_X12_in rfl w_790 rfl (Nat.le_of_ble_eq_true rfl) (ok_X12_in N (d + 1) a2 0 999 I2 L3) dX12_ghosts_13 (fun x4 I5 L6 => ?_)
    refine ev_if_eq (pc := 16) 42 (by decide) dX12_ghosts_16 ?_ ?_
    · refine ev_iconst (pc := 42) (-1 : Int32) k_iconst_m1 dX12_ghosts_42 ?_
      exact ev_iret (pc := 43) rfl dX12_ghosts_43
    · refine ev_iload_n (pc := 19) 3 dX12_ghosts_19 rfl ?_
      refine ev_iconst (pc := 20) 0 k_iconst_0 dX12_ghosts_20 ?_
      refine ev_sipush (pc := 21) 999 k_sipush_999 dX12_ghosts_21 ?_
      refine ev_callSI (pc := 24) (d := d + 1) (As := [.int a3, .int 0, .int 999]) (st := []) cv_X12_in rfl w_790 rfl (Nat.le_of_ble_eq_true rfl) (ok_X12_in N (d + 1) a3 0 999 I5 L6) dX12_ghosts_24 (fun x7 I8 L9 => ?_)
      refine ev_if_eq (pc := 27) 42 (by decide) dX12_ghosts_27 ?_ ?_
      · refine ev_iconst (pc := 42) (-1 : Int32) k_iconst_m1 dX12_ghosts_42 ?_
        exact ev_iret (pc := 43) rfl dX12_ghosts_43
      · refine ev_iload (pc := 30) 4 dX12_ghosts_30 rfl ?_
        refine ev_iconst (pc := 32) 0 k_iconst_0 dX12_ghosts_32 ?_
        refine ev_sipush (pc := 33) 999 k_sipush_999 dX12_ghosts_33 ?_
        refine ev_callSI (pc := 36) (d := d + 1) (As := [.int a4, .int 0, .int 999]) (st := []) cv_X12_in rfl w_790 rfl (Nat.le_of_ble_eq_true rfl) (ok_X12_in N (d + 1) a4 0 999 I8 L9) dX12_ghosts_36 (fun x10 I11 L12 => ?_)
        refine ev_if_ne (pc := 39) 44 (by decide) dX12_ghosts_39 ?_ ?_
        · refine ev_iconst (pc := 44) 0 k_iconst_0 dX12_ghosts_44 ?_
          refine ev_istore (pc := 45) (lv' := [(5, .int 0), (0, .ref 12), (1, .int a1), (2, .int a2), (3, .int a3), (4, .int a4)]) dX12_ghosts_45 rfl rfl ?_
          refine ev_iconst (pc := 47) 0 k_iconst_0 dX12_ghosts_47 ?_
          refine ev_istore (pc := 48) (lv' := [(6, .int 0), (5, .int 0), (0, .ref 12), (1, .int a1), (2, .int a2), (3, .int a3), (4, .int a4)]) dX12_ghosts_48 rfl rfl ?_
          refine EvW.sub [2, 3, 4, 5, 6, 1, 0] rfl ?_
          exact E_X12_ghosts_50 N d N a1 a2 a3 a4 0 0 I11 L12
        · refine ev_iconst (pc := 42) (-1 : Int32) k_iconst_m1 dX12_ghosts_42 ?_
          exact ev_iret (pc := 43) rfl dX12_ghosts_43
def f_X12_isLevel (N : Nat) (a1 : Int32) (I : PI) (L : PL) : RES := bI (f_X12_in N a1 0 999 I L) (fun x1 I2 L3 => gd (decide (x1 &&& 1 = x1)) (some (some (.int x1), I2, L3)))
set_option maxRecDepth 100000 in
theorem ok_X12_isLevel (N d : Nat) (a1 : Int32) (I : PI) (L : PL) : MOk M_X12_isLevel (d + 1) [.int a1] I L (f_X12_isLevel N a1 I L) := by
  refine MOk.of (by decide +kernel) (Nat.le_of_ble_eq_true rfl) ?_
  show EvW _ _ 0 [(0, .int a1)] [] I L _
  rw [f_X12_isLevel]
  refine ev_iload_n (pc := 0) 0 dX12_isLevel_0 rfl ?_
  refine ev_iconst (pc := 1) 0 k_iconst_0 dX12_isLevel_1 ?_
  refine ev_sipush (pc := 2) 999 k_sipush_999 dX12_isLevel_2 ?_
  refine ev_callSI (pc := 5) (d := d) (As := [.int a1, .int 0, .int 999]) (st := []) cv_X12_in rfl w_790 rfl (Nat.le_of_ble_eq_true rfl) (ok_X12_in N (d) a1 0 999 I L) dX12_isLevel_5 (fun x1 I2 L3 => ?_)
  exact ev_zret (pc := 8) rfl dX12_isLevel_8
def F_X12_copy_r55_r56_3 (N : Nat) : Nat → Int32 → Int32 → Int32 → PI → PL → RES
  | 0, _, _, _, _, _ => none
  | n + 1, v1, v3, v4, I, L => (if 41 ≤ v4 then some (none, I, L) else gd (inb (v1 + v4) 41) (gd (inb (v3 + v4) 1230) (nmW (uI I 56 (Int32.toNatClampNeg (v3 + v4)) (I 55 (Int32.toNatClampNeg (v1 + v4)))) (fun I1 => (F_X12_copy_r55_r56_3 N n) v1 v3 (v4 + 1) I1 L))))
set_option maxRecDepth 100000 in
theorem E_X12_copy_r55_r56_3 (N d : Nat) : ∀ (n : Nat) (v1 : Int32) (v3 : Int32) (v4 : Int32) (I : PI) (L : PL), EvW M_X12_copy (d) 3 [(0, .ref 55), (1, .int v1), (2, .ref 56), (3, .int v3), (4, .int v4)] [] I L (F_X12_copy_r55_r56_3 N n v1 v3 v4 I L) := by
  intro n
  induction n with
  | zero =>
    intro v1 v3 v4 I L
    exact EvW.none
  | succ n hr_3 =>
    intro v1 v3 v4 I L
    rw [F_X12_copy_r55_r56_3]
    refine ev_iload (pc := 3) 4 dX12_copy_3 rfl ?_
    refine ev_bipush (pc := 5) 41 k_bipush_41 dX12_copy_5 ?_
    refine ev_icmp_ge (pc := 7) 28 (by decide) dX12_copy_7 ?_ ?_
    · exact ev_vret (pc := 28) rfl dX12_copy_28
    · refine ev_aload_n (pc := 10) 2 dX12_copy_10 rfl ?_
      refine ev_iload_n (pc := 11) 3 dX12_copy_11 rfl ?_
      refine ev_iload (pc := 12) 4 dX12_copy_12 rfl ?_
      refine ev_iadd (pc := 14) dX12_copy_14 ?_
      refine ev_aload_n (pc := 15) 0 dX12_copy_15 rfl ?_
      refine ev_iload_n (pc := 16) 1 dX12_copy_16 rfl ?_
      refine ev_iload (pc := 17) 4 dX12_copy_17 rfl ?_
      refine ev_iadd (pc := 19) dX12_copy_19 ?_
      refine ev_iald (pc := 20) kK_55 dX12_copy_20 ?_
      refine ev_iast (pc := 21) kK_56 dX12_copy_21 ?_
      refine ev_nmW (fun I1 => ?_)
      refine ev_iinc (pc := 22) (lv' := [(4, .int (v4 + 1)), (0, .ref 55), (1, .int v1), (2, .ref 56), (3, .int v3)]) dX12_copy_22 4 rfl rfl 1 k_iconst_1 rfl ?_
      refine ev_goto (pc := 25) 3 (by decide) dX12_copy_25 ?_
      refine EvW.sub [1, 2, 3, 4, 0] rfl ?_
      exact hr_3 v1 v3 (v4 + 1) I1 L
def f_X12_copy_r55_r56 (N : Nat) (a1 : Int32) (a2 : Int32) (I : PI) (L : PL) : RES := F_X12_copy_r55_r56_3 N N a1 a2 0 I L
set_option maxRecDepth 100000 in
theorem ok_X12_copy_r55_r56 (N d : Nat) (a1 : Int32) (a2 : Int32) (I : PI) (L : PL) : MOk M_X12_copy (d) [.ref 55, .int a1, .ref 56, .int a2] I L (f_X12_copy_r55_r56 N a1 a2 I L) := by
  refine MOk.of (by decide +kernel) (Nat.le_of_ble_eq_true rfl) ?_
  show EvW _ _ 0 [(0, .ref 55), (1, .int a1), (2, .ref 56), (3, .int a2)] [] I L _
  rw [f_X12_copy_r55_r56]
  refine ev_iconst (pc := 0) 0 k_iconst_0 dX12_copy_0 ?_
  refine ev_istore (pc := 1) (lv' := [(4, .int 0), (0, .ref 55), (1, .int a1), (2, .ref 56), (3, .int a2)]) dX12_copy_1 rfl rfl ?_
  refine EvW.sub [1, 2, 3, 4, 0] rfl ?_
  exact E_X12_copy_r55_r56_3 N d N a1 a2 0 I L
def F_X12_copy_r56_r56_3 (N : Nat) : Nat → Int32 → Int32 → Int32 → PI → PL → RES
  | 0, _, _, _, _, _ => none
  | n + 1, v1, v3, v4, I, L => (if 41 ≤ v4 then some (none, I, L) else gd (inb (v1 + v4) 1230) (gd (inb (v3 + v4) 1230) (nmW (uI I 56 (Int32.toNatClampNeg (v3 + v4)) (I 56 (Int32.toNatClampNeg (v1 + v4)))) (fun I1 => (F_X12_copy_r56_r56_3 N n) v1 v3 (v4 + 1) I1 L))))
set_option maxRecDepth 100000 in
theorem E_X12_copy_r56_r56_3 (N d : Nat) : ∀ (n : Nat) (v1 : Int32) (v3 : Int32) (v4 : Int32) (I : PI) (L : PL), EvW M_X12_copy (d) 3 [(0, .ref 56), (1, .int v1), (2, .ref 56), (3, .int v3), (4, .int v4)] [] I L (F_X12_copy_r56_r56_3 N n v1 v3 v4 I L) := by
  intro n
  induction n with
  | zero =>
    intro v1 v3 v4 I L
    exact EvW.none
  | succ n hr_3 =>
    intro v1 v3 v4 I L
    rw [F_X12_copy_r56_r56_3]
    refine ev_iload (pc := 3) 4 dX12_copy_3 rfl ?_
    refine ev_bipush (pc := 5) 41 k_bipush_41 dX12_copy_5 ?_
    refine ev_icmp_ge (pc := 7) 28 (by decide) dX12_copy_7 ?_ ?_
    · exact ev_vret (pc := 28) rfl dX12_copy_28
    · refine ev_aload_n (pc := 10) 2 dX12_copy_10 rfl ?_
      refine ev_iload_n (pc := 11) 3 dX12_copy_11 rfl ?_
      refine ev_iload (pc := 12) 4 dX12_copy_12 rfl ?_
      refine ev_iadd (pc := 14) dX12_copy_14 ?_
      refine ev_aload_n (pc := 15) 0 dX12_copy_15 rfl ?_
      refine ev_iload_n (pc := 16) 1 dX12_copy_16 rfl ?_
      refine ev_iload (pc := 17) 4 dX12_copy_17 rfl ?_
      refine ev_iadd (pc := 19) dX12_copy_19 ?_
      refine ev_iald (pc := 20) kK_56 dX12_copy_20 ?_
      refine ev_iast (pc := 21) kK_56 dX12_copy_21 ?_
      refine ev_nmW (fun I1 => ?_)
      refine ev_iinc (pc := 22) (lv' := [(4, .int (v4 + 1)), (0, .ref 56), (1, .int v1), (2, .ref 56), (3, .int v3)]) dX12_copy_22 4 rfl rfl 1 k_iconst_1 rfl ?_
      refine ev_goto (pc := 25) 3 (by decide) dX12_copy_25 ?_
      refine EvW.sub [1, 2, 3, 4, 0] rfl ?_
      exact hr_3 v1 v3 (v4 + 1) I1 L
def f_X12_copy_r56_r56 (N : Nat) (a1 : Int32) (a2 : Int32) (I : PI) (L : PL) : RES := F_X12_copy_r56_r56_3 N N a1 a2 0 I L
set_option maxRecDepth 100000 in
theorem ok_X12_copy_r56_r56 (N d : Nat) (a1 : Int32) (a2 : Int32) (I : PI) (L : PL) : MOk M_X12_copy (d) [.ref 56, .int a1, .ref 56, .int a2] I L (f_X12_copy_r56_r56 N a1 a2 I L) := by
  refine MOk.of (by decide +kernel) (Nat.le_of_ble_eq_true rfl) ?_
  show EvW _ _ 0 [(0, .ref 56), (1, .int a1), (2, .ref 56), (3, .int a2)] [] I L _
  rw [f_X12_copy_r56_r56]
  refine ev_iconst (pc := 0) 0 k_iconst_0 dX12_copy_0 ?_
  refine ev_istore (pc := 1) (lv' := [(4, .int 0), (0, .ref 56), (1, .int a1), (2, .ref 56), (3, .int a2)]) dX12_copy_1 rfl rfl ?_
  refine EvW.sub [1, 2, 3, 4, 0] rfl ?_
  exact E_X12_copy_r56_r56_3 N d N a1 a2 0 I L
def F_X12_putBy_54 (N : Nat) (I : PI) (L : PL) : RES := bV (f_X12_copy_r55_r56 N 0 (41 * (I 12 43)) I L) (fun I2 L3 => nmW (uI I2 12 43 ((I2 12 43) + 1)) (fun I4 => some (none, I4, L3)))
set_option maxRecDepth 100000 in
theorem E_X12_putBy_54 (N d : Nat) (I : PI) (L : PL) : EvW M_X12_putBy (d + 1) 54 [(0, .ref 12)] [] I L (F_X12_putBy_54 N I L) := by
  rw [F_X12_putBy_54]
  refine ev_aload_n (pc := 54) 0 dX12_putBy_54 rfl ?_
  refine gf_X12_77 (pc := 55) rfl dX12_putBy_55 ?_
  refine ev_iconst (pc := 58) 0 k_iconst_0 dX12_putBy_58 ?_
  refine ev_aload_n (pc := 59) 0 dX12_putBy_59 rfl ?_
  refine gf_X12_80 (pc := 60) rfl dX12_putBy_60 ?_
  refine ev_bipush (pc := 63) 41 k_bipush_41 dX12_putBy_63 ?_
  refine ev_aload_n (pc := 65) 0 dX12_putBy_65 rfl ?_
  refine gf_X12_339 (pc := 66) rfl dX12_putBy_66 ?_
  refine ev_imul (pc := 69) dX12_putBy_69 ?_
  refine ev_callSV (pc := 70) (d := d) (As := [.ref 55, .int 0, .ref 56, .int (41 * (I 12 43))]) (st := []) cv_X12_copy rfl w_913 rfl (Nat.le_of_ble_eq_true rfl) (ok_X12_copy_r55_r56 N (d) 0 (41 * (I 12 43)) I L) dX12_putBy_70 (fun I2 L3 => ?_)
  refine ev_aload_n (pc := 73) 0 dX12_putBy_73 rfl ?_
  refine ev_dup (pc := 74) rfl dX12_putBy_74 ?_
  refine gf_X12_339 (pc := 75) rfl dX12_putBy_75 ?_
  refine ev_iconst (pc := 78) 1 k_iconst_1 dX12_putBy_78 ?_
  refine ev_iadd (pc := 79) dX12_putBy_79 ?_
  refine pf_X12_339 (pc := 80) rfl dX12_putBy_80 ?_
  refine ev_nmW (fun I4 => ?_)
  exact ev_vret (pc := 83) rfl dX12_putBy_83
def F_X12_putBy_11 (N : Nat) : Nat → Int32 → PI → PL → RES
  | 0, _, _, _ => none
  | n + 1, v1, I, L => (if 29 ≤ v1 then nmW (uI I 12 43 ((I 12 43) - 1)) (fun I5 => F_X12_putBy_54 N I5 L) else bV (f_X12_copy_r56_r56 N (41 * (v1 + 1)) (41 * v1) I L) (fun I7 L8 => (F_X12_putBy_11 N n) (v1 + 1) I7 L8))
set_option maxRecDepth 100000 in
theorem E_X12_putBy_11 (N d : Nat) : ∀ (n : Nat) (v1 : Int32) (I : PI) (L : PL), EvW M_X12_putBy (d + 1) 11 [(0, .ref 12), (1, .int v1)] [] I L (F_X12_putBy_11 N n v1 I L) := by
  intro n
  induction n with
  | zero =>
    intro v1 I L
    exact EvW.none
  | succ n hr_11 =>
    intro v1 I L
    rw [F_X12_putBy_11]
    refine ev_iload_n (pc := 11) 1 dX12_putBy_11 rfl ?_
    refine ev_bipush (pc := 12) 29 k_bipush_29 dX12_putBy_12 ?_
    refine ev_icmp_ge (pc := 14) 44 (by decide) dX12_putBy_14 ?_ ?_
    · refine ev_aload_n (pc := 44) 0 dX12_putBy_44 rfl ?_
      refine ev_dup (pc := 45) rfl dX12_putBy_45 ?_
      refine gf_X12_339 (pc := 46) rfl dX12_putBy_46 ?_
      refine ev_iconst (pc := 49) 1 k_iconst_1 dX12_putBy_49 ?_
      refine ev_isub (pc := 50) dX12_putBy_50 ?_
      refine pf_X12_339 (pc := 51) rfl dX12_putBy_51 ?_
      refine ev_nmW (fun I5 => ?_)
      refine EvW.sub [0] rfl ?_
      exact E_X12_putBy_54 N d I5 L
    · refine ev_aload_n (pc := 17) 0 dX12_putBy_17 rfl ?_
      refine gf_X12_80 (pc := 18) rfl dX12_putBy_18 ?_
      refine ev_bipush (pc := 21) 41 k_bipush_41 dX12_putBy_21 ?_
      refine ev_iload_n (pc := 23) 1 dX12_putBy_23 rfl ?_
      refine ev_iconst (pc := 24) 1 k_iconst_1 dX12_putBy_24 ?_
      refine ev_iadd (pc := 25) dX12_putBy_25 ?_
      refine ev_imul (pc := 26) dX12_putBy_26 ?_
      refine ev_aload_n (pc := 27) 0 dX12_putBy_27 rfl ?_
      refine gf_X12_80 (pc := 28) rfl dX12_putBy_28 ?_
      refine ev_bipush (pc := 31) 41 k_bipush_41 dX12_putBy_31 ?_
      refine ev_iload_n (pc := 33) 1 dX12_putBy_33 rfl ?_
      refine ev_imul (pc := 34) dX12_putBy_34 ?_
      refine ev_callSV (pc := 35) (d := d) (As := [.ref 56, .int (41 * (v1 + 1)), .ref 56, .int (41 * v1)]) (st := []) cv_X12_copy rfl w_913 rfl (Nat.le_of_ble_eq_true rfl) (ok_X12_copy_r56_r56 N (d) (41 * (v1 + 1)) (41 * v1) I L) dX12_putBy_35 (fun I7 L8 => ?_)
      refine ev_iinc (pc := 38) (lv' := [(1, .int (v1 + 1)), (0, .ref 12)]) dX12_putBy_38 1 rfl rfl 1 k_iconst_1 rfl ?_
      refine ev_goto (pc := 41) 11 (by decide) dX12_putBy_41 ?_
      refine EvW.sub [1, 0] rfl ?_
      exact hr_11 (v1 + 1) I7 L8
def f_X12_putBy (N : Nat) (I : PI) (L : PL) : RES := (if (I 12 43) = 30 then F_X12_putBy_11 N N 0 I L else F_X12_putBy_54 N I L)
set_option maxRecDepth 100000 in
theorem ok_X12_putBy (N d : Nat) (I : PI) (L : PL) : MOk M_X12_putBy (d + 1) [.ref 12] I L (f_X12_putBy N I L) := by
  refine MOk.of (by decide +kernel) (Nat.le_of_ble_eq_true rfl) ?_
  show EvW _ _ 0 [(0, .ref 12)] [] I L _
  rw [f_X12_putBy]
  refine ev_aload_n (pc := 0) 0 dX12_putBy_0 rfl ?_
  refine gf_X12_339 (pc := 1) rfl dX12_putBy_1 ?_
  refine ev_bipush (pc := 4) 30 k_bipush_30 dX12_putBy_4 ?_
  refine ev_icmp_ne (pc := 6) 54 (by decide) dX12_putBy_6 ?_ ?_
  · exact E_X12_putBy_54 N d I L
  · refine ev_iconst (pc := 9) 0 k_iconst_0 dX12_putBy_9 ?_
    refine ev_istore_n (pc := 10) (lv' := [(1, .int 0), (0, .ref 12)]) dX12_putBy_10 rfl rfl rfl ?_
    refine EvW.sub [1, 0] rfl ?_
    exact E_X12_putBy_11 N d N 0 I L
def f_X12_act (N : Nat) (I : PI) (L : PL) : RES := bV (f_X12_putBy N I L) (fun I2 L3 => nmW (uI I2 12 44 0) (fun I4 => some (none, I4, L3)))
set_option maxRecDepth 100000 in
theorem ok_X12_act (N d : Nat) (I : PI) (L : PL) : MOk M_X12_act (d + 2) [.ref 12] I L (f_X12_act N I L) := by
  refine MOk.of (by decide +kernel) (Nat.le_of_ble_eq_true rfl) ?_
  show EvW _ _ 0 [(0, .ref 12)] [] I L _
  rw [f_X12_act]
  refine ev_aload_n (pc := 0) 0 dX12_act_0 rfl ?_
  refine ev_callVV (pc := 1) (d := d + 1) (As := []) (st := []) cv_X12_putBy rfl w_917 rfl (Nat.le_of_ble_eq_true rfl) (ok_X12_putBy N (d) I L) dX12_act_1 (fun I2 L3 => ?_)
  refine ev_aload_n (pc := 4) 0 dX12_act_4 rfl ?_
  refine ev_iconst (pc := 5) 0 k_iconst_0 dX12_act_5 ?_
  refine pf_X12_349 (pc := 6) rfl dX12_act_6 ?_
  refine ev_nmW (fun I4 => ?_)
  exact ev_vret (pc := 9) rfl dX12_act_9
def f_X12_cell (N : Nat) (a1 : Int32) (I : PI) (L : PL) : RES := bI (f_X12_isLevel N a1 I L) (fun x1 I2 L3 => (if x1 = 0 then some (some (.int (-1 : Int32)), I2, L3) else gd (inb 0 41) ((if (I2 55 (Int32.toNatClampNeg 0)) = 40 then some (some (.int (-1 : Int32)), I2, L3) else bV (f_X12_act N I2 L3) (fun I5 L6 => gd (inb 0 41) (gd (inb 0 41) (nmW (uI I5 55 (Int32.toNatClampNeg 0) ((I5 55 (Int32.toNatClampNeg 0)) + 1)) (fun I7 => gd (inb 0 41) (gd (inb (I7 55 (Int32.toNatClampNeg 0)) 41) (nmW (uI I7 55 (Int32.toNatClampNeg (I7 55 (Int32.toNatClampNeg 0))) a1) (fun I8 => gd (inb 0 41) (some (some (.int (I8 55 (Int32.toNatClampNeg 0))), I8, L6)))))))))))))
set_option maxRecDepth 100000 in
theorem ok_X12_cell (N d : Nat) (a1 : Int32) (I : PI) (L : PL) : MOk M_X12_cell (d + 3) [.ref 12, .int a1] I L (f_X12_cell N a1 I L) := by
  refine MOk.of (by decide +kernel) (Nat.le_of_ble_eq_true rfl) ?_
  show EvW _ _ 0 [(0, .ref 12), (1, .int a1)] [] I L _
  rw [f_X12_cell]
  refine ev_iload_n (pc := 0) 1 dX12_cell_0 rfl ?_
  refine ev_callSI (pc := 1) (d := d + 2) (As := [.int a1]) (st := []) cv_X12_isLevel rfl w_907 rfl (Nat.le_of_ble_eq_true rfl) (ok_X12_isLevel N (d + 1) a1 I L) dX12_cell_1 (fun x1 I2 L3 => ?_)
  refine ev_if_eq (pc := 4) 18 (by decide) dX12_cell_4 ?_ ?_
  · refine ev_iconst (pc := 18) (-1 : Int32) k_iconst_m1 dX12_cell_18 ?_
    exact ev_iret (pc := 19) rfl dX12_cell_19
  · refine ev_aload_n (pc := 7) 0 dX12_cell_7 rfl ?_
    refine gf_X12_77 (pc := 8) rfl dX12_cell_8 ?_
    refine ev_iconst (pc := 11) 0 k_iconst_0 dX12_cell_11 ?_
    refine ev_iald (pc := 12) kK_55 dX12_cell_12 ?_
    refine ev_bipush (pc := 13) 40 k_bipush_40 dX12_cell_13 ?_
    refine ev_icmp_ne (pc := 15) 20 (by decide) dX12_cell_15 ?_ ?_
    · refine ev_aload_n (pc := 20) 0 dX12_cell_20 rfl ?_
      refine ev_callVV (pc := 21) (d := d + 2) (As := []) (st := []) cv_X12_act rfl w_922 rfl (Nat.le_of_ble_eq_true rfl) (ok_X12_act N (d) I2 L3) dX12_cell_21 (fun I5 L6 => ?_)
      refine ev_aload_n (pc := 24) 0 dX12_cell_24 rfl ?_
      refine gf_X12_77 (pc := 25) rfl dX12_cell_25 ?_
      refine ev_iconst (pc := 28) 0 k_iconst_0 dX12_cell_28 ?_
      refine ev_dup2 (pc := 29) rfl rfl dX12_cell_29 ?_
      refine ev_iald (pc := 30) kK_55 dX12_cell_30 ?_
      refine ev_iconst (pc := 31) 1 k_iconst_1 dX12_cell_31 ?_
      refine ev_iadd (pc := 32) dX12_cell_32 ?_
      refine ev_iast (pc := 33) kK_55 dX12_cell_33 ?_
      refine ev_nmW (fun I7 => ?_)
      refine ev_aload_n (pc := 34) 0 dX12_cell_34 rfl ?_
      refine gf_X12_77 (pc := 35) rfl dX12_cell_35 ?_
      refine ev_aload_n (pc := 38) 0 dX12_cell_38 rfl ?_
      refine gf_X12_77 (pc := 39) rfl dX12_cell_39 ?_
      refine ev_iconst (pc := 42) 0 k_iconst_0 dX12_cell_42 ?_
      refine ev_iald (pc := 43) kK_55 dX12_cell_43 ?_
      refine ev_iload_n (pc := 44) 1 dX12_cell_44 rfl ?_
      refine ev_iast (pc := 45) kK_55 dX12_cell_45 ?_
      refine ev_nmW (fun I8 => ?_)
      refine ev_aload_n (pc := 46) 0 dX12_cell_46 rfl ?_
      refine gf_X12_77 (pc := 47) rfl dX12_cell_47 ?_
      refine ev_iconst (pc := 50) 0 k_iconst_0 dX12_cell_50 ?_
      refine ev_iald (pc := 51) kK_55 dX12_cell_51 ?_
      exact ev_iret (pc := 52) rfl dX12_cell_52
    · refine ev_iconst (pc := 18) (-1 : Int32) k_iconst_m1 dX12_cell_18 ?_
      exact ev_iret (pc := 19) rfl dX12_cell_19
def f_X12_isCell (N : Nat) (a1 : Int32) (I : PI) (L : PL) : RES := gd (inb 0 41) (bI (f_X12_in N a1 0 ((I 55 (Int32.toNatClampNeg 0)) - 1) I L) (fun x1 I2 L3 => gd (decide (x1 &&& 1 = x1)) (some (some (.int x1), I2, L3))))
set_option maxRecDepth 100000 in
theorem ok_X12_isCell (N d : Nat) (a1 : Int32) (I : PI) (L : PL) : MOk M_X12_isCell (d + 1) [.ref 12, .int a1] I L (f_X12_isCell N a1 I L) := by
  refine MOk.of (by decide +kernel) (Nat.le_of_ble_eq_true rfl) ?_
  show EvW _ _ 0 [(0, .ref 12), (1, .int a1)] [] I L _
  rw [f_X12_isCell]
  refine ev_iload_n (pc := 0) 1 dX12_isCell_0 rfl ?_
  refine ev_iconst (pc := 1) 0 k_iconst_0 dX12_isCell_1 ?_
  refine ev_aload_n (pc := 2) 0 dX12_isCell_2 rfl ?_
  refine gf_X12_77 (pc := 3) rfl dX12_isCell_3 ?_
  refine ev_iconst (pc := 6) 0 k_iconst_0 dX12_isCell_6 ?_
  refine ev_iald (pc := 7) kK_55 dX12_isCell_7 ?_
  refine ev_iconst (pc := 8) 1 k_iconst_1 dX12_isCell_8 ?_
  refine ev_isub (pc := 9) dX12_isCell_9 ?_
  refine ev_callSI (pc := 10) (d := d) (As := [.int a1, .int 0, .int ((I 55 (Int32.toNatClampNeg 0)) - 1)]) (st := []) cv_X12_in rfl w_790 rfl (Nat.le_of_ble_eq_true rfl) (ok_X12_in N (d) a1 0 ((I 55 (Int32.toNatClampNeg 0)) - 1) I L) dX12_isCell_10 (fun x1 I2 L3 => ?_)
  exact ev_zret (pc := 13) rfl dX12_isCell_13
def f_X12_change (N : Nat) (a1 : Int32) (a2 : Int32) (I : PI) (L : PL) : RES := bI (f_X12_isCell N a1 I L) (fun x1 I2 L3 => (if x1 = 0 then gd (decide (0 &&& 1 = 0)) (some (some (.int 0), I2, L3)) else bI (f_X12_isLevel N a2 I2 L3) (fun x4 I5 L6 => (if x4 = 0 then gd (decide (0 &&& 1 = 0)) (some (some (.int 0), I5, L6)) else bV (f_X12_act N I5 L6) (fun I8 L9 => gd (inb (a1 + 1) 41) (nmW (uI I8 55 (Int32.toNatClampNeg (a1 + 1)) a2) (fun I10 => gd (decide (1 &&& 1 = 1)) (some (some (.int 1), I10, L9)))))))))
set_option maxRecDepth 100000 in
theorem ok_X12_change (N d : Nat) (a1 : Int32) (a2 : Int32) (I : PI) (L : PL) : MOk M_X12_change (d + 3) [.ref 12, .int a1, .int a2] I L (f_X12_change N a1 a2 I L) := by
  refine MOk.of (by decide +kernel) (Nat.le_of_ble_eq_true rfl) ?_
  show EvW _ _ 0 [(0, .ref 12), (1, .int a1), (2, .int a2)] [] I L _
  rw [f_X12_change]
  refine ev_aload_n (pc := 0) 0 dX12_change_0 rfl ?_
  refine ev_iload_n (pc := 1) 1 dX12_change_1 rfl ?_
  refine ev_callVI (pc := 2) (d := d + 2) (As := [.int a1]) (st := []) cv_X12_isCell rfl w_926 rfl (Nat.le_of_ble_eq_true rfl) (ok_X12_isCell N (d + 1) a1 I L) dX12_change_2 (fun x1 I2 L3 => ?_)
  refine ev_if_eq (pc := 5) 15 (by decide) dX12_change_5 ?_ ?_
  · refine ev_iconst (pc := 15) 0 k_iconst_0 dX12_change_15 ?_
    exact ev_zret (pc := 16) rfl dX12_change_16
  · refine ev_iload_n (pc := 8) 2 dX12_change_8 rfl ?_
    refine ev_callSI (pc := 9) (d := d + 2) (As := [.int a2]) (st := []) cv_X12_isLevel rfl w_907 rfl (Nat.le_of_ble_eq_true rfl) (ok_X12_isLevel N (d + 1) a2 I2 L3) dX12_change_9 (fun x4 I5 L6 => ?_)
    refine ev_if_ne (pc := 12) 17 (by decide) dX12_change_12 ?_ ?_
    · refine ev_aload_n (pc := 17) 0 dX12_change_17 rfl ?_
      refine ev_callVV (pc := 18) (d := d + 2) (As := []) (st := []) cv_X12_act rfl w_922 rfl (Nat.le_of_ble_eq_true rfl) (ok_X12_act N (d) I5 L6) dX12_change_18 (fun I8 L9 => ?_)
      refine ev_aload_n (pc := 21) 0 dX12_change_21 rfl ?_
      refine gf_X12_77 (pc := 22) rfl dX12_change_22 ?_
      refine ev_iload_n (pc := 25) 1 dX12_change_25 rfl ?_
      refine ev_iconst (pc := 26) 1 k_iconst_1 dX12_change_26 ?_
      refine ev_iadd (pc := 27) dX12_change_27 ?_
      refine ev_iload_n (pc := 28) 2 dX12_change_28 rfl ?_
      refine ev_iast (pc := 29) kK_55 dX12_change_29 ?_
      refine ev_nmW (fun I10 => ?_)
      refine ev_iconst (pc := 30) 1 k_iconst_1 dX12_change_30 ?_
      exact ev_zret (pc := 31) rfl dX12_change_31
    · refine ev_iconst (pc := 15) 0 k_iconst_0 dX12_change_15 ?_
      exact ev_zret (pc := 16) rfl dX12_change_16
def F_X12_draw_40 (N : Nat) : Nat → Int32 → Int32 → Int64 → Int32 → PI → PL → RES
  | 0, _, _, _, _, _, _ => none
  | n + 1, v1, v2, v5, v7, I, L => (if v1 < v7 then gd (decide (1 &&& 1 = 1)) (some (some (.int 1), I, L)) else nmJ ((v5 * 6364136223846793005) + 1442695040888963407) (fun x11 => gd (decide (¬ (Int32.toInt64 v2) = 0)) (gd (inb v7 41) (nmW (uI I 55 (Int32.toNatClampNeg v7) (Int64.toInt32 (jlrem (jlushr x11 33) (Int32.toInt64 v2)))) (fun I12 => (F_X12_draw_40 N n) v1 v2 x11 (v7 + 1) I12 L)))))
set_option maxRecDepth 100000 in
theorem E_X12_draw_40 (N d : Nat) : ∀ (n : Nat) (v1 : Int32) (v2 : Int32) (v5 : Int64) (v7 : Int32) (I : PI) (L : PL), EvW M_X12_draw (d + 3) 40 [(0, .ref 12), (1, .int v1), (2, .int v2), (5, .long v5), (7, .int v7)] [] I L (F_X12_draw_40 N n v1 v2 v5 v7 I L) := by
  intro n
  induction n with
  | zero =>
    intro v1 v2 v5 v7 I L
    exact EvW.none
  | succ n hr_40 =>
    intro v1 v2 v5 v7 I L
    rw [F_X12_draw_40]
    refine ev_iload (pc := 40) 4 dX12_draw_40 rfl ?_
    refine ev_iload_n (pc := 42) 1 dX12_draw_42 rfl ?_
    refine ev_icmp_gt (pc := 43) 80 (by decide) dX12_draw_43 ?_ ?_
    · refine ev_iconst (pc := 80) 1 k_iconst_1 dX12_draw_80 ?_
      exact ev_zret (pc := 81) rfl dX12_draw_81
    · refine ev_lload (pc := 46) 3 dX12_draw_46 rfl ?_
      refine ev_ldc2 (pc := 48) w_927 dX12_draw_48 ?_
      refine ev_lmul (pc := 51) dX12_draw_51 ?_
      refine ev_ldc2 (pc := 52) w_928 dX12_draw_52 ?_
      refine ev_ladd (pc := 55) dX12_draw_55 ?_
      refine ev_nmJ (fun x11 => ?_)
      refine ev_lstore (pc := 56) (lv' := [(5, .long x11), (0, .ref 12), (1, .int v1), (2, .int v2), (7, .int v7)]) dX12_draw_56 rfl rfl ?_
      refine ev_aload_n (pc := 58) 1 dX12_draw_58 rfl ?_
      refine gf_X12_77 (pc := 59) rfl dX12_draw_59 ?_
      refine ev_iload (pc := 62) 4 dX12_draw_62 rfl ?_
      refine ev_lload (pc := 64) 0 dX12_draw_64 rfl ?_
      refine ev_bipush (pc := 66) 33 k_bipush_33 dX12_draw_66 ?_
      refine ev_lushr (pc := 68) dX12_draw_68 ?_
      refine ev_iload_n (pc := 69) 3 dX12_draw_69 rfl ?_
      refine ev_i2l (pc := 70) dX12_draw_70 ?_
      refine ev_lrem (pc := 71) dX12_draw_71 ?_
      refine ev_l2i (pc := 72) dX12_draw_72 ?_
      refine ev_iast (pc := 73) kK_55 dX12_draw_73 ?_
      refine ev_nmW (fun I12 => ?_)
      refine ev_iinc (pc := 74) (lv' := [(7, .int (v7 + 1)), (5, .long x11), (0, .ref 12), (1, .int v1), (2, .int v2)]) dX12_draw_74 4 rfl rfl 1 k_iconst_1 rfl ?_
      refine ev_goto (pc := 77) 40 (by decide) dX12_draw_77 ?_
      refine EvW.sub [2, 3, 4, 1, 0] rfl ?_
      exact hr_40 v1 v2 x11 (v7 + 1) I12 L
def f_X12_draw (N : Nat) (a1 : Int32) (a2 : Int32) (a3 : Int64) (I : PI) (L : PL) : RES := bI (f_X12_in N a1 1 40 I L) (fun x1 I2 L3 => (if x1 = 0 then gd (decide (0 &&& 1 = 0)) (some (some (.int 0), I2, L3)) else bI (f_X12_in N a2 1 1000 I2 L3) (fun x4 I5 L6 => (if x4 = 0 then gd (decide (0 &&& 1 = 0)) (some (some (.int 0), I5, L6)) else bV (f_X12_act N I5 L6) (fun I8 L9 => gd (inb 0 41) (nmW (uI I8 55 (Int32.toNatClampNeg 0) a1) (fun I10 => F_X12_draw_40 N N a1 a2 a3 1 I10 L9)))))))
set_option maxRecDepth 100000 in
theorem ok_X12_draw (N d : Nat) (a1 : Int32) (a2 : Int32) (a3 : Int64) (I : PI) (L : PL) : MOk M_X12_draw (d + 3) [.ref 12, .int a1, .int a2, .long a3] I L (f_X12_draw N a1 a2 a3 I L) := by
  refine MOk.of (by decide +kernel) (Nat.le_of_ble_eq_true rfl) ?_
  show EvW _ _ 0 [(0, .ref 12), (1, .int a1), (2, .int a2), (3, .long a3)] [] I L _
  rw [f_X12_draw]
  refine ev_iload_n (pc := 0) 1 dX12_draw_0 rfl ?_
  refine ev_iconst (pc := 1) 1 k_iconst_1 dX12_draw_1 ?_
  refine ev_bipush (pc := 2) 40 k_bipush_40 dX12_draw_2 ?_
  refine ev_callSI (pc := 4) (d := d + 2) (As := [.int a1, .int 1, .int 40]) (st := []) cv_X12_in rfl w_790 rfl (Nat.le_of_ble_eq_true rfl) (ok_X12_in N (d + 2) a1 1 40 I L) dX12_draw_4 (fun x1 I2 L3 => ?_)
  refine ev_if_eq (pc := 7) 21 (by decide) dX12_draw_7 ?_ ?_
  · refine ev_iconst (pc := 21) 0 k_iconst_0 dX12_draw_21 ?_
    exact ev_zret (pc := 22) rfl dX12_draw_22
  · refine ev_iload_n (pc := 10) 2 dX12_draw_10 rfl ?_
    refine ev_iconst (pc := 11) 1 k_iconst_1 dX12_draw_11 ?_
    refine ev_sipush (pc := 12) 1000 k_sipush_1000 dX12_draw_12 ?_
    refine ev_callSI (pc := 15) (d := d + 2) (As := [.int a2, .int 1, .int 1000]) (st := []) cv_X12_in rfl w_790 rfl (Nat.le_of_ble_eq_true rfl) (ok_X12_in N (d + 2) a2 1 1000 I2 L3) dX12_draw_15 (fun x4 I5 L6 => ?_)
    refine ev_if_ne (pc := 18) 23 (by decide) dX12_draw_18 ?_ ?_
    · refine ev_aload_n (pc := 23) 0 dX12_draw_23 rfl ?_
      refine ev_callVV (pc := 24) (d := d + 2) (As := []) (st := []) cv_X12_act rfl w_922 rfl (Nat.le_of_ble_eq_true rfl) (ok_X12_act N (d) I5 L6) dX12_draw_24 (fun I8 L9 => ?_)
      refine ev_lload_n (pc := 27) 3 dX12_draw_27 rfl ?_
      refine ev_lstore (pc := 28) (lv' := [(5, .long a3), (0, .ref 12), (1, .int a1), (2, .int a2), (3, .long a3)]) dX12_draw_28 rfl rfl ?_
      refine ev_aload_n (pc := 30) 1 dX12_draw_30 rfl ?_
      refine gf_X12_77 (pc := 31) rfl dX12_draw_31 ?_
      refine ev_iconst (pc := 34) 0 k_iconst_0 dX12_draw_34 ?_
      refine ev_iload_n (pc := 35) 2 dX12_draw_35 rfl ?_
      refine ev_iast (pc := 36) kK_55 dX12_draw_36 ?_
      refine ev_nmW (fun I10 => ?_)
      refine ev_iconst (pc := 37) 1 k_iconst_1 dX12_draw_37 ?_
      refine ev_istore (pc := 38) (lv' := [(7, .int 1), (5, .long a3), (0, .ref 12), (1, .int a1), (2, .int a2), (3, .long a3)]) dX12_draw_38 rfl rfl ?_
      refine EvW.sub [2, 3, 4, 1, 0] rfl ?_
      exact E_X12_draw_40 N d N a1 a2 a3 1 I10 L9
    · refine ev_iconst (pc := 21) 0 k_iconst_0 dX12_draw_21 ?_
      exact ev_zret (pc := 22) rfl dX12_draw_22
def f_X12_at (N : Nat) (a1 : Int32) (I : PI) (L : PL) : RES := bI (f_X12_isCell N a1 I L) (fun x1 I2 L3 => (if x1 = 0 then some (some (.int (-1 : Int32)), I2, L3) else gd (inb (a1 + 1) 41) (some (some (.int (I2 55 (Int32.toNatClampNeg (a1 + 1)))), I2, L3))))
set_option maxRecDepth 100000 in
theorem ok_X12_at (N d : Nat) (a1 : Int32) (I : PI) (L : PL) : MOk M_X12_at (d + 2) [.ref 12, .int a1] I L (f_X12_at N a1 I L) := by
  refine MOk.of (by decide +kernel) (Nat.le_of_ble_eq_true rfl) ?_
  show EvW _ _ 0 [(0, .ref 12), (1, .int a1)] [] I L _
  rw [f_X12_at]
  refine ev_aload_n (pc := 0) 0 dX12_at_0 rfl ?_
  refine ev_iload_n (pc := 1) 1 dX12_at_1 rfl ?_
  refine ev_callVI (pc := 2) (d := d + 1) (As := [.int a1]) (st := []) cv_X12_isCell rfl w_926 rfl (Nat.le_of_ble_eq_true rfl) (ok_X12_isCell N (d) a1 I L) dX12_at_2 (fun x1 I2 L3 => ?_)
  refine ev_if_eq (pc := 5) 19 (by decide) dX12_at_5 ?_ ?_
  · refine ev_iconst (pc := 19) (-1 : Int32) k_iconst_m1 dX12_at_19 ?_
    exact ev_iret (pc := 20) rfl dX12_at_20
  · refine ev_aload_n (pc := 8) 0 dX12_at_8 rfl ?_
    refine gf_X12_77 (pc := 9) rfl dX12_at_9 ?_
    refine ev_iload_n (pc := 12) 1 dX12_at_12 rfl ?_
    refine ev_iconst (pc := 13) 1 k_iconst_1 dX12_at_13 ?_
    refine ev_iadd (pc := 14) dX12_at_14 ?_
    refine ev_iald (pc := 15) kK_55 dX12_at_15 ?_
    refine ev_goto (pc := 16) 20 (by decide) dX12_at_16 ?_
    exact ev_iret (pc := 20) rfl dX12_at_20
def F_X12_copy_r55_r57_3 (N : Nat) : Nat → Int32 → Int32 → Int32 → PI → PL → RES
  | 0, _, _, _, _, _ => none
  | n + 1, v1, v3, v4, I, L => (if 41 ≤ v4 then some (none, I, L) else gd (inb (v1 + v4) 41) (gd (inb (v3 + v4) 1230) (nmW (uI I 57 (Int32.toNatClampNeg (v3 + v4)) (I 55 (Int32.toNatClampNeg (v1 + v4)))) (fun I1 => (F_X12_copy_r55_r57_3 N n) v1 v3 (v4 + 1) I1 L))))
set_option maxRecDepth 100000 in
theorem E_X12_copy_r55_r57_3 (N d : Nat) : ∀ (n : Nat) (v1 : Int32) (v3 : Int32) (v4 : Int32) (I : PI) (L : PL), EvW M_X12_copy (d) 3 [(0, .ref 55), (1, .int v1), (2, .ref 57), (3, .int v3), (4, .int v4)] [] I L (F_X12_copy_r55_r57_3 N n v1 v3 v4 I L) := by
  intro n
  induction n with
  | zero =>
    intro v1 v3 v4 I L
    exact EvW.none
  | succ n hr_3 =>
    intro v1 v3 v4 I L
    rw [F_X12_copy_r55_r57_3]
    refine ev_iload (pc := 3) 4 dX12_copy_3 rfl ?_
    refine ev_bipush (pc := 5) 41 k_bipush_41 dX12_copy_5 ?_
    refine ev_icmp_ge (pc := 7) 28 (by decide) dX12_copy_7 ?_ ?_
    · exact ev_vret (pc := 28) rfl dX12_copy_28
    · refine ev_aload_n (pc := 10) 2 dX12_copy_10 rfl ?_
      refine ev_iload_n (pc := 11) 3 dX12_copy_11 rfl ?_
      refine ev_iload (pc := 12) 4 dX12_copy_12 rfl ?_
      refine ev_iadd (pc := 14) dX12_copy_14 ?_
      refine ev_aload_n (pc := 15) 0 dX12_copy_15 rfl ?_
      refine ev_iload_n (pc := 16) 1 dX12_copy_16 rfl ?_
      refine ev_iload (pc := 17) 4 dX12_copy_17 rfl ?_
      refine ev_iadd (pc := 19) dX12_copy_19 ?_
      refine ev_iald (pc := 20) kK_55 dX12_copy_20 ?_
      refine ev_iast (pc := 21) kK_57 dX12_copy_21 ?_
      refine ev_nmW (fun I1 => ?_)
      refine ev_iinc (pc := 22) (lv' := [(4, .int (v4 + 1)), (0, .ref 55), (1, .int v1), (2, .ref 57), (3, .int v3)]) dX12_copy_22 4 rfl rfl 1 k_iconst_1 rfl ?_
      refine ev_goto (pc := 25) 3 (by decide) dX12_copy_25 ?_
      refine EvW.sub [1, 2, 3, 4, 0] rfl ?_
      exact hr_3 v1 v3 (v4 + 1) I1 L
def f_X12_copy_r55_r57 (N : Nat) (a1 : Int32) (a2 : Int32) (I : PI) (L : PL) : RES := F_X12_copy_r55_r57_3 N N a1 a2 0 I L
set_option maxRecDepth 100000 in
theorem ok_X12_copy_r55_r57 (N d : Nat) (a1 : Int32) (a2 : Int32) (I : PI) (L : PL) : MOk M_X12_copy (d) [.ref 55, .int a1, .ref 57, .int a2] I L (f_X12_copy_r55_r57 N a1 a2 I L) := by
  refine MOk.of (by decide +kernel) (Nat.le_of_ble_eq_true rfl) ?_
  show EvW _ _ 0 [(0, .ref 55), (1, .int a1), (2, .ref 57), (3, .int a2)] [] I L _
  rw [f_X12_copy_r55_r57]
  refine ev_iconst (pc := 0) 0 k_iconst_0 dX12_copy_0 ?_
  refine ev_istore (pc := 1) (lv' := [(4, .int 0), (0, .ref 55), (1, .int a1), (2, .ref 57), (3, .int a2)]) dX12_copy_1 rfl rfl ?_
  refine EvW.sub [1, 2, 3, 4, 0] rfl ?_
  exact E_X12_copy_r55_r57_3 N d N a1 a2 0 I L
def F_X12_copy_r56_r55_3 (N : Nat) : Nat → Int32 → Int32 → Int32 → PI → PL → RES
  | 0, _, _, _, _, _ => none
  | n + 1, v1, v3, v4, I, L => (if 41 ≤ v4 then some (none, I, L) else gd (inb (v1 + v4) 1230) (gd (inb (v3 + v4) 41) (nmW (uI I 55 (Int32.toNatClampNeg (v3 + v4)) (I 56 (Int32.toNatClampNeg (v1 + v4)))) (fun I1 => (F_X12_copy_r56_r55_3 N n) v1 v3 (v4 + 1) I1 L))))
set_option maxRecDepth 100000 in
theorem E_X12_copy_r56_r55_3 (N d : Nat) : ∀ (n : Nat) (v1 : Int32) (v3 : Int32) (v4 : Int32) (I : PI) (L : PL), EvW M_X12_copy (d) 3 [(0, .ref 56), (1, .int v1), (2, .ref 55), (3, .int v3), (4, .int v4)] [] I L (F_X12_copy_r56_r55_3 N n v1 v3 v4 I L) := by
  intro n
  induction n with
  | zero =>
    intro v1 v3 v4 I L
    exact EvW.none
  | succ n hr_3 =>
    intro v1 v3 v4 I L
    rw [F_X12_copy_r56_r55_3]
    refine ev_iload (pc := 3) 4 dX12_copy_3 rfl ?_
    refine ev_bipush (pc := 5) 41 k_bipush_41 dX12_copy_5 ?_
    refine ev_icmp_ge (pc := 7) 28 (by decide) dX12_copy_7 ?_ ?_
    · exact ev_vret (pc := 28) rfl dX12_copy_28
    · refine ev_aload_n (pc := 10) 2 dX12_copy_10 rfl ?_
      refine ev_iload_n (pc := 11) 3 dX12_copy_11 rfl ?_
      refine ev_iload (pc := 12) 4 dX12_copy_12 rfl ?_
      refine ev_iadd (pc := 14) dX12_copy_14 ?_
      refine ev_aload_n (pc := 15) 0 dX12_copy_15 rfl ?_
      refine ev_iload_n (pc := 16) 1 dX12_copy_16 rfl ?_
      refine ev_iload (pc := 17) 4 dX12_copy_17 rfl ?_
      refine ev_iadd (pc := 19) dX12_copy_19 ?_
      refine ev_iald (pc := 20) kK_56 dX12_copy_20 ?_
      refine ev_iast (pc := 21) kK_55 dX12_copy_21 ?_
      refine ev_nmW (fun I1 => ?_)
      refine ev_iinc (pc := 22) (lv' := [(4, .int (v4 + 1)), (0, .ref 56), (1, .int v1), (2, .ref 55), (3, .int v3)]) dX12_copy_22 4 rfl rfl 1 k_iconst_1 rfl ?_
      refine ev_goto (pc := 25) 3 (by decide) dX12_copy_25 ?_
      refine EvW.sub [1, 2, 3, 4, 0] rfl ?_
      exact hr_3 v1 v3 (v4 + 1) I1 L
def f_X12_copy_r56_r55 (N : Nat) (a1 : Int32) (a2 : Int32) (I : PI) (L : PL) : RES := F_X12_copy_r56_r55_3 N N a1 a2 0 I L
set_option maxRecDepth 100000 in
theorem ok_X12_copy_r56_r55 (N d : Nat) (a1 : Int32) (a2 : Int32) (I : PI) (L : PL) : MOk M_X12_copy (d) [.ref 56, .int a1, .ref 55, .int a2] I L (f_X12_copy_r56_r55 N a1 a2 I L) := by
  refine MOk.of (by decide +kernel) (Nat.le_of_ble_eq_true rfl) ?_
  show EvW _ _ 0 [(0, .ref 56), (1, .int a1), (2, .ref 55), (3, .int a2)] [] I L _
  rw [f_X12_copy_r56_r55]
  refine ev_iconst (pc := 0) 0 k_iconst_0 dX12_copy_0 ?_
  refine ev_istore (pc := 1) (lv' := [(4, .int 0), (0, .ref 56), (1, .int a1), (2, .ref 55), (3, .int a2)]) dX12_copy_1 rfl rfl ?_
  refine EvW.sub [1, 2, 3, 4, 0] rfl ?_
  exact E_X12_copy_r56_r55_3 N d N a1 a2 0 I L
def F_X12_copy_r57_r55_3 (N : Nat) : Nat → Int32 → Int32 → Int32 → PI → PL → RES
  | 0, _, _, _, _, _ => none
  | n + 1, v1, v3, v4, I, L => (if 41 ≤ v4 then some (none, I, L) else gd (inb (v1 + v4) 1230) (gd (inb (v3 + v4) 41) (nmW (uI I 55 (Int32.toNatClampNeg (v3 + v4)) (I 57 (Int32.toNatClampNeg (v1 + v4)))) (fun I1 => (F_X12_copy_r57_r55_3 N n) v1 v3 (v4 + 1) I1 L))))
set_option maxRecDepth 100000 in
theorem E_X12_copy_r57_r55_3 (N d : Nat) : ∀ (n : Nat) (v1 : Int32) (v3 : Int32) (v4 : Int32) (I : PI) (L : PL), EvW M_X12_copy (d) 3 [(0, .ref 57), (1, .int v1), (2, .ref 55), (3, .int v3), (4, .int v4)] [] I L (F_X12_copy_r57_r55_3 N n v1 v3 v4 I L) := by
  intro n
  induction n with
  | zero =>
    intro v1 v3 v4 I L
    exact EvW.none
  | succ n hr_3 =>
    intro v1 v3 v4 I L
    rw [F_X12_copy_r57_r55_3]
    refine ev_iload (pc := 3) 4 dX12_copy_3 rfl ?_
    refine ev_bipush (pc := 5) 41 k_bipush_41 dX12_copy_5 ?_
    refine ev_icmp_ge (pc := 7) 28 (by decide) dX12_copy_7 ?_ ?_
    · exact ev_vret (pc := 28) rfl dX12_copy_28
    · refine ev_aload_n (pc := 10) 2 dX12_copy_10 rfl ?_
      refine ev_iload_n (pc := 11) 3 dX12_copy_11 rfl ?_
      refine ev_iload (pc := 12) 4 dX12_copy_12 rfl ?_
      refine ev_iadd (pc := 14) dX12_copy_14 ?_
      refine ev_aload_n (pc := 15) 0 dX12_copy_15 rfl ?_
      refine ev_iload_n (pc := 16) 1 dX12_copy_16 rfl ?_
      refine ev_iload (pc := 17) 4 dX12_copy_17 rfl ?_
      refine ev_iadd (pc := 19) dX12_copy_19 ?_
      refine ev_iald (pc := 20) kK_57 dX12_copy_20 ?_
      refine ev_iast (pc := 21) kK_55 dX12_copy_21 ?_
      refine ev_nmW (fun I1 => ?_)
      refine ev_iinc (pc := 22) (lv' := [(4, .int (v4 + 1)), (0, .ref 57), (1, .int v1), (2, .ref 55), (3, .int v3)]) dX12_copy_22 4 rfl rfl 1 k_iconst_1 rfl ?_
      refine ev_goto (pc := 25) 3 (by decide) dX12_copy_25 ?_
      refine EvW.sub [1, 2, 3, 4, 0] rfl ?_
      exact hr_3 v1 v3 (v4 + 1) I1 L
def f_X12_copy_r57_r55 (N : Nat) (a1 : Int32) (a2 : Int32) (I : PI) (L : PL) : RES := F_X12_copy_r57_r55_3 N N a1 a2 0 I L
set_option maxRecDepth 100000 in
theorem ok_X12_copy_r57_r55 (N d : Nat) (a1 : Int32) (a2 : Int32) (I : PI) (L : PL) : MOk M_X12_copy (d) [.ref 57, .int a1, .ref 55, .int a2] I L (f_X12_copy_r57_r55 N a1 a2 I L) := by
  refine MOk.of (by decide +kernel) (Nat.le_of_ble_eq_true rfl) ?_
  show EvW _ _ 0 [(0, .ref 57), (1, .int a1), (2, .ref 55), (3, .int a2)] [] I L _
  rw [f_X12_copy_r57_r55]
  refine ev_iconst (pc := 0) 0 k_iconst_0 dX12_copy_0 ?_
  refine ev_istore (pc := 1) (lv' := [(4, .int 0), (0, .ref 57), (1, .int a1), (2, .ref 55), (3, .int a2)]) dX12_copy_1 rfl rfl ?_
  refine EvW.sub [1, 2, 3, 4, 0] rfl ?_
  exact E_X12_copy_r57_r55_3 N d N a1 a2 0 I L
def F_X12_undo_121 (N : Nat) (I : PI) (L : PL) : RES := gd (inb 0 41) (some (some (.int (I 55 (Int32.toNatClampNeg 0))), I, L))
set_option maxRecDepth 100000 in
theorem E_X12_undo_121 (N d : Nat) (I : PI) (L : PL) : EvW M_X12_undo (d + 2) 121 [(0, .ref 12)] [] I L (F_X12_undo_121 N I L) := by
  rw [F_X12_undo_121]
  refine ev_aload_n (pc := 121) 0 dX12_undo_121 rfl ?_
  refine gf_X12_77 (pc := 122) rfl dX12_undo_122 ?_
  refine ev_iconst (pc := 125) 0 k_iconst_0 dX12_undo_125 ?_
  refine ev_iald (pc := 126) kK_55 dX12_undo_126 ?_
  exact ev_iret (pc := 127) rfl dX12_undo_127
def F_X12_undo_23 (N : Nat) (v1 : Int32) (I : PI) (L : PL) : RES := (if v1 = 0 then bV (f_X12_copy_r55_r57 N 0 (41 * (I 12 44)) I L) (fun I2 L3 => nmW (uI I2 12 44 ((I2 12 44) + 1)) (fun I4 => nmW (uI I4 12 43 ((I4 12 43) - 1)) (fun I5 => bV (f_X12_copy_r56_r55 N (41 * (I5 12 43)) 0 I5 L3) (fun I7 L8 => F_X12_undo_121 N I7 L8)))) else bV (f_X12_putBy N I L) (fun I10 L11 => nmW (uI I10 12 44 ((I10 12 44) - 1)) (fun I12 => bV (f_X12_copy_r57_r55 N (41 * (I12 12 44)) 0 I12 L11) (fun I14 L15 => F_X12_undo_121 N I14 L15))))
set_option maxRecDepth 100000 in
theorem E_X12_undo_23 (N d : Nat) (v1 : Int32) (I : PI) (L : PL) : EvW M_X12_undo (d + 2) 23 [(0, .ref 12), (1, .int v1)] [] I L (F_X12_undo_23 N v1 I L) := by
  rw [F_X12_undo_23]
  refine ev_iload_n (pc := 23) 1 dX12_undo_23 rfl ?_
  refine ev_if_eq (pc := 24) 63 (by decide) dX12_undo_24 ?_ ?_
  · refine ev_aload_n (pc := 63) 0 dX12_undo_63 rfl ?_
    refine gf_X12_77 (pc := 64) rfl dX12_undo_64 ?_
    refine ev_iconst (pc := 67) 0 k_iconst_0 dX12_undo_67 ?_
    refine ev_aload_n (pc := 68) 0 dX12_undo_68 rfl ?_
    refine gf_X12_83 (pc := 69) rfl dX12_undo_69 ?_
    refine ev_bipush (pc := 72) 41 k_bipush_41 dX12_undo_72 ?_
    refine ev_aload_n (pc := 74) 0 dX12_undo_74 rfl ?_
    refine gf_X12_349 (pc := 75) rfl dX12_undo_75 ?_
    refine ev_imul (pc := 78) dX12_undo_78 ?_
    refine ev_callSV (pc := 79) (d := d + 1) (As := [.ref 55, .int 0, .ref 57, .int (41 * (I 12 44))]) (st := []) cv_X12_copy rfl w_913 rfl (Nat.le_of_ble_eq_true rfl) (ok_X12_copy_r55_r57 N (d + 1) 0 (41 * (I 12 44)) I L) dX12_undo_79 (fun I2 L3 => ?_)
    refine ev_aload_n (pc := 82) 0 dX12_undo_82 rfl ?_
    refine ev_dup (pc := 83) rfl dX12_undo_83 ?_
    refine gf_X12_349 (pc := 84) rfl dX12_undo_84 ?_
    refine ev_iconst (pc := 87) 1 k_iconst_1 dX12_undo_87 ?_
    refine ev_iadd (pc := 88) dX12_undo_88 ?_
    refine pf_X12_349 (pc := 89) rfl dX12_undo_89 ?_
    refine ev_nmW (fun I4 => ?_)
    refine ev_aload_n (pc := 92) 0 dX12_undo_92 rfl ?_
    refine ev_dup (pc := 93) rfl dX12_undo_93 ?_
    refine gf_X12_339 (pc := 94) rfl dX12_undo_94 ?_
    refine ev_iconst (pc := 97) 1 k_iconst_1 dX12_undo_97 ?_
    refine ev_isub (pc := 98) dX12_undo_98 ?_
    refine pf_X12_339 (pc := 99) rfl dX12_undo_99 ?_
    refine ev_nmW (fun I5 => ?_)
    refine ev_aload_n (pc := 102) 0 dX12_undo_102 rfl ?_
    refine gf_X12_80 (pc := 103) rfl dX12_undo_103 ?_
    refine ev_bipush (pc := 106) 41 k_bipush_41 dX12_undo_106 ?_
    refine ev_aload_n (pc := 108) 0 dX12_undo_108 rfl ?_
    refine gf_X12_339 (pc := 109) rfl dX12_undo_109 ?_
    refine ev_imul (pc := 112) dX12_undo_112 ?_
    refine ev_aload_n (pc := 113) 0 dX12_undo_113 rfl ?_
    refine gf_X12_77 (pc := 114) rfl dX12_undo_114 ?_
    refine ev_iconst (pc := 117) 0 k_iconst_0 dX12_undo_117 ?_
    refine ev_callSV (pc := 118) (d := d + 1) (As := [.ref 56, .int (41 * (I5 12 43)), .ref 55, .int 0]) (st := []) cv_X12_copy rfl w_913 rfl (Nat.le_of_ble_eq_true rfl) (ok_X12_copy_r56_r55 N (d + 1) (41 * (I5 12 43)) 0 I5 L3) dX12_undo_118 (fun I7 L8 => ?_)
    refine EvW.sub [0] rfl ?_
    exact E_X12_undo_121 N d I7 L8
  · refine ev_aload_n (pc := 27) 0 dX12_undo_27 rfl ?_
    refine ev_callVV (pc := 28) (d := d + 1) (As := []) (st := []) cv_X12_putBy rfl w_917 rfl (Nat.le_of_ble_eq_true rfl) (ok_X12_putBy N (d) I L) dX12_undo_28 (fun I10 L11 => ?_)
    refine ev_aload_n (pc := 31) 0 dX12_undo_31 rfl ?_
    refine ev_dup (pc := 32) rfl dX12_undo_32 ?_
    refine gf_X12_349 (pc := 33) rfl dX12_undo_33 ?_
    refine ev_iconst (pc := 36) 1 k_iconst_1 dX12_undo_36 ?_
    refine ev_isub (pc := 37) dX12_undo_37 ?_
    refine pf_X12_349 (pc := 38) rfl dX12_undo_38 ?_
    refine ev_nmW (fun I12 => ?_)
    refine ev_aload_n (pc := 41) 0 dX12_undo_41 rfl ?_
    refine gf_X12_83 (pc := 42) rfl dX12_undo_42 ?_
    refine ev_bipush (pc := 45) 41 k_bipush_41 dX12_undo_45 ?_
    refine ev_aload_n (pc := 47) 0 dX12_undo_47 rfl ?_
    refine gf_X12_349 (pc := 48) rfl dX12_undo_48 ?_
    refine ev_imul (pc := 51) dX12_undo_51 ?_
    refine ev_aload_n (pc := 52) 0 dX12_undo_52 rfl ?_
    refine gf_X12_77 (pc := 53) rfl dX12_undo_53 ?_
    refine ev_iconst (pc := 56) 0 k_iconst_0 dX12_undo_56 ?_
    refine ev_callSV (pc := 57) (d := d + 1) (As := [.ref 57, .int (41 * (I12 12 44)), .ref 55, .int 0]) (st := []) cv_X12_copy rfl w_913 rfl (Nat.le_of_ble_eq_true rfl) (ok_X12_copy_r57_r55 N (d + 1) (41 * (I12 12 44)) 0 I12 L11) dX12_undo_57 (fun I14 L15 => ?_)
    refine ev_goto (pc := 60) 121 (by decide) dX12_undo_60 ?_
    refine EvW.sub [0] rfl ?_
    exact E_X12_undo_121 N d I14 L15
def f_X12_undo (N : Nat) (a1 : Int32) (I : PI) (L : PL) : RES := (if a1 = 0 then (if (I 12 43) = 0 then some (some (.int (-1 : Int32)), I, L) else F_X12_undo_23 N a1 I L) else (if (I 12 44) = 0 then some (some (.int (-1 : Int32)), I, L) else F_X12_undo_23 N a1 I L))
set_option maxRecDepth 100000 in
theorem ok_X12_undo (N d : Nat) (a1 : Int32) (I : PI) (L : PL) : MOk M_X12_undo (d + 2) [.ref 12, .int a1] I L (f_X12_undo N a1 I L) := by
  refine MOk.of (by decide +kernel) (Nat.le_of_ble_eq_true rfl) ?_
  show EvW _ _ 0 [(0, .ref 12), (1, .int a1)] [] I L _
  rw [f_X12_undo]
  refine ev_iload_n (pc := 0) 1 dX12_undo_0 rfl ?_
  refine ev_if_eq (pc := 1) 14 (by decide) dX12_undo_1 ?_ ?_
  · refine ev_aload_n (pc := 14) 0 dX12_undo_14 rfl ?_
    refine gf_X12_339 (pc := 15) rfl dX12_undo_15 ?_
    refine ev_if_ne (pc := 18) 23 (by decide) dX12_undo_18 ?_ ?_
    · exact E_X12_undo_23 N d a1 I L
    · refine ev_iconst (pc := 21) (-1 : Int32) k_iconst_m1 dX12_undo_21 ?_
      exact ev_iret (pc := 22) rfl dX12_undo_22
  · refine ev_aload_n (pc := 4) 0 dX12_undo_4 rfl ?_
    refine gf_X12_349 (pc := 5) rfl dX12_undo_5 ?_
    refine ev_if_ne (pc := 8) 23 (by decide) dX12_undo_8 ?_ ?_
    · exact E_X12_undo_23 N d a1 I L
    · refine ev_goto (pc := 11) 21 (by decide) dX12_undo_11 ?_
      refine ev_iconst (pc := 21) (-1 : Int32) k_iconst_m1 dX12_undo_21 ?_
      exact ev_iret (pc := 22) rfl dX12_undo_22
def F_X12_windowOf_91 (N : Nat) (r_4 : Int32 → Int32 → Int32 → PI → PL → RES) (v1 : Int32) (v2 : Int32) (v3 : Int32) (v4 : Int32) (I : PI) (L : PL) : RES := gd (inb (v3 + 1) 41) (gd (inb v4 16) (nmW (uI I 59 (Int32.toNatClampNeg v4) (I 55 (Int32.toNatClampNeg (v3 + 1)))) (fun I4 => r_4 v1 (v2 + 1) (v3 + 1) I4 L)))
set_option maxRecDepth 100000 in
theorem E_X12_windowOf_91 (N d : Nat) (r_4 : Int32 → Int32 → Int32 → PI → PL → RES) (hr_4 : ∀ (v1 : Int32) (v2 : Int32) (v3 : Int32) (I : PI) (L : PL), EvW M_X12_windowOf (d + 1) 4 [(0, .ref 12), (1, .int v1), (2, .int v2), (3, .int v3)] [] I L (r_4 v1 v2 v3 I L)) (v1 : Int32) (v2 : Int32) (v3 : Int32) (v4 : Int32) (I : PI) (L : PL) : EvW M_X12_windowOf (d + 1) 91 [(0, .ref 12), (1, .int v1), (2, .int v2), (3, .int v3), (4, .int v4)] [] I L (F_X12_windowOf_91 N r_4 v1 v2 v3 v4 I L) := by
  rw [F_X12_windowOf_91]
  refine ev_aload_n (pc := 91) 0 dX12_windowOf_91 rfl ?_
  refine gf_X12_89 (pc := 92) rfl dX12_windowOf_92 ?_
  refine ev_iload (pc := 95) 4 dX12_windowOf_95 rfl ?_
  refine ev_aload_n (pc := 97) 0 dX12_windowOf_97 rfl ?_
  refine gf_X12_77 (pc := 98) rfl dX12_windowOf_98 ?_
  refine ev_iload_n (pc := 101) 3 dX12_windowOf_101 rfl ?_
  refine ev_iconst (pc := 102) 1 k_iconst_1 dX12_windowOf_102 ?_
  refine ev_iadd (pc := 103) dX12_windowOf_103 ?_
  refine ev_iald (pc := 104) kK_55 dX12_windowOf_104 ?_
  refine ev_iast (pc := 105) kK_59 dX12_windowOf_105 ?_
  refine ev_nmW (fun I4 => ?_)
  refine ev_iinc (pc := 106) (lv' := [(2, .int (v2 + 1)), (0, .ref 12), (1, .int v1), (3, .int v3), (4, .int v4)]) dX12_windowOf_106 2 rfl rfl 1 k_iconst_1 rfl ?_
  refine ev_iinc (pc := 109) (lv' := [(3, .int (v3 + 1)), (2, .int (v2 + 1)), (0, .ref 12), (1, .int v1), (4, .int v4)]) dX12_windowOf_109 3 rfl rfl 1 k_iconst_1 rfl ?_
  refine ev_goto (pc := 112) 4 (by decide) dX12_windowOf_112 ?_
  refine EvW.sub [2, 3, 1, 0] rfl ?_
  exact hr_4 v1 (v2 + 1) (v3 + 1) I4 L
def F_X12_windowOf_44 (N : Nat) (r_4 : Int32 → Int32 → Int32 → PI → PL → RES) : Nat → Int32 → Int32 → Int32 → Int32 → PI → PL → RES
  | 0, _, _, _, _, _, _ => none
  | n + 1, v1, v2, v3, v4, I, L => (if v4 ≤ 0 then F_X12_windowOf_91 N r_4 v1 v2 v3 v4 I L else gd (inb (v4 - 1) 16) (gd (inb (v3 + 1) 41) ((if (I 59 (Int32.toNatClampNeg (v4 - 1))) ≤ (I 55 (Int32.toNatClampNeg (v3 + 1))) then F_X12_windowOf_91 N r_4 v1 v2 v3 v4 I L else gd (inb (v4 - 1) 16) (gd (inb v4 16) (nmW (uI I 59 (Int32.toNatClampNeg v4) (I 59 (Int32.toNatClampNeg (v4 - 1)))) (fun I5 => (F_X12_windowOf_44 N r_4 n) v1 v2 v3 (v4 + (-1 : Int32)) I5 L)))))))
set_option maxRecDepth 100000 in
theorem E_X12_windowOf_44 (N d : Nat) (r_4 : Int32 → Int32 → Int32 → PI → PL → RES) (hr_4 : ∀ (v1 : Int32) (v2 : Int32) (v3 : Int32) (I : PI) (L : PL), EvW M_X12_windowOf (d + 1) 4 [(0, .ref 12), (1, .int v1), (2, .int v2), (3, .int v3)] [] I L (r_4 v1 v2 v3 I L)) : ∀ (n : Nat) (v1 : Int32) (v2 : Int32) (v3 : Int32) (v4 : Int32) (I : PI) (L : PL), EvW M_X12_windowOf (d + 1) 44 [(0, .ref 12), (1, .int v1), (2, .int v2), (3, .int v3), (4, .int v4)] [] I L (F_X12_windowOf_44 N r_4 n v1 v2 v3 v4 I L) := by
  intro n
  induction n with
  | zero =>
    intro v1 v2 v3 v4 I L
    exact EvW.none
  | succ n hr_44 =>
    intro v1 v2 v3 v4 I L
    rw [F_X12_windowOf_44]
    refine ev_iload (pc := 44) 4 dX12_windowOf_44 rfl ?_
    refine ev_if_le (pc := 46) 91 (by decide) dX12_windowOf_46 ?_ ?_
    · exact E_X12_windowOf_91 N d r_4 hr_4 v1 v2 v3 v4 I L
    · refine ev_aload_n (pc := 49) 0 dX12_windowOf_49 rfl ?_
      refine gf_X12_89 (pc := 50) rfl dX12_windowOf_50 ?_
      refine ev_iload (pc := 53) 4 dX12_windowOf_53 rfl ?_
      refine ev_iconst (pc := 55) 1 k_iconst_1 dX12_windowOf_55 ?_
      refine ev_isub (pc := 56) dX12_windowOf_56 ?_
      refine ev_iald (pc := 57) kK_59 dX12_windowOf_57 ?_
      refine ev_aload_n (pc := 58) 0 dX12_windowOf_58 rfl ?_
      refine gf_X12_77 (pc := 59) rfl dX12_windowOf_59 ?_
      refine ev_iload_n (pc := 62) 3 dX12_windowOf_62 rfl ?_
      refine ev_iconst (pc := 63) 1 k_iconst_1 dX12_windowOf_63 ?_
      refine ev_iadd (pc := 64) dX12_windowOf_64 ?_
      refine ev_iald (pc := 65) kK_55 dX12_windowOf_65 ?_
      refine ev_icmp_le (pc := 66) 91 (by decide) dX12_windowOf_66 ?_ ?_
      · exact E_X12_windowOf_91 N d r_4 hr_4 v1 v2 v3 v4 I L
      · refine ev_aload_n (pc := 69) 0 dX12_windowOf_69 rfl ?_
        refine gf_X12_89 (pc := 70) rfl dX12_windowOf_70 ?_
        refine ev_iload (pc := 73) 4 dX12_windowOf_73 rfl ?_
        refine ev_aload_n (pc := 75) 0 dX12_windowOf_75 rfl ?_
        refine gf_X12_89 (pc := 76) rfl dX12_windowOf_76 ?_
        refine ev_iload (pc := 79) 4 dX12_windowOf_79 rfl ?_
        refine ev_iconst (pc := 81) 1 k_iconst_1 dX12_windowOf_81 ?_
        refine ev_isub (pc := 82) dX12_windowOf_82 ?_
        refine ev_iald (pc := 83) kK_59 dX12_windowOf_83 ?_
        refine ev_iast (pc := 84) kK_59 dX12_windowOf_84 ?_
        refine ev_nmW (fun I5 => ?_)
        refine ev_iinc (pc := 85) (lv' := [(4, .int (v4 + (-1 : Int32))), (0, .ref 12), (1, .int v1), (2, .int v2), (3, .int v3)]) dX12_windowOf_85 4 rfl rfl (-1 : Int32) k_iconst_m1 rfl ?_
        refine ev_goto (pc := 88) 44 (by decide) dX12_windowOf_88 ?_
        refine EvW.sub [1, 2, 3, 4, 0] rfl ?_
        exact hr_44 v1 v2 v3 (v4 + (-1 : Int32)) I5 L
def F_X12_windowOf_4 (N : Nat) : Nat → Int32 → Int32 → Int32 → PI → PL → RES
  | 0, _, _, _, _, _ => none
  | n + 1, v1, v2, v3, I, L => gd (inb 0 41) ((if (I 55 (Int32.toNatClampNeg 0)) ≤ v3 then some (some (.int v2), I, L) else bI (f_X12_in N (jabs (v3 - v1)) ((I 12 34) + 1) ((I 12 34) + (I 12 35)) I L) (fun x1 I2 L3 => (if x1 = 0 then (F_X12_windowOf_4 N n) v1 v2 (v3 + 1) I2 L3 else F_X12_windowOf_44 N (F_X12_windowOf_4 N n) N v1 v2 v3 v2 I2 L3))))
set_option maxRecDepth 100000 in
theorem E_X12_windowOf_4 (N d : Nat) : ∀ (n : Nat) (v1 : Int32) (v2 : Int32) (v3 : Int32) (I : PI) (L : PL), EvW M_X12_windowOf (d + 1) 4 [(0, .ref 12), (1, .int v1), (2, .int v2), (3, .int v3)] [] I L (F_X12_windowOf_4 N n v1 v2 v3 I L) := by
  intro n
  induction n with
  | zero =>
    intro v1 v2 v3 I L
    exact EvW.none
  | succ n hr_4 =>
    intro v1 v2 v3 I L
    rw [F_X12_windowOf_4]
    refine ev_iload_n (pc := 4) 3 dX12_windowOf_4 rfl ?_
    refine ev_aload_n (pc := 5) 0 dX12_windowOf_5 rfl ?_
    refine gf_X12_77 (pc := 6) rfl dX12_windowOf_6 ?_
    refine ev_iconst (pc := 9) 0 k_iconst_0 dX12_windowOf_9 ?_
    refine ev_iald (pc := 10) kK_55 dX12_windowOf_10 ?_
    refine ev_icmp_ge (pc := 11) 115 (by decide) dX12_windowOf_11 ?_ ?_
    · refine ev_iload_n (pc := 115) 2 dX12_windowOf_115 rfl ?_
      exact ev_iret (pc := 116) rfl dX12_windowOf_116
    · refine ev_iload_n (pc := 14) 3 dX12_windowOf_14 rfl ?_
      refine ev_iload_n (pc := 15) 1 dX12_windowOf_15 rfl ?_
      refine ev_isub (pc := 16) dX12_windowOf_16 ?_
      refine ev_mabs (pc := 17) (d := d) w_896 w_428 w_131 w_429 (Nat.le_of_ble_eq_true rfl) dX12_windowOf_17 ?_
      refine ev_aload_n (pc := 20) 0 dX12_windowOf_20 rfl ?_
      refine gf_X12_62 (pc := 21) rfl dX12_windowOf_21 ?_
      refine ev_iconst (pc := 24) 1 k_iconst_1 dX12_windowOf_24 ?_
      refine ev_iadd (pc := 25) dX12_windowOf_25 ?_
      refine ev_aload_n (pc := 26) 0 dX12_windowOf_26 rfl ?_
      refine gf_X12_62 (pc := 27) rfl dX12_windowOf_27 ?_
      refine ev_aload_n (pc := 30) 0 dX12_windowOf_30 rfl ?_
      refine gf_X12_65 (pc := 31) rfl dX12_windowOf_31 ?_
      refine ev_iadd (pc := 34) dX12_windowOf_34 ?_
      refine ev_callSI (pc := 35) (d := d) (As := [.int (jabs (v3 - v1)), .int ((I 12 34) + 1), .int ((I 12 34) + (I 12 35))]) (st := []) cv_X12_in rfl w_790 rfl (Nat.le_of_ble_eq_true rfl) (ok_X12_in N (d) (jabs (v3 - v1)) ((I 12 34) + 1) ((I 12 34) + (I 12 35)) I L) dX12_windowOf_35 (fun x1 I2 L3 => ?_)
      refine ev_if_eq (pc := 38) 109 (by decide) dX12_windowOf_38 ?_ ?_
      · refine ev_iinc (pc := 109) (lv' := [(3, .int (v3 + 1)), (0, .ref 12), (1, .int v1), (2, .int v2)]) dX12_windowOf_109 3 rfl rfl 1 k_iconst_1 rfl ?_
        refine ev_goto (pc := 112) 4 (by decide) dX12_windowOf_112 ?_
        refine EvW.sub [1, 2, 3, 0] rfl ?_
        exact hr_4 v1 v2 (v3 + 1) I2 L3
      · refine ev_iload_n (pc := 41) 2 dX12_windowOf_41 rfl ?_
        refine ev_istore (pc := 42) (lv' := [(4, .int v2), (0, .ref 12), (1, .int v1), (2, .int v2), (3, .int v3)]) dX12_windowOf_42 rfl rfl ?_
        refine EvW.sub [1, 2, 3, 4, 0] rfl ?_
        exact E_X12_windowOf_44 N d (F_X12_windowOf_4 N n) hr_4 N v1 v2 v3 v2 I2 L3
def f_X12_windowOf (N : Nat) (a1 : Int32) (I : PI) (L : PL) : RES := F_X12_windowOf_4 N N a1 0 0 I L
set_option maxRecDepth 100000 in
theorem ok_X12_windowOf (N d : Nat) (a1 : Int32) (I : PI) (L : PL) : MOk M_X12_windowOf (d + 1) [.ref 12, .int a1] I L (f_X12_windowOf N a1 I L) := by
  refine MOk.of (by decide +kernel) (Nat.le_of_ble_eq_true rfl) ?_
  show EvW _ _ 0 [(0, .ref 12), (1, .int a1)] [] I L _
  rw [f_X12_windowOf]
  refine ev_iconst (pc := 0) 0 k_iconst_0 dX12_windowOf_0 ?_
  refine ev_istore_n (pc := 1) (lv' := [(2, .int 0), (0, .ref 12), (1, .int a1)]) dX12_windowOf_1 rfl rfl rfl ?_
  refine ev_iconst (pc := 2) 0 k_iconst_0 dX12_windowOf_2 ?_
  refine ev_istore_n (pc := 3) (lv' := [(3, .int 0), (2, .int 0), (0, .ref 12), (1, .int a1)]) dX12_windowOf_3 rfl rfl rfl ?_
  refine EvW.sub [2, 3, 1, 0] rfl ?_
  exact E_X12_windowOf_4 N d N a1 0 0 I L
def f_X12_found (N : Nat) (a1 : Int32) (I : PI) (L : PL) : RES := bI (f_X12_isCell N a1 I L) (fun x1 I2 L3 => (if x1 = 0 then some (some (.int (-1 : Int32)), I2, L3) else bI (f_X12_windowOf N a1 I2 L3) (fun x4 I5 L6 => (if (I5 12 36) ≤ x4 then gd (inb (a1 + 1) 41) (gd (inb ((I5 12 36) - 1) 16) ((if (10 * (I5 55 (Int32.toNatClampNeg (a1 + 1)))) ≤ ((I5 12 37) * (I5 59 (Int32.toNatClampNeg ((I5 12 36) - 1)))) then some (some (.int 0), I5, L6) else some (some (.int 1), I5, L6)))) else some (some (.int (-1000000 : Int32)), I5, L6)))))
set_option maxRecDepth 100000 in
theorem ok_X12_found (N d : Nat) (a1 : Int32) (I : PI) (L : PL) : MOk M_X12_found (d + 2) [.ref 12, .int a1] I L (f_X12_found N a1 I L) := by
  refine MOk.of (by decide +kernel) (Nat.le_of_ble_eq_true rfl) ?_
  show EvW _ _ 0 [(0, .ref 12), (1, .int a1)] [] I L _
  rw [f_X12_found]
  refine ev_aload_n (pc := 0) 0 dX12_found_0 rfl ?_
  refine ev_iload_n (pc := 1) 1 dX12_found_1 rfl ?_
  refine ev_callVI (pc := 2) (d := d + 1) (As := [.int a1]) (st := []) cv_X12_isCell rfl w_926 rfl (Nat.le_of_ble_eq_true rfl) (ok_X12_isCell N (d) a1 I L) dX12_found_2 (fun x1 I2 L3 => ?_)
  refine ev_if_ne (pc := 5) 10 (by decide) dX12_found_5 ?_ ?_
  · refine ev_aload_n (pc := 10) 0 dX12_found_10 rfl ?_
    refine ev_iload_n (pc := 11) 1 dX12_found_11 rfl ?_
    refine ev_callVI (pc := 12) (d := d + 1) (As := [.int a1]) (st := []) cv_X12_windowOf rfl w_934 rfl (Nat.le_of_ble_eq_true rfl) (ok_X12_windowOf N (d) a1 I2 L3) dX12_found_12 (fun x4 I5 L6 => ?_)
    refine ev_aload_n (pc := 15) 0 dX12_found_15 rfl ?_
    refine gf_X12_68 (pc := 16) rfl dX12_found_16 ?_
    refine ev_icmp_ge (pc := 19) 28 (by decide) dX12_found_19 ?_ ?_
    · refine ev_bipush (pc := 28) 10 k_bipush_10 dX12_found_28 ?_
      refine ev_aload_n (pc := 30) 0 dX12_found_30 rfl ?_
      refine gf_X12_77 (pc := 31) rfl dX12_found_31 ?_
      refine ev_iload_n (pc := 34) 1 dX12_found_34 rfl ?_
      refine ev_iconst (pc := 35) 1 k_iconst_1 dX12_found_35 ?_
      refine ev_iadd (pc := 36) dX12_found_36 ?_
      refine ev_iald (pc := 37) kK_55 dX12_found_37 ?_
      refine ev_imul (pc := 38) dX12_found_38 ?_
      refine ev_aload_n (pc := 39) 0 dX12_found_39 rfl ?_
      refine gf_X12_71 (pc := 40) rfl dX12_found_40 ?_
      refine ev_aload_n (pc := 43) 0 dX12_found_43 rfl ?_
      refine gf_X12_89 (pc := 44) rfl dX12_found_44 ?_
      refine ev_aload_n (pc := 47) 0 dX12_found_47 rfl ?_
      refine gf_X12_68 (pc := 48) rfl dX12_found_48 ?_
      refine ev_iconst (pc := 51) 1 k_iconst_1 dX12_found_51 ?_
      refine ev_isub (pc := 52) dX12_found_52 ?_
      refine ev_iald (pc := 53) kK_59 dX12_found_53 ?_
      refine ev_imul (pc := 54) dX12_found_54 ?_
      refine ev_icmp_le (pc := 55) 62 (by decide) dX12_found_55 ?_ ?_
      · refine ev_iconst (pc := 62) 0 k_iconst_0 dX12_found_62 ?_
        exact ev_iret (pc := 63) rfl dX12_found_63
      · refine ev_iconst (pc := 58) 1 k_iconst_1 dX12_found_58 ?_
        refine ev_goto (pc := 59) 63 (by decide) dX12_found_59 ?_
        exact ev_iret (pc := 63) rfl dX12_found_63
    · refine ev_ldcw (pc := 22) w_807 dX12_found_22 ?_
      refine ev_goto (pc := 25) 63 (by decide) dX12_found_25 ?_
      exact ev_iret (pc := 63) rfl dX12_found_63
  · refine ev_iconst (pc := 8) (-1 : Int32) k_iconst_m1 dX12_found_8 ?_
    exact ev_iret (pc := 9) rfl dX12_found_9
