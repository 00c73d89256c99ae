def F_J7_fill_53178_r28_5 (N : Nat) : Nat → Int32 → Int32 → Int32 → PI → PL → RES
  | 0, _, _, _, _, _ => none
  | n + 1, v1, v2, v3, I, L => (if v3 ≤ v2 then some (none, I, L) else gd (inb v2 256) (nmW (uI I 28 (Int32.toNatClampNeg v2) v1) (fun I1 => (F_J7_fill_53178_r28_5 N n) v1 (v2 + 1) v3 I1 L)))
set_option maxRecDepth 100000 in
theorem E_J7_fill_53178_r28_5 (N d : Nat) : ∀ (n : Nat) (v1 : Int32) (v2 : Int32) (v3 : Int32) (I : PI) (L : PL), EvW M_J7_fill_53178 (d) 5 [(0, .ref 28), (1, .int v1), (2, .int v2), (3, .int v3)] [] I L (F_J7_fill_53178_r28_5 N n v1 v2 v3 I L) := by
  intro n
  induction n with
  | zero =>
    intro v1 v2 v3 I L
    exact EvW.none
  | succ n hr_5 =>
    intro v1 v2 v3 I L
    rw [F_J7_fill_53178_r28_5]
    refine ev_iload_n (pc := 5) 2 dJ7_fill_53178_5 rfl ?_
    refine ev_iload_n (pc := 6) 3 dJ7_fill_53178_6 rfl ?_
    refine ev_icmp_ge (pc := 7) 20 (by decide) dJ7_fill_53178_7 ?_ ?_
    · exact ev_vret (pc := 20) rfl dJ7_fill_53178_20
    · refine ev_aload_n (pc := 10) 0 dJ7_fill_53178_10 rfl ?_
      refine ev_iload_n (pc := 11) 2 dJ7_fill_53178_11 rfl ?_
      refine ev_iload_n (pc := 12) 1 dJ7_fill_53178_12 rfl ?_
      refine ev_iast (pc := 13) kK_28 dJ7_fill_53178_13 ?_
      refine ev_nmW (fun I1 => ?_)
      refine ev_iinc (pc := 14) (lv' := [(2, .int (v2 + 1)), (0, .ref 28), (1, .int v1), (3, .int v3)]) dJ7_fill_53178_14 2 rfl rfl 1 k_iconst_1 rfl ?_
      refine ev_goto (pc := 17) 5 (by decide) dJ7_fill_53178_17 ?_
      refine EvW.sub [1, 2, 0, 3] rfl ?_
      exact hr_5 v1 (v2 + 1) v3 I1 L
def f_J7_fill_53178_r28 (N : Nat) (a1 : Int32) (I : PI) (L : PL) : RES := F_J7_fill_53178_r28_5 N N a1 0 256 I L
set_option maxRecDepth 100000 in
theorem ok_J7_fill_53178_r28 (N d : Nat) (a1 : Int32) (I : PI) (L : PL) : MOk M_J7_fill_53178 (d) [.ref 28, .int a1] I L (f_J7_fill_53178_r28 N a1 I L) := by
  refine MOk.of (by decide +kernel) (Nat.le_of_ble_eq_true rfl) ?_
  show EvW _ _ 0 [(0, .ref 28), (1, .int a1)] [] I L _
  rw [f_J7_fill_53178_r28]
  refine ev_iconst (pc := 0) 0 k_iconst_0 dJ7_fill_53178_0 ?_
  refine ev_istore_n (pc := 1) (lv' := [(2, .int 0), (0, .ref 28), (1, .int a1)]) dJ7_fill_53178_1 rfl rfl rfl ?_
  refine ev_aload_n (pc := 2) 1 dJ7_fill_53178_2 rfl ?_
  refine ev_alenI (pc := 3) 256 (by decide +kernel) kK_28 dJ7_fill_53178_3 ?_
  refine ev_istore_n (pc := 4) (lv' := [(3, .int 256), (2, .int 0), (0, .ref 28), (1, .int a1)]) dJ7_fill_53178_4 rfl rfl rfl ?_
  refine EvW.sub [2, 3, 1, 0] rfl ?_
  exact E_J7_fill_53178_r28_5 N d N a1 0 256 I L
def F_X8_seenByChoice_4 (N : Nat) : Nat → Int32 → Int32 → Int32 → PI → PL → RES
  | 0, _, _, _, _, _ => none
  | n + 1, v1, v2, v3, I, L => (if 256 ≤ v3 then some (some (.int v2), I, L) else bI (f_J6_bitCount_0f7a4 N (v3 &&& v1) I L) (fun x1 I2 L3 => gd (inb 1 6) ((if x1 < (I2 13 (Int32.toNatClampNeg 1)) then (F_X8_seenByChoice_4 N n) v1 v2 (v3 + 1) I2 L3 else gd (inb v3 256) (nmI (v2 + (I2 28 (Int32.toNatClampNeg v3))) (fun x4 => (F_X8_seenByChoice_4 N n) v1 x4 (v3 + 1) I2 L3))))))
set_option maxRecDepth 100000 in
theorem E_X8_seenByChoice_4 (N d : Nat) : ∀ (n : Nat) (v1 : Int32) (v2 : Int32) (v3 : Int32) (I : PI) (L : PL), EvW M_X8_seenByChoice (d + 1) 4 [(0, .ref 8), (1, .int v1), (2, .int v2), (3, .int v3)] [] I L (F_X8_seenByChoice_4 N n v1 v2 v3 I L) := by
  intro n
  induction n with
  | zero =>
    intro v1 v2 v3 I L
    exact EvW.none
  | succ n hr_4 =>
    intro v1 v2 v3 I L
    rw [F_X8_seenByChoice_4]
    refine ev_iload_n (pc := 4) 3 dX8_seenByChoice_4 rfl ?_
    refine ev_aload_n (pc := 5) 0 dX8_seenByChoice_5 rfl ?_
    refine gf_X8_24 (pc := 6) rfl dX8_seenByChoice_6 ?_
    refine ev_alenI (pc := 9) 256 (by decide +kernel) kK_28 dX8_seenByChoice_9 ?_
    refine ev_icmp_ge (pc := 10) 43 (by decide) dX8_seenByChoice_10 ?_ ?_
    · refine ev_iload_n (pc := 43) 2 dX8_seenByChoice_43 rfl ?_
      exact ev_iret (pc := 44) rfl dX8_seenByChoice_44
    · refine ev_iload_n (pc := 13) 3 dX8_seenByChoice_13 rfl ?_
      refine ev_iload_n (pc := 14) 1 dX8_seenByChoice_14 rfl ?_
      refine ev_iand (pc := 15) dX8_seenByChoice_15 ?_
      refine ev_callSI (pc := 16) (d := d) (As := [.int (v3 &&& v1)]) (st := []) cv_J6_bitCount_0f7a4 rfl w_385 rfl (Nat.le_of_ble_eq_true rfl) (ok_J6_bitCount_0f7a4 N (d) (v3 &&& v1) I L) dX8_seenByChoice_16 (fun x1 I2 L3 => ?_)
      refine ev_aload_n (pc := 19) 0 dX8_seenByChoice_19 rfl ?_
      refine gf_X8_9 (pc := 20) rfl dX8_seenByChoice_20 ?_
      refine ev_iconst (pc := 23) 1 k_iconst_1 dX8_seenByChoice_23 ?_
      refine ev_iald (pc := 24) kK_13 dX8_seenByChoice_24 ?_
      refine ev_icmp_lt (pc := 25) 37 (by decide) dX8_seenByChoice_25 ?_ ?_
      · refine ev_iinc (pc := 37) (lv' := [(3, .int (v3 + 1)), (0, .ref 8), (1, .int v1), (2, .int v2)]) dX8_seenByChoice_37 3 rfl rfl 1 k_iconst_1 rfl ?_
        refine ev_goto (pc := 40) 4 (by decide) dX8_seenByChoice_40 ?_
        refine EvW.sub [1, 2, 3, 0] rfl ?_
        exact hr_4 v1 v2 (v3 + 1) I2 L3
      · refine ev_iload_n (pc := 28) 2 dX8_seenByChoice_28 rfl ?_
        refine ev_aload_n (pc := 29) 0 dX8_seenByChoice_29 rfl ?_
        refine gf_X8_24 (pc := 30) rfl dX8_seenByChoice_30 ?_
        refine ev_iload_n (pc := 33) 3 dX8_seenByChoice_33 rfl ?_
        refine ev_iald (pc := 34) kK_28 dX8_seenByChoice_34 ?_
        refine ev_iadd (pc := 35) dX8_seenByChoice_35 ?_
        refine ev_nmI (fun x4 => ?_)
        refine ev_istore_n (pc := 36) (lv' := [(2, .int x4), (0, .ref 8), (1, .int v1), (3, .int v3)]) dX8_seenByChoice_36 rfl rfl rfl ?_
        refine ev_iinc (pc := 37) (lv' := [(3, .int (v3 + 1)), (2, .int x4), (0, .ref 8), (1, .int v1)]) dX8_seenByChoice_37 3 rfl rfl 1 k_iconst_1 rfl ?_
        refine ev_goto (pc := 40) 4 (by decide) dX8_seenByChoice_40 ?_
        refine EvW.sub [2, 3, 1, 0] rfl ?_
        exact hr_4 v1 x4 (v3 + 1) I2 L3
def f_X8_seenByChoice (N : Nat) (a1 : Int32) (I : PI) (L : PL) : RES := F_X8_seenByChoice_4 N N a1 0 0 I L
set_option maxRecDepth 100000 in
theorem ok_X8_seenByChoice (N d : Nat) (a1 : Int32) (I : PI) (L : PL) : MOk M_X8_seenByChoice (d + 1) [.ref 8, .int a1] I L (f_X8_seenByChoice N a1 I L) := by
  refine MOk.of (by decide +kernel) (Nat.le_of_ble_eq_true rfl) ?_
  show EvW _ _ 0 [(0, .ref 8), (1, .int a1)] [] I L _
  rw [f_X8_seenByChoice]
  refine ev_iconst (pc := 0) 0 k_iconst_0 dX8_seenByChoice_0 ?_
  refine ev_istore_n (pc := 1) (lv' := [(2, .int 0), (0, .ref 8), (1, .int a1)]) dX8_seenByChoice_1 rfl rfl rfl ?_
  refine ev_iconst (pc := 2) 0 k_iconst_0 dX8_seenByChoice_2 ?_
  refine ev_istore_n (pc := 3) (lv' := [(3, .int 0), (2, .int 0), (0, .ref 8), (1, .int a1)]) dX8_seenByChoice_3 rfl rfl rfl ?_
  refine EvW.sub [2, 3, 1, 0] rfl ?_
  exact E_X8_seenByChoice_4 N d N a1 0 0 I L
def f_X8_prefer (N : Nat) (a1 : Int32) (a2 : Int32) (I : PI) (L : PL) : RES := (if a2 ≤ (I 8 8) then some (none, I, L) else nmW (uI I 8 7 a1) (fun I1 => nmW (uI I1 8 8 a2) (fun I2 => some (none, I2, L))))
set_option maxRecDepth 100000 in
theorem ok_X8_prefer (N d : Nat) (a1 : Int32) (a2 : Int32) (I : PI) (L : PL) : MOk M_X8_prefer (d) [.ref 8, .int a1, .int a2] I L (f_X8_prefer N a1 a2 I L) := by
  refine MOk.of (by decide +kernel) (Nat.le_of_ble_eq_true rfl) ?_
  show EvW _ _ 0 [(0, .ref 8), (1, .int a1), (2, .int a2)] [] I L _
  rw [f_X8_prefer]
  refine ev_iload_n (pc := 0) 2 dX8_prefer_0 rfl ?_
  refine ev_aload_n (pc := 1) 0 dX8_prefer_1 rfl ?_
  refine gf_X8_99 (pc := 2) rfl dX8_prefer_2 ?_
  refine ev_icmp_le (pc := 5) 18 (by decide) dX8_prefer_5 ?_ ?_
  · exact ev_vret (pc := 18) rfl dX8_prefer_18
  · refine ev_aload_n (pc := 8) 0 dX8_prefer_8 rfl ?_
    refine ev_iload_n (pc := 9) 1 dX8_prefer_9 rfl ?_
    refine pf_X8_96 (pc := 10) rfl dX8_prefer_10 ?_
    refine ev_nmW (fun I1 => ?_)
    refine ev_aload_n (pc := 13) 0 dX8_prefer_13 rfl ?_
    refine ev_iload_n (pc := 14) 2 dX8_prefer_14 rfl ?_
    refine pf_X8_99 (pc := 15) rfl dX8_prefer_15 ?_
    refine ev_nmW (fun I2 => ?_)
    exact ev_vret (pc := 18) rfl dX8_prefer_18
def F_X8_choose_71 (N : Nat) : Nat → Int32 → Int32 → Int32 → PI → PL → RES
  | 0, _, _, _, _, _ => none
  | n + 1, v1, v2, v4, I, L => bI (f_X8_lengthOf N v1 I L) (fun x6 I7 L8 => (if ((1 : Int32) <<< (x6 &&& 31)) ≤ v4 then some (none, I7, L8) else bI (f_J6_bitCount_0f7a4 N v4 I7 L8) (fun x9 I10 L11 => (if x9 = v2 then bI (f_X8_seenByChoice N v4 I10 L11) (fun x12 I13 L14 => bV (f_X8_prefer N v4 x12 I13 L14) (fun I16 L17 => (F_X8_choose_71 N n) v1 v2 (v4 + 1) I16 L17)) else (F_X8_choose_71 N n) v1 v2 (v4 + 1) I10 L11))))
set_option maxRecDepth 100000 in
theorem E_X8_choose_71 (N d : Nat) : ∀ (n : Nat) (v1 : Int32) (v2 : Int32) (v4 : Int32) (I : PI) (L : PL), EvW M_X8_choose (d + 3) 71 [(0, .ref 8), (1, .int v1), (2, .int v2), (4, .int v4)] [] I L (F_X8_choose_71 N n v1 v2 v4 I L) := by
  intro n
  induction n with
  | zero =>
    intro v1 v2 v4 I L
    exact EvW.none
  | succ n hr_71 =>
    intro v1 v2 v4 I L
    rw [F_X8_choose_71]
    refine ev_iload (pc := 71) 3 dX8_choose_71 rfl ?_
    refine ev_iconst (pc := 73) 1 k_iconst_1 dX8_choose_73 ?_
    refine ev_aload_n (pc := 74) 0 dX8_choose_74 rfl ?_
    refine ev_iload_n (pc := 75) 1 dX8_choose_75 rfl ?_
    refine ev_callVI (pc := 76) (d := d + 2) (As := [.int v1]) (st := [.int 1, .int v4]) cv_X8_lengthOf rfl w_371 rfl (Nat.le_of_ble_eq_true rfl) (ok_X8_lengthOf N (d + 2) v1 I L) dX8_choose_76 (fun x6 I7 L8 => ?_)
    refine ev_ishl (pc := 79) dX8_choose_79 ?_
    refine ev_icmp_ge (pc := 80) 110 (by decide) dX8_choose_80 ?_ ?_
    · exact ev_vret (pc := 110) rfl dX8_choose_110
    · refine ev_iload (pc := 83) 3 dX8_choose_83 rfl ?_
      refine ev_callSI (pc := 85) (d := d + 2) (As := [.int v4]) (st := []) cv_J6_bitCount_0f7a4 rfl w_385 rfl (Nat.le_of_ble_eq_true rfl) (ok_J6_bitCount_0f7a4 N (d + 2) v4 I7 L8) dX8_choose_85 (fun x9 I10 L11 => ?_)
      refine ev_iload_n (pc := 88) 2 dX8_choose_88 rfl ?_
      refine ev_icmp_ne (pc := 89) 104 (by decide) dX8_choose_89 ?_ ?_
      · refine ev_iinc (pc := 104) (lv' := [(4, .int (v4 + 1)), (0, .ref 8), (1, .int v1), (2, .int v2)]) dX8_choose_104 3 rfl rfl 1 k_iconst_1 rfl ?_
        refine ev_goto (pc := 107) 71 (by decide) dX8_choose_107 ?_
        refine EvW.sub [1, 2, 3, 0] rfl ?_
        exact hr_71 v1 v2 (v4 + 1) I10 L11
      · refine ev_aload_n (pc := 92) 0 dX8_choose_92 rfl ?_
        refine ev_iload (pc := 93) 3 dX8_choose_93 rfl ?_
        refine ev_aload_n (pc := 95) 0 dX8_choose_95 rfl ?_
        refine ev_iload (pc := 96) 3 dX8_choose_96 rfl ?_
        refine ev_callVI (pc := 98) (d := d + 2) (As := [.int v4]) (st := [.int v4, .ref 8]) cv_X8_seenByChoice rfl w_409 rfl (Nat.le_of_ble_eq_true rfl) (ok_X8_seenByChoice N (d + 1) v4 I10 L11) dX8_choose_98 (fun x12 I13 L14 => ?_)
        refine ev_callVV (pc := 101) (d := d + 2) (As := [.int v4, .int x12]) (st := []) cv_X8_prefer rfl w_413 rfl (Nat.le_of_ble_eq_true rfl) (ok_X8_prefer N (d + 2) v4 x12 I13 L14) dX8_choose_101 (fun I16 L17 => ?_)
        refine ev_iinc (pc := 104) (lv' := [(4, .int (v4 + 1)), (0, .ref 8), (1, .int v1), (2, .int v2)]) dX8_choose_104 3 rfl rfl 1 k_iconst_1 rfl ?_
        refine ev_goto (pc := 107) 71 (by decide) dX8_choose_107 ?_
        refine EvW.sub [1, 2, 3, 0] rfl ?_
        exact hr_71 v1 v2 (v4 + 1) I16 L17
def F_X8_choose_11 (N : Nat) : Nat → Int32 → Int32 → Int32 → Int32 → PI → PL → RES
  | 0, _, _, _, _, _, _ => none
  | n + 1, v1, v2, v3, v4, I, L => (if v3 < v4 then nmW (uI I 8 7 (-1 : Int32)) (fun I4 => nmW (uI I4 8 8 (-1 : Int32)) (fun I5 => F_X8_choose_71 N N v1 v2 1 I5 L)) else bI (f_X8_seeing N v1 v4 I L) (fun x18 I19 L20 => (if x18 < 0 then (F_X8_choose_11 N n) v1 v2 v3 (v4 + 1) I19 L20 else (if 256 ≤ x18 then (F_X8_choose_11 N n) v1 v2 v3 (v4 + 1) I19 L20 else gd (inb x18 256) (gd (inb x18 256) (nmW (uI I19 28 (Int32.toNatClampNeg x18) ((I19 28 (Int32.toNatClampNeg x18)) + 1)) (fun I21 => (F_X8_choose_11 N n) v1 v2 v3 (v4 + 1) I21 L20)))))))
set_option maxRecDepth 100000 in
theorem E_X8_choose_11 (N d : Nat) : ∀ (n : Nat) (v1 : Int32) (v2 : Int32) (v3 : Int32) (v4 : Int32) (I : PI) (L : PL), EvW M_X8_choose (d + 3) 11 [(0, .ref 8), (1, .int v1), (2, .int v2), (3, .int v3), (4, .int v4)] [] I L (F_X8_choose_11 N n v1 v2 v3 v4 I L) := by
  intro n
  induction n with
  | zero =>
    intro v1 v2 v3 v4 I L
    exact EvW.none
  | succ n hr_11 =>
    intro v1 v2 v3 v4 I L
    rw [F_X8_choose_11]
    refine ev_iload (pc := 11) 4 dX8_choose_11 rfl ?_
    refine ev_iload_n (pc := 13) 3 dX8_choose_13 rfl ?_
    refine ev_icmp_gt (pc := 14) 58 (by decide) dX8_choose_14 ?_ ?_
    · refine ev_aload_n (pc := 58) 0 dX8_choose_58 rfl ?_
      refine ev_iconst (pc := 59) (-1 : Int32) k_iconst_m1 dX8_choose_59 ?_
      refine pf_X8_96 (pc := 60) rfl dX8_choose_60 ?_
      refine ev_nmW (fun I4 => ?_)
      refine ev_aload_n (pc := 63) 0 dX8_choose_63 rfl ?_
      refine ev_iconst (pc := 64) (-1 : Int32) k_iconst_m1 dX8_choose_64 ?_
      refine pf_X8_99 (pc := 65) rfl dX8_choose_65 ?_
      refine ev_nmW (fun I5 => ?_)
      refine ev_iconst (pc := 68) 1 k_iconst_1 dX8_choose_68 ?_
      refine ev_istore (pc := 69) (lv' := [(4, .int 1), (0, .ref 8), (1, .int v1), (2, .int v2), (3, .int v3)]) dX8_choose_69 rfl rfl ?_
      refine EvW.sub [1, 2, 3, 0] rfl ?_
      exact E_X8_choose_71 N d N v1 v2 1 I5 L
    · refine ev_aload_n (pc := 17) 0 dX8_choose_17 rfl ?_
      refine ev_iload_n (pc := 18) 1 dX8_choose_18 rfl ?_
      refine ev_iload (pc := 19) 4 dX8_choose_19 rfl ?_
      refine ev_callVI (pc := 21) (d := d + 2) (As := [.int v1, .int v4]) (st := []) cv_X8_seeing rfl w_384 rfl (Nat.le_of_ble_eq_true rfl) (ok_X8_seeing N (d) v1 v4 I L) dX8_choose_21 (fun x18 I19 L20 => ?_)
      refine ev_istore (pc := 24) (lv' := [(5, .int x18), (0, .ref 8), (1, .int v1), (2, .int v2), (3, .int v3), (4, .int v4)]) dX8_choose_24 rfl rfl ?_
      refine ev_iload (pc := 26) 0 dX8_choose_26 rfl ?_
      refine ev_if_lt (pc := 28) 52 (by decide) dX8_choose_28 ?_ ?_
      · refine ev_iinc (pc := 52) (lv' := [(4, .int (v4 + 1)), (5, .int x18), (0, .ref 8), (1, .int v1), (2, .int v2), (3, .int v3)]) dX8_choose_52 5 rfl rfl 1 k_iconst_1 rfl ?_
        refine ev_goto (pc := 55) 11 (by decide) dX8_choose_55 ?_
        refine EvW.sub [2, 3, 4, 5, 0] rfl ?_
        exact hr_11 v1 v2 v3 (v4 + 1) I19 L20
      · refine ev_iload (pc := 31) 0 dX8_choose_31 rfl ?_
        refine ev_aload_n (pc := 33) 1 dX8_choose_33 rfl ?_
        refine gf_X8_24 (pc := 34) rfl dX8_choose_34 ?_
        refine ev_alenI (pc := 37) 256 (by decide +kernel) kK_28 dX8_choose_37 ?_
        refine ev_icmp_ge (pc := 38) 52 (by decide) dX8_choose_38 ?_ ?_
        · refine ev_iinc (pc := 52) (lv' := [(4, .int (v4 + 1)), (5, .int x18), (0, .ref 8), (1, .int v1), (2, .int v2), (3, .int v3)]) dX8_choose_52 5 rfl rfl 1 k_iconst_1 rfl ?_
          refine ev_goto (pc := 55) 11 (by decide) dX8_choose_55 ?_
          refine EvW.sub [2, 3, 4, 5, 0] rfl ?_
          exact hr_11 v1 v2 v3 (v4 + 1) I19 L20
        · refine ev_aload_n (pc := 41) 1 dX8_choose_41 rfl ?_
          refine gf_X8_24 (pc := 42) rfl dX8_choose_42 ?_
          refine ev_iload (pc := 45) 0 dX8_choose_45 rfl ?_
          refine ev_dup2 (pc := 47) rfl rfl dX8_choose_47 ?_
          refine ev_iald (pc := 48) kK_28 dX8_choose_48 ?_
          refine ev_iconst (pc := 49) 1 k_iconst_1 dX8_choose_49 ?_
          refine ev_iadd (pc := 50) dX8_choose_50 ?_
          refine ev_iast (pc := 51) kK_28 dX8_choose_51 ?_
          refine ev_nmW (fun I21 => ?_)
          refine ev_iinc (pc := 52) (lv' := [(4, .int (v4 + 1)), (5, .int x18), (0, .ref 8), (1, .int v1), (2, .int v2), (3, .int v3)]) dX8_choose_52 5 rfl rfl 1 k_iconst_1 rfl ?_
          refine ev_goto (pc := 55) 11 (by decide) dX8_choose_55 ?_
          refine EvW.sub [2, 3, 4, 5, 0] rfl ?_
          exact hr_11 v1 v2 v3 (v4 + 1) I21 L20
def f_X8_choose (N : Nat) (a1 : Int32) (a2 : Int32) (a3 : Int32) (I : PI) (L : PL) : RES := bV (f_J7_fill_53178_r28 N 0 I L) (fun I2 L3 => F_X8_choose_11 N N a1 a2 a3 1 I2 L3)
set_option maxRecDepth 100000 in
theorem ok_X8_choose (N d : Nat) (a1 : Int32) (a2 : Int32) (a3 : Int32) (I : PI) (L : PL) : MOk M_X8_choose (d + 3) [.ref 8, .int a1, .int a2, .int a3] I L (f_X8_choose N a1 a2 a3 I L) := by
  refine MOk.of (by decide +kernel) (Nat.le_of_ble_eq_true rfl) ?_
  show EvW _ _ 0 [(0, .ref 8), (1, .int a1), (2, .int a2), (3, .int a3)] [] I L _
  rw [f_X8_choose]
  refine ev_aload_n (pc := 0) 0 dX8_choose_0 rfl ?_
  refine gf_X8_24 (pc := 1) rfl dX8_choose_1 ?_
  refine ev_iconst (pc := 4) 0 k_iconst_0 dX8_choose_4 ?_
  refine ev_callSV (pc := 5) (d := d + 2) (As := [.ref 28, .int 0]) (st := []) cv_J7_fill_53178 rfl w_403 rfl (Nat.le_of_ble_eq_true rfl) (ok_J7_fill_53178_r28 N (d + 2) 0 I L) dX8_choose_5 (fun I2 L3 => ?_)
  refine ev_iconst (pc := 8) 1 k_iconst_1 dX8_choose_8 ?_
  refine ev_istore (pc := 9) (lv' := [(4, .int 1), (0, .ref 8), (1, .int a1), (2, .int a2), (3, .int a3)]) dX8_choose_9 rfl rfl ?_
  refine EvW.sub [1, 2, 3, 4, 0] rfl ?_
  exact E_X8_choose_11 N d N a1 a2 a3 1 I2 L3
def f_X11_choice (N : Nat) (a1 : Int32) (a2 : Int32) (a3 : Int32) (a4 : Int32) (I : PI) (L : PL) : RES := bI (f_X8_has N a1 I L) (fun x1 I2 L3 => (if x1 = 0 then some (some (.int (-1 : Int32)), I2, L3) else bI (f_X8_lengthOf N a1 I2 L3) (fun x4 I5 L6 => bI (f_X11_within N a2 1 x4 I5 L6) (fun x7 I8 L9 => (if x7 = 0 then some (some (.int (-1 : Int32)), I8, L9) else bI (f_X11_within N a3 1 999 I8 L9) (fun x10 I11 L12 => (if x10 = 0 then some (some (.int (-1 : Int32)), I11, L12) else bI (f_X11_within N a4 0 1 I11 L12) (fun x13 I14 L15 => (if x13 = 0 then some (some (.int (-1 : Int32)), I14, L15) else bV (f_X8_choose N a1 a2 a3 I14 L15) (fun I17 L18 => (if a4 = 0 then some (some (.int (I17 8 7)), I17, L18) else some (some (.int (I17 8 8)), I17, L18))))))))))))
set_option maxRecDepth 100000 in
theorem ok_X11_choice (N d : Nat) (a1 : Int32) (a2 : Int32) (a3 : Int32) (a4 : Int32) (I : PI) (L : PL) : MOk M_X11_choice (d + 4) [.ref 11, .int a1, .int a2, .int a3, .int a4] I L (f_X11_choice N a1 a2 a3 a4 I L) := by
  refine MOk.of (by decide +kernel) (Nat.le_of_ble_eq_true rfl) ?_
  show EvW _ _ 0 [(0, .ref 11), (1, .int a1), (2, .int a2), (3, .int a3), (4, .int a4)] [] I L _
  rw [f_X11_choice]
  refine ev_aload_n (pc := 0) 0 dX11_choice_0 rfl ?_
  refine gf_X11_66 (pc := 1) rfl dX11_choice_1 ?_
  refine ev_iload_n (pc := 4) 1 dX11_choice_4 rfl ?_
  refine ev_callVI (pc := 5) (d := d + 3) (As := [.int a1]) (st := []) cv_X8_has rfl w_256 rfl (Nat.le_of_ble_eq_true rfl) (ok_X8_has N (d + 3) a1 I L) dX11_choice_5 (fun x1 I2 L3 => ?_)
  refine ev_if_eq (pc := 8) 48 (by decide) dX11_choice_8 ?_ ?_
  · refine ev_iconst (pc := 48) (-1 : Int32) k_iconst_m1 dX11_choice_48 ?_
    exact ev_iret (pc := 49) rfl dX11_choice_49
  · refine ev_iload_n (pc := 11) 2 dX11_choice_11 rfl ?_
    refine ev_iconst (pc := 12) 1 k_iconst_1 dX11_choice_12 ?_
    refine ev_aload_n (pc := 13) 0 dX11_choice_13 rfl ?_
    refine gf_X11_66 (pc := 14) rfl dX11_choice_14 ?_
    refine ev_iload_n (pc := 17) 1 dX11_choice_17 rfl ?_
    refine ev_callVI (pc := 18) (d := d + 3) (As := [.int a1]) (st := [.int 1, .int a2]) cv_X8_lengthOf rfl w_265 rfl (Nat.le_of_ble_eq_true rfl) (ok_X8_lengthOf N (d + 3) a1 I2 L3) dX11_choice_18 (fun x4 I5 L6 => ?_)
    refine ev_callSI (pc := 21) (d := d + 3) (As := [.int a2, .int 1, .int x4]) (st := []) cv_X11_within rfl w_18 rfl (Nat.le_of_ble_eq_true rfl) (ok_X11_within N (d + 3) a2 1 x4 I5 L6) dX11_choice_21 (fun x7 I8 L9 => ?_)
    refine ev_if_eq (pc := 24) 48 (by decide) dX11_choice_24 ?_ ?_
    · refine ev_iconst (pc := 48) (-1 : Int32) k_iconst_m1 dX11_choice_48 ?_
      exact ev_iret (pc := 49) rfl dX11_choice_49
    · refine ev_iload_n (pc := 27) 3 dX11_choice_27 rfl ?_
      refine ev_iconst (pc := 28) 1 k_iconst_1 dX11_choice_28 ?_
      refine ev_sipush (pc := 29) 999 k_sipush_999 dX11_choice_29 ?_
      refine ev_callSI (pc := 32) (d := d + 3) (As := [.int a3, .int 1, .int 999]) (st := []) cv_X11_within rfl w_18 rfl (Nat.le_of_ble_eq_true rfl) (ok_X11_within N (d + 3) a3 1 999 I8 L9) dX11_choice_32 (fun x10 I11 L12 => ?_)
      refine ev_if_eq (pc := 35) 48 (by decide) dX11_choice_35 ?_ ?_
      · refine ev_iconst (pc := 48) (-1 : Int32) k_iconst_m1 dX11_choice_48 ?_
        exact ev_iret (pc := 49) rfl dX11_choice_49
      · refine ev_iload (pc := 38) 4 dX11_choice_38 rfl ?_
        refine ev_iconst (pc := 40) 0 k_iconst_0 dX11_choice_40 ?_
        refine ev_iconst (pc := 41) 1 k_iconst_1 dX11_choice_41 ?_
        refine ev_callSI (pc := 42) (d := d + 3) (As := [.int a4, .int 0, .int 1]) (st := []) cv_X11_within rfl w_18 rfl (Nat.le_of_ble_eq_true rfl) (ok_X11_within N (d + 3) a4 0 1 I11 L12) dX11_choice_42 (fun x13 I14 L15 => ?_)
        refine ev_if_ne (pc := 45) 50 (by decide) dX11_choice_45 ?_ ?_
        · refine ev_aload_n (pc := 50) 0 dX11_choice_50 rfl ?_
          refine gf_X11_66 (pc := 51) rfl dX11_choice_51 ?_
          refine ev_iload_n (pc := 54) 1 dX11_choice_54 rfl ?_
          refine ev_iload_n (pc := 55) 2 dX11_choice_55 rfl ?_
          refine ev_iload_n (pc := 56) 3 dX11_choice_56 rfl ?_
          refine ev_callVV (pc := 57) (d := d + 3) (As := [.int a1, .int a2, .int a3]) (st := []) cv_X8_choose rfl w_417 rfl (Nat.le_of_ble_eq_true rfl) (ok_X8_choose N (d) a1 a2 a3 I14 L15) dX11_choice_57 (fun I17 L18 => ?_)
          refine ev_iload (pc := 60) 4 dX11_choice_60 rfl ?_
          refine ev_if_ne (pc := 62) 75 (by decide) dX11_choice_62 ?_ ?_
          · refine ev_aload_n (pc := 75) 0 dX11_choice_75 rfl ?_
            refine gf_X11_66 (pc := 76) rfl dX11_choice_76 ?_
            refine gf_X11_239 (pc := 79) rfl dX11_choice_79 ?_
            exact ev_iret (pc := 82) rfl dX11_choice_82
          · refine ev_aload_n (pc := 65) 0 dX11_choice_65 rfl ?_
            refine gf_X11_66 (pc := 66) rfl dX11_choice_66 ?_
            refine gf_X11_236 (pc := 69) rfl dX11_choice_69 ?_
            refine ev_goto (pc := 72) 82 (by decide) dX11_choice_72 ?_
            exact ev_iret (pc := 82) rfl dX11_choice_82
        · refine ev_iconst (pc := 48) (-1 : Int32) k_iconst_m1 dX11_choice_48 ?_
          exact ev_iret (pc := 49) rfl dX11_choice_49
def f_X8_putReading (N : Nat) (a1 : Int32) (a2 : Int32) (I : PI) (L : PL) : RES := (if a1 < 0 then gd (decide (0 &&& 1 = 0)) (some (some (.int 0), I, L)) else (if 8 ≤ a1 then gd (decide (0 &&& 1 = 0)) (some (some (.int 0), I, L)) else (if a2 < (-1 : Int32) then gd (decide (0 &&& 1 = 0)) (some (some (.int 0), I, L)) else (if a2 ≤ 98 then gd (inb a1 8) (nmW (uI I 27 (Int32.toNatClampNeg a1) a2) (fun I1 => gd (decide (1 &&& 1 = 1)) (some (some (.int 1), I1, L)))) else gd (decide (0 &&& 1 = 0)) (some (some (.int 0), I, L))))))
set_option maxRecDepth 100000 in
theorem ok_X8_putReading (N d : Nat) (a1 : Int32) (a2 : Int32) (I : PI) (L : PL) : MOk M_X8_putReading (d) [.ref 8, .int a1, .int a2] I L (f_X8_putReading N a1 a2 I L) := by
  refine MOk.of (by decide +kernel) (Nat.le_of_ble_eq_true rfl) ?_
  show EvW _ _ 0 [(0, .ref 8), (1, .int a1), (2, .int a2)] [] I L _
  rw [f_X8_putReading]
  refine ev_iload_n (pc := 0) 1 dX8_putReading_0 rfl ?_
  refine ev_if_lt (pc := 1) 24 (by decide) dX8_putReading_1 ?_ ?_
  · refine ev_iconst (pc := 24) 0 k_iconst_0 dX8_putReading_24 ?_
    exact ev_zret (pc := 25) rfl dX8_putReading_25
  · refine ev_iload_n (pc := 4) 1 dX8_putReading_4 rfl ?_
    refine ev_aload_n (pc := 5) 0 dX8_putReading_5 rfl ?_
    refine gf_X8_21 (pc := 6) rfl dX8_putReading_6 ?_
    refine ev_alenI (pc := 9) 8 (by decide +kernel) kK_27 dX8_putReading_9 ?_
    refine ev_icmp_ge (pc := 10) 24 (by decide) dX8_putReading_10 ?_ ?_
    · refine ev_iconst (pc := 24) 0 k_iconst_0 dX8_putReading_24 ?_
      exact ev_zret (pc := 25) rfl dX8_putReading_25
    · refine ev_iload_n (pc := 13) 2 dX8_putReading_13 rfl ?_
      refine ev_iconst (pc := 14) (-1 : Int32) k_iconst_m1 dX8_putReading_14 ?_
      refine ev_icmp_lt (pc := 15) 24 (by decide) dX8_putReading_15 ?_ ?_
      · refine ev_iconst (pc := 24) 0 k_iconst_0 dX8_putReading_24 ?_
        exact ev_zret (pc := 25) rfl dX8_putReading_25
      · refine ev_iload_n (pc := 18) 2 dX8_putReading_18 rfl ?_
        refine ev_bipush (pc := 19) 98 k_bipush_98 dX8_putReading_19 ?_
        refine ev_icmp_le (pc := 21) 26 (by decide) dX8_putReading_21 ?_ ?_
        · refine ev_aload_n (pc := 26) 0 dX8_putReading_26 rfl ?_
          refine gf_X8_21 (pc := 27) rfl dX8_putReading_27 ?_
          refine ev_iload_n (pc := 30) 1 dX8_putReading_30 rfl ?_
          refine ev_iload_n (pc := 31) 2 dX8_putReading_31 rfl ?_
          refine ev_iast (pc := 32) kK_27 dX8_putReading_32 ?_
          refine ev_nmW (fun I1 => ?_)
          refine ev_iconst (pc := 33) 1 k_iconst_1 dX8_putReading_33 ?_
          exact ev_zret (pc := 34) rfl dX8_putReading_34
        · refine ev_iconst (pc := 24) 0 k_iconst_0 dX8_putReading_24 ?_
          exact ev_zret (pc := 25) rfl dX8_putReading_25
def f_X11_read (N : Nat) (a1 : Int32) (a2 : Int32) (I : PI) (L : PL) : RES := bI (f_X8_putReading N a1 a2 I L) (fun x1 I2 L3 => gd (decide (x1 &&& 1 = x1)) (some (some (.int x1), I2, L3)))
set_option maxRecDepth 100000 in
theorem ok_X11_read (N d : Nat) (a1 : Int32) (a2 : Int32) (I : PI) (L : PL) : MOk M_X11_read (d + 1) [.ref 11, .int a1, .int a2] I L (f_X11_read N a1 a2 I L) := by
  refine MOk.of (by decide +kernel) (Nat.le_of_ble_eq_true rfl) ?_
  show EvW _ _ 0 [(0, .ref 11), (1, .int a1), (2, .int a2)] [] I L _
  rw [f_X11_read]
  refine ev_aload_n (pc := 0) 0 dX11_read_0 rfl ?_
  refine gf_X11_66 (pc := 1) rfl dX11_read_1 ?_
  refine ev_iload_n (pc := 4) 1 dX11_read_4 rfl ?_
  refine ev_iload_n (pc := 5) 2 dX11_read_5 rfl ?_
  refine ev_callVI (pc := 6) (d := d) (As := [.int a1, .int a2]) (st := []) cv_X8_putReading rfl w_422 rfl (Nat.le_of_ble_eq_true rfl) (ok_X8_putReading N (d) a1 a2 I L) dX11_read_6 (fun x1 I2 L3 => ?_)
  exact ev_zret (pc := 9) rfl dX11_read_9
def F_X8_readingsFit_2 (N : Nat) : Nat → Int32 → Int32 → PI → PL → RES
  | 0, _, _, _, _ => none
  | n + 1, v1, v2, I, L => (if 8 ≤ v2 then gd (decide (1 &&& 1 = 1)) (some (some (.int 1), I, L)) else gd (inb v2 8) ((if (I 27 (Int32.toNatClampNeg v2)) = (-1 : Int32) then (F_X8_readingsFit_2 N n) v1 (v2 + 1) I L else gd (inb v2 8) (bI (f_X8_number N v1 v2 I L) (fun x1 I2 L3 => (if (I 27 (Int32.toNatClampNeg v2)) < x1 then (F_X8_readingsFit_2 N n) v1 (v2 + 1) I2 L3 else gd (decide (0 &&& 1 = 0)) (some (some (.int 0), I2, L3))))))))
set_option maxRecDepth 100000 in
theorem E_X8_readingsFit_2 (N d : Nat) : ∀ (n : Nat) (v1 : Int32) (v2 : Int32) (I : PI) (L : PL), EvW M_X8_readingsFit (d + 2) 2 [(0, .ref 8), (1, .int v1), (2, .int v2)] [] I L (F_X8_readingsFit_2 N n v1 v2 I L) := by
  intro n
  induction n with
  | zero =>
    intro v1 v2 I L
    exact EvW.none
  | succ n hr_2 =>
    intro v1 v2 I L
    rw [F_X8_readingsFit_2]
    refine ev_iload_n (pc := 2) 2 dX8_readingsFit_2 rfl ?_
    refine ev_aload_n (pc := 3) 0 dX8_readingsFit_3 rfl ?_
    refine gf_X8_21 (pc := 4) rfl dX8_readingsFit_4 ?_
    refine ev_alenI (pc := 7) 8 (by decide +kernel) kK_27 dX8_readingsFit_7 ?_
    refine ev_icmp_ge (pc := 8) 44 (by decide) dX8_readingsFit_8 ?_ ?_
    · refine ev_iconst (pc := 44) 1 k_iconst_1 dX8_readingsFit_44 ?_
      exact ev_zret (pc := 45) rfl dX8_readingsFit_45
    · refine ev_aload_n (pc := 11) 0 dX8_readingsFit_11 rfl ?_
      refine gf_X8_21 (pc := 12) rfl dX8_readingsFit_12 ?_
      refine ev_iload_n (pc := 15) 2 dX8_readingsFit_15 rfl ?_
      refine ev_iald (pc := 16) kK_27 dX8_readingsFit_16 ?_
      refine ev_iconst (pc := 17) (-1 : Int32) k_iconst_m1 dX8_readingsFit_17 ?_
      refine ev_icmp_eq (pc := 18) 38 (by decide) dX8_readingsFit_18 ?_ ?_
      · refine ev_iinc (pc := 38) (lv' := [(2, .int (v2 + 1)), (0, .ref 8), (1, .int v1)]) dX8_readingsFit_38 2 rfl rfl 1 k_iconst_1 rfl ?_
        refine ev_goto (pc := 41) 2 (by decide) dX8_readingsFit_41 ?_
        refine EvW.sub [1, 2, 0] rfl ?_
        exact hr_2 v1 (v2 + 1) I L
      · refine ev_aload_n (pc := 21) 0 dX8_readingsFit_21 rfl ?_
        refine gf_X8_21 (pc := 22) rfl dX8_readingsFit_22 ?_
        refine ev_iload_n (pc := 25) 2 dX8_readingsFit_25 rfl ?_
        refine ev_iald (pc := 26) kK_27 dX8_readingsFit_26 ?_
        refine ev_aload_n (pc := 27) 0 dX8_readingsFit_27 rfl ?_
        refine ev_iload_n (pc := 28) 1 dX8_readingsFit_28 rfl ?_
        refine ev_iload_n (pc := 29) 2 dX8_readingsFit_29 rfl ?_
        refine ev_callVI (pc := 30) (d := d + 1) (As := [.int v1, .int v2]) (st := [.int (I 27 (Int32.toNatClampNeg v2))]) cv_X8_number rfl w_372 rfl (Nat.le_of_ble_eq_true rfl) (ok_X8_number N (d) v1 v2 I L) dX8_readingsFit_30 (fun x1 I2 L3 => ?_)
        refine ev_icmp_lt (pc := 33) 38 (by decide) dX8_readingsFit_33 ?_ ?_
        · refine ev_iinc (pc := 38) (lv' := [(2, .int (v2 + 1)), (0, .ref 8), (1, .int v1)]) dX8_readingsFit_38 2 rfl rfl 1 k_iconst_1 rfl ?_
          refine ev_goto (pc := 41) 2 (by decide) dX8_readingsFit_41 ?_
          refine EvW.sub [1, 2, 0] rfl ?_
          exact hr_2 v1 (v2 + 1) I2 L3
        · refine ev_iconst (pc := 36) 0 k_iconst_0 dX8_readingsFit_36 ?_
          exact ev_zret (pc := 37) rfl dX8_readingsFit_37
def f_X8_readingsFit (N : Nat) (a1 : Int32) (I : PI) (L : PL) : RES := F_X8_readingsFit_2 N N a1 0 I L
set_option maxRecDepth 100000 in
theorem ok_X8_readingsFit (N d : Nat) (a1 : Int32) (I : PI) (L : PL) : MOk M_X8_readingsFit (d + 2) [.ref 8, .int a1] I L (f_X8_readingsFit N a1 I L) := by
  refine MOk.of (by decide +kernel) (Nat.le_of_ble_eq_true rfl) ?_
  show EvW _ _ 0 [(0, .ref 8), (1, .int a1)] [] I L _
  rw [f_X8_readingsFit]
  refine ev_iconst (pc := 0) 0 k_iconst_0 dX8_readingsFit_0 ?_
  refine ev_istore_n (pc := 1) (lv' := [(2, .int 0), (0, .ref 8), (1, .int a1)]) dX8_readingsFit_1 rfl rfl rfl ?_
  refine EvW.sub [1, 2, 0] rfl ?_
  exact E_X8_readingsFit_2 N d N a1 0 I L
def F_X8_manyToldOff_6 (N : Nat) : Nat → Int32 → Int32 → Int32 → Int32 → Int32 → PI → PL → RES
  | 0, _, _, _, _, _, _, _ => none
  | n + 1, v1, v2, v3, v4, v5, I, L => (if 8 ≤ v5 then some (some (.int v4), I, L) else bI (f_X8_number N v1 v5 I L) (fun x1 I2 L3 => gd (inb v5 8) ((if (I2 27 (Int32.toNatClampNeg v5)) = (-1 : Int32) then (F_X8_manyToldOff_6 N n) v1 v2 v3 v4 (v5 + 1) I2 L3 else (if x1 = (-1 : Int32) then (F_X8_manyToldOff_6 N n) v1 v2 v3 v4 (v5 + 1) I2 L3 else bI (f_X8_remainder N v2 x1 I2 L3) (fun x4 I5 L6 => gd (inb v5 8) (nmI (jabs (x4 - (I5 27 (Int32.toNatClampNeg v5)))) (fun x7 => (if (jmin x7 (x1 - x7)) ≤ v3 then (F_X8_manyToldOff_6 N n) v1 v2 v3 v4 (v5 + 1) I5 L6 else (F_X8_manyToldOff_6 N n) v1 v2 v3 (v4 + 1) (v5 + 1) I5 L6)))))))))
set_option maxRecDepth 100000 in
theorem E_X8_manyToldOff_6 (N d : Nat) : ∀ (n : Nat) (v1 : Int32) (v2 : Int32) (v3 : Int32) (v4 : Int32) (v5 : Int32) (I : PI) (L : PL), EvW M_X8_manyToldOff (d + 2) 6 [(0, .ref 8), (1, .int v1), (2, .int v2), (3, .int v3), (4, .int v4), (5, .int v5)] [] I L (F_X8_manyToldOff_6 N n v1 v2 v3 v4 v5 I L) := by
  intro n
  induction n with
  | zero =>
    intro v1 v2 v3 v4 v5 I L
    exact EvW.none
  | succ n hr_6 =>
    intro v1 v2 v3 v4 v5 I L
    rw [F_X8_manyToldOff_6]
    refine ev_iload (pc := 6) 5 dX8_manyToldOff_6 rfl ?_
    refine ev_aload_n (pc := 8) 0 dX8_manyToldOff_8 rfl ?_
    refine gf_X8_21 (pc := 9) rfl dX8_manyToldOff_9 ?_
    refine ev_alenI (pc := 12) 8 (by decide +kernel) kK_27 dX8_manyToldOff_12 ?_
    refine ev_icmp_ge (pc := 13) 84 (by decide) dX8_manyToldOff_13 ?_ ?_
    · refine ev_iload (pc := 84) 4 dX8_manyToldOff_84 rfl ?_
      exact ev_iret (pc := 86) rfl dX8_manyToldOff_86
    · refine ev_aload_n (pc := 16) 0 dX8_manyToldOff_16 rfl ?_
      refine ev_iload_n (pc := 17) 1 dX8_manyToldOff_17 rfl ?_
      refine ev_iload (pc := 18) 5 dX8_manyToldOff_18 rfl ?_
      refine ev_callVI (pc := 20) (d := d + 1) (As := [.int v1, .int v5]) (st := []) cv_X8_number rfl w_372 rfl (Nat.le_of_ble_eq_true rfl) (ok_X8_number N (d) v1 v5 I L) dX8_manyToldOff_20 (fun x1 I2 L3 => ?_)
      refine ev_istore (pc := 23) (lv' := [(6, .int x1), (0, .ref 8), (1, .int v1), (2, .int v2), (3, .int v3), (4, .int v4), (5, .int v5)]) dX8_manyToldOff_23 rfl rfl ?_
      refine ev_aload_n (pc := 25) 1 dX8_manyToldOff_25 rfl ?_
      refine gf_X8_21 (pc := 26) rfl dX8_manyToldOff_26 ?_
      refine ev_iload (pc := 29) 6 dX8_manyToldOff_29 rfl ?_
      refine ev_iald (pc := 31) kK_27 dX8_manyToldOff_31 ?_
      refine ev_iconst (pc := 32) (-1 : Int32) k_iconst_m1 dX8_manyToldOff_32 ?_
      refine ev_icmp_eq (pc := 33) 78 (by decide) dX8_manyToldOff_33 ?_ ?_
      · refine ev_iinc (pc := 78) (lv' := [(5, .int (v5 + 1)), (6, .int x1), (0, .ref 8), (1, .int v1), (2, .int v2), (3, .int v3), (4, .int v4)]) dX8_manyToldOff_78 6 rfl rfl 1 k_iconst_1 rfl ?_
        refine ev_goto (pc := 81) 6 (by decide) dX8_manyToldOff_81 ?_
        refine EvW.sub [2, 3, 4, 5, 6, 0] rfl ?_
        exact hr_6 v1 v2 v3 v4 (v5 + 1) I2 L3
      · refine ev_iload (pc := 36) 0 dX8_manyToldOff_36 rfl ?_
        refine ev_iconst (pc := 38) (-1 : Int32) k_iconst_m1 dX8_manyToldOff_38 ?_
        refine ev_icmp_eq (pc := 39) 78 (by decide) dX8_manyToldOff_39 ?_ ?_
        · refine ev_iinc (pc := 78) (lv' := [(5, .int (v5 + 1)), (6, .int x1), (0, .ref 8), (1, .int v1), (2, .int v2), (3, .int v3), (4, .int v4)]) dX8_manyToldOff_78 6 rfl rfl 1 k_iconst_1 rfl ?_
          refine ev_goto (pc := 81) 6 (by decide) dX8_manyToldOff_81 ?_
          refine EvW.sub [2, 3, 4, 5, 6, 0] rfl ?_
          exact hr_6 v1 v2 v3 v4 (v5 + 1) I2 L3
        · refine ev_iload_n (pc := 42) 3 dX8_manyToldOff_42 rfl ?_
          refine ev_iload (pc := 43) 0 dX8_manyToldOff_43 rfl ?_
          refine ev_callSI (pc := 45) (d := d + 1) (As := [.int v2, .int x1]) (st := []) cv_X8_remainder rfl w_375 rfl (Nat.le_of_ble_eq_true rfl) (ok_X8_remainder N (d + 1) v2 x1 I2 L3) dX8_manyToldOff_45 (fun x4 I5 L6 => ?_)
          refine ev_aload_n (pc := 48) 1 dX8_manyToldOff_48 rfl ?_
          refine gf_X8_21 (pc := 49) rfl dX8_manyToldOff_49 ?_
          refine ev_iload (pc := 52) 6 dX8_manyToldOff_52 rfl ?_
          refine ev_iald (pc := 54) kK_27 dX8_manyToldOff_54 ?_
          refine ev_isub (pc := 55) dX8_manyToldOff_55 ?_
          refine ev_mabs (pc := 56) (d := d + 1) w_427 w_428 w_131 w_429 (Nat.le_of_ble_eq_true rfl) dX8_manyToldOff_56 ?_
          refine ev_nmI (fun x7 => ?_)
          refine ev_istore (pc := 59) (lv' := [(7, .int x7), (6, .int x1), (0, .ref 8), (1, .int v1), (2, .int v2), (3, .int v3), (4, .int v4), (5, .int v5)]) dX8_manyToldOff_59 rfl rfl ?_
          refine ev_iload (pc := 61) 0 dX8_manyToldOff_61 rfl ?_
          refine ev_iload (pc := 63) 1 dX8_manyToldOff_63 rfl ?_
          refine ev_iload (pc := 65) 0 dX8_manyToldOff_65 rfl ?_
          refine ev_isub (pc := 67) dX8_manyToldOff_67 ?_
          refine ev_mmin (pc := 68) (d := d + 1) w_430 w_134 w_131 w_135 (Nat.le_of_ble_eq_true rfl) dX8_manyToldOff_68 ?_
          refine ev_iload_n (pc := 71) 5 dX8_manyToldOff_71 rfl ?_
          refine ev_icmp_le (pc := 72) 78 (by decide) dX8_manyToldOff_72 ?_ ?_
          · refine ev_iinc (pc := 78) (lv' := [(5, .int (v5 + 1)), (7, .int x7), (6, .int x1), (0, .ref 8), (1, .int v1), (2, .int v2), (3, .int v3), (4, .int v4)]) dX8_manyToldOff_78 7 rfl rfl 1 k_iconst_1 rfl ?_
            refine ev_goto (pc := 81) 6 (by decide) dX8_manyToldOff_81 ?_
            refine EvW.sub [3, 4, 5, 6, 7, 0] rfl ?_
            exact hr_6 v1 v2 v3 v4 (v5 + 1) I5 L6
          · refine ev_iinc (pc := 75) (lv' := [(4, .int (v4 + 1)), (7, .int x7), (6, .int x1), (0, .ref 8), (1, .int v1), (2, .int v2), (3, .int v3), (5, .int v5)]) dX8_manyToldOff_75 6 rfl rfl 1 k_iconst_1 rfl ?_
            refine ev_iinc (pc := 78) (lv' := [(5, .int (v5 + 1)), (4, .int (v4 + 1)), (7, .int x7), (6, .int x1), (0, .ref 8), (1, .int v1), (2, .int v2), (3, .int v3)]) dX8_manyToldOff_78 7 rfl rfl 1 k_iconst_1 rfl ?_
            refine ev_goto (pc := 81) 6 (by decide) dX8_manyToldOff_81 ?_
            refine EvW.sub [4, 5, 6, 7, 1, 0] rfl ?_
            exact hr_6 v1 v2 v3 (v4 + 1) (v5 + 1) I5 L6
def f_X8_manyToldOff (N : Nat) (a1 : Int32) (a2 : Int32) (a3 : Int32) (I : PI) (L : PL) : RES := F_X8_manyToldOff_6 N N a1 a2 a3 0 0 I L
set_option maxRecDepth 100000 in
theorem ok_X8_manyToldOff (N d : Nat) (a1 : Int32) (a2 : Int32) (a3 : Int32) (I : PI) (L : PL) : MOk M_X8_manyToldOff (d + 2) [.ref 8, .int a1, .int a2, .int a3] I L (f_X8_manyToldOff N a1 a2 a3 I L) := by
  refine MOk.of (by decide +kernel) (Nat.le_of_ble_eq_true rfl) ?_
  show EvW _ _ 0 [(0, .ref 8), (1, .int a1), (2, .int a2), (3, .int a3)] [] I L _
  rw [f_X8_manyToldOff]
  refine ev_iconst (pc := 0) 0 k_iconst_0 dX8_manyToldOff_0 ?_
  refine ev_istore (pc := 1) (lv' := [(4, .int 0), (0, .ref 8), (1, .int a1), (2, .int a2), (3, .int a3)]) dX8_manyToldOff_1 rfl rfl ?_
  refine ev_iconst (pc := 3) 0 k_iconst_0 dX8_manyToldOff_3 ?_
  refine ev_istore (pc := 4) (lv' := [(5, .int 0), (4, .int 0), (0, .ref 8), (1, .int a1), (2, .int a2), (3, .int a3)]) dX8_manyToldOff_4 rfl rfl ?_
  refine EvW.sub [2, 3, 4, 5, 1, 0] rfl ?_
  exact E_X8_manyToldOff_6 N d N a1 a2 a3 0 0 I L
def F_X8_unfolded_6 (N : Nat) : Nat → Int32 → Int32 → Int32 → Int32 → Int32 → Int32 → Int32 → PI → PL → RES
  | 0, _, _, _, _, _, _, _, _, _ => none
  | n + 1, v1, v2, v3, v4, v5, v6, v7, I, L => (if v2 < v7 then (if v5 = (-1 : Int32) then some (some (.int v6), I, L) else some (some (.int (-1 : Int32)), I, L)) else bI (f_X8_manyToldOff N v1 v7 v4 I L) (fun x1 I2 L3 => (if x1 ≤ v3 then (if v6 = v5 then some (some (.int v7), I2, L3) else (F_X8_unfolded_6 N n) v1 v2 v3 v4 v5 (v6 + 1) (v7 + 1) I2 L3) else (F_X8_unfolded_6 N n) v1 v2 v3 v4 v5 v6 (v7 + 1) I2 L3)))
set_option maxRecDepth 100000 in
theorem E_X8_unfolded_6 (N d : Nat) : ∀ (n : Nat) (v1 : Int32) (v2 : Int32) (v3 : Int32) (v4 : Int32) (v5 : Int32) (v6 : Int32) (v7 : Int32) (I : PI) (L : PL), EvW M_X8_unfolded (d + 3) 6 [(0, .ref 8), (1, .int v1), (2, .int v2), (3, .int v3), (4, .int v4), (5, .int v5), (6, .int v6), (7, .int v7)] [] I L (F_X8_unfolded_6 N n v1 v2 v3 v4 v5 v6 v7 I L) := by
  intro n
  induction n with
  | zero =>
    intro v1 v2 v3 v4 v5 v6 v7 I L
    exact EvW.none
  | succ n hr_6 =>
    intro v1 v2 v3 v4 v5 v6 v7 I L
    rw [F_X8_unfolded_6]
    refine ev_iload (pc := 6) 7 dX8_unfolded_6 rfl ?_
    refine ev_iload_n (pc := 8) 2 dX8_unfolded_8 rfl ?_
    refine ev_icmp_gt (pc := 9) 47 (by decide) dX8_unfolded_9 ?_ ?_
    · refine ev_iload (pc := 47) 5 dX8_unfolded_47 rfl ?_
      refine ev_iconst (pc := 49) (-1 : Int32) k_iconst_m1 dX8_unfolded_49 ?_
      refine ev_icmp_ne (pc := 50) 58 (by decide) dX8_unfolded_50 ?_ ?_
      · refine ev_iconst (pc := 58) (-1 : Int32) k_iconst_m1 dX8_unfolded_58 ?_
        exact ev_iret (pc := 59) rfl dX8_unfolded_59
      · refine ev_iload (pc := 53) 6 dX8_unfolded_53 rfl ?_
        refine ev_goto (pc := 55) 59 (by decide) dX8_unfolded_55 ?_
        exact ev_iret (pc := 59) rfl dX8_unfolded_59
    · refine ev_aload_n (pc := 12) 0 dX8_unfolded_12 rfl ?_
      refine ev_iload_n (pc := 13) 1 dX8_unfolded_13 rfl ?_
      refine ev_iload (pc := 14) 7 dX8_unfolded_14 rfl ?_
      refine ev_iload (pc := 16) 4 dX8_unfolded_16 rfl ?_
      refine ev_callVI (pc := 18) (d := d + 2) (As := [.int v1, .int v7, .int v4]) (st := []) cv_X8_manyToldOff rfl w_434 rfl (Nat.le_of_ble_eq_true rfl) (ok_X8_manyToldOff N (d) v1 v7 v4 I L) dX8_unfolded_18 (fun x1 I2 L3 => ?_)
      refine ev_iload_n (pc := 21) 3 dX8_unfolded_21 rfl ?_
      refine ev_icmp_le (pc := 22) 28 (by decide) dX8_unfolded_22 ?_ ?_
      · refine ev_iload (pc := 28) 6 dX8_unfolded_28 rfl ?_
        refine ev_iload (pc := 30) 5 dX8_unfolded_30 rfl ?_
        refine ev_icmp_ne (pc := 32) 38 (by decide) dX8_unfolded_32 ?_ ?_
        · refine ev_iinc (pc := 38) (lv' := [(6, .int (v6 + 1)), (0, .ref 8), (1, .int v1), (2, .int v2), (3, .int v3), (4, .int v4), (5, .int v5), (7, .int v7)]) dX8_unfolded_38 6 rfl rfl 1 k_iconst_1 rfl ?_
          refine ev_iinc (pc := 41) (lv' := [(7, .int (v7 + 1)), (6, .int (v6 + 1)), (0, .ref 8), (1, .int v1), (2, .int v2), (3, .int v3), (4, .int v4), (5, .int v5)]) dX8_unfolded_41 7 rfl rfl 1 k_iconst_1 rfl ?_
          refine ev_goto (pc := 44) 6 (by decide) dX8_unfolded_44 ?_
          refine EvW.sub [2, 3, 4, 5, 6, 7, 1, 0] rfl ?_
          exact hr_6 v1 v2 v3 v4 v5 (v6 + 1) (v7 + 1) I2 L3
        · refine ev_iload (pc := 35) 7 dX8_unfolded_35 rfl ?_
          exact ev_iret (pc := 37) rfl dX8_unfolded_37
      · refine ev_goto (pc := 25) 41 (by decide) dX8_unfolded_25 ?_
        refine ev_iinc (pc := 41) (lv' := [(7, .int (v7 + 1)), (0, .ref 8), (1, .int v1), (2, .int v2), (3, .int v3), (4, .int v4), (5, .int v5), (6, .int v6)]) dX8_unfolded_41 7 rfl rfl 1 k_iconst_1 rfl ?_
        refine ev_goto (pc := 44) 6 (by decide) dX8_unfolded_44 ?_
        refine EvW.sub [1, 2, 3, 4, 5, 6, 7, 0] rfl ?_
        exact hr_6 v1 v2 v3 v4 v5 v6 (v7 + 1) I2 L3
def f_X8_unfolded (N : Nat) (a1 : Int32) (a2 : Int32) (a3 : Int32) (a4 : Int32) (a5 : Int32) (I : PI) (L : PL) : RES := F_X8_unfolded_6 N N a1 a2 a3 a4 a5 0 0 I L
set_option maxRecDepth 100000 in
theorem ok_X8_unfolded (N d : Nat) (a1 : Int32) (a2 : Int32) (a3 : Int32) (a4 : Int32) (a5 : Int32) (I : PI) (L : PL) : MOk M_X8_unfolded (d + 3) [.ref 8, .int a1, .int a2, .int a3, .int a4, .int a5] I L (f_X8_unfolded N a1 a2 a3 a4 a5 I L) := by
  refine MOk.of (by decide +kernel) (Nat.le_of_ble_eq_true rfl) ?_
  show EvW _ _ 0 [(0, .ref 8), (1, .int a1), (2, .int a2), (3, .int a3), (4, .int a4), (5, .int a5)] [] I L _
  rw [f_X8_unfolded]
  refine ev_iconst (pc := 0) 0 k_iconst_0 dX8_unfolded_0 ?_
  refine ev_istore (pc := 1) (lv' := [(6, .int 0), (0, .ref 8), (1, .int a1), (2, .int a2), (3, .int a3), (4, .int a4), (5, .int a5)]) dX8_unfolded_1 rfl rfl ?_
  refine ev_iconst (pc := 3) 0 k_iconst_0 dX8_unfolded_3 ?_
  refine ev_istore (pc := 4) (lv' := [(7, .int 0), (6, .int 0), (0, .ref 8), (1, .int a1), (2, .int a2), (3, .int a3), (4, .int a4), (5, .int a5)]) dX8_unfolded_4 rfl rfl ?_
  refine EvW.sub [2, 3, 4, 5, 6, 7, 1, 0] rfl ?_
  exact E_X8_unfolded_6 N d N a1 a2 a3 a4 a5 0 0 I L
def f_X11_unfold (N : Nat) (a1 : Int32) (a2 : Int32) (a3 : Int32) (a4 : Int32) (a5 : Int32) (I : PI) (L : PL) : RES := bI (f_X8_has N a1 I L) (fun x1 I2 L3 => (if x1 = 0 then some (some (.int (-1 : Int32)), I2, L3) else bI (f_X11_within N a2 0 999 I2 L3) (fun x4 I5 L6 => (if x4 = 0 then some (some (.int (-1 : Int32)), I5, L6) else bI (f_X11_within N a3 0 8 I5 L6) (fun x7 I8 L9 => (if x7 = 0 then some (some (.int (-1 : Int32)), I8, L9) else bI (f_X11_within N a4 0 9 I8 L9) (fun x10 I11 L12 => (if x10 = 0 then some (some (.int (-1 : Int32)), I11, L12) else (if (-1 : Int32) ≤ a5 then bI (f_X8_readingsFit N a1 I11 L12) (fun x13 I14 L15 => (if x13 = 0 then some (some (.int (-1000000 : Int32)), I14, L15) else bI (f_X8_unfolded N a1 a2 a3 a4 a5 I14 L15) (fun x16 I17 L18 => some (some (.int x16), I17, L18)))) else some (some (.int (-1 : Int32)), I11, L12))))))))))
set_option maxRecDepth 100000 in
theorem ok_X11_unfold (N d : Nat) (a1 : Int32) (a2 : Int32) (a3 : Int32) (a4 : Int32) (a5 : Int32) (I : PI) (L : PL) : MOk M_X11_unfold (d + 4) [.ref 11, .int a1, .int a2, .int a3, .int a4, .int a5] I L (f_X11_unfold N a1 a2 a3 a4 a5 I L) := by
  refine MOk.of (by decide +kernel) (Nat.le_of_ble_eq_true rfl) ?_
  show EvW _ _ 0 [(0, .ref 11), (1, .int a1), (2, .int a2), (3, .int a3), (4, .int a4), (5, .int a5)] [] I L _
  rw [f_X11_unfold]
  refine ev_aload_n (pc := 0) 0 dX11_unfold_0 rfl ?_
  refine gf_X11_66 (pc := 1) rfl dX11_unfold_1 ?_
  refine ev_iload_n (pc := 4) 1 dX11_unfold_4 rfl ?_
  refine ev_callVI (pc := 5) (d := d + 3) (As := [.int a1]) (st := []) cv_X8_has rfl w_256 rfl (Nat.le_of_ble_eq_true rfl) (ok_X8_has N (d + 3) a1 I L) dX11_unfold_5 (fun x1 I2 L3 => ?_)
  refine ev_if_eq (pc := 8) 49 (by decide) dX11_unfold_8 ?_ ?_
  · refine ev_iconst (pc := 49) (-1 : Int32) k_iconst_m1 dX11_unfold_49 ?_
    exact ev_iret (pc := 50) rfl dX11_unfold_50
  · refine ev_iload_n (pc := 11) 2 dX11_unfold_11 rfl ?_
    refine ev_iconst (pc := 12) 0 k_iconst_0 dX11_unfold_12 ?_
    refine ev_sipush (pc := 13) 999 k_sipush_999 dX11_unfold_13 ?_
    refine ev_callSI (pc := 16) (d := d + 3) (As := [.int a2, .int 0, .int 999]) (st := []) cv_X11_within rfl w_18 rfl (Nat.le_of_ble_eq_true rfl) (ok_X11_within N (d + 3) a2 0 999 I2 L3) dX11_unfold_16 (fun x4 I5 L6 => ?_)
    refine ev_if_eq (pc := 19) 49 (by decide) dX11_unfold_19 ?_ ?_
    · refine ev_iconst (pc := 49) (-1 : Int32) k_iconst_m1 dX11_unfold_49 ?_
      exact ev_iret (pc := 50) rfl dX11_unfold_50
    · refine ev_iload_n (pc := 22) 3 dX11_unfold_22 rfl ?_
      refine ev_iconst (pc := 23) 0 k_iconst_0 dX11_unfold_23 ?_
      refine ev_bipush (pc := 24) 8 k_bipush_8 dX11_unfold_24 ?_
      refine ev_callSI (pc := 26) (d := d + 3) (As := [.int a3, .int 0, .int 8]) (st := []) cv_X11_within rfl w_18 rfl (Nat.le_of_ble_eq_true rfl) (ok_X11_within N (d + 3) a3 0 8 I5 L6) dX11_unfold_26 (fun x7 I8 L9 => ?_)
      refine ev_if_eq (pc := 29) 49 (by decide) dX11_unfold_29 ?_ ?_
      · refine ev_iconst (pc := 49) (-1 : Int32) k_iconst_m1 dX11_unfold_49 ?_
        exact ev_iret (pc := 50) rfl dX11_unfold_50
      · refine ev_iload (pc := 32) 4 dX11_unfold_32 rfl ?_
        refine ev_iconst (pc := 34) 0 k_iconst_0 dX11_unfold_34 ?_
        refine ev_bipush (pc := 35) 9 k_bipush_9 dX11_unfold_35 ?_
        refine ev_callSI (pc := 37) (d := d + 3) (As := [.int a4, .int 0, .int 9]) (st := []) cv_X11_within rfl w_18 rfl (Nat.le_of_ble_eq_true rfl) (ok_X11_within N (d + 3) a4 0 9 I8 L9) dX11_unfold_37 (fun x10 I11 L12 => ?_)
        refine ev_if_eq (pc := 40) 49 (by decide) dX11_unfold_40 ?_ ?_
        · refine ev_iconst (pc := 49) (-1 : Int32) k_iconst_m1 dX11_unfold_49 ?_
          exact ev_iret (pc := 50) rfl dX11_unfold_50
        · refine ev_iload (pc := 43) 5 dX11_unfold_43 rfl ?_
          refine ev_iconst (pc := 45) (-1 : Int32) k_iconst_m1 dX11_unfold_45 ?_
          refine ev_icmp_ge (pc := 46) 51 (by decide) dX11_unfold_46 ?_ ?_
          · refine ev_aload_n (pc := 51) 0 dX11_unfold_51 rfl ?_
            refine gf_X11_66 (pc := 52) rfl dX11_unfold_52 ?_
            refine ev_iload_n (pc := 55) 1 dX11_unfold_55 rfl ?_
            refine ev_callVI (pc := 56) (d := d + 3) (As := [.int a1]) (st := []) cv_X8_readingsFit rfl w_426 rfl (Nat.le_of_ble_eq_true rfl) (ok_X8_readingsFit N (d + 1) a1 I11 L12) dX11_unfold_56 (fun x13 I14 L15 => ?_)
            refine ev_if_eq (pc := 59) 79 (by decide) dX11_unfold_59 ?_ ?_
            · refine ev_ldc (pc := 79) w_267 dX11_unfold_79 ?_
              exact ev_iret (pc := 81) rfl dX11_unfold_81
            · refine ev_aload_n (pc := 62) 0 dX11_unfold_62 rfl ?_
              refine gf_X11_66 (pc := 63) rfl dX11_unfold_63 ?_
              refine ev_iload_n (pc := 66) 1 dX11_unfold_66 rfl ?_
              refine ev_iload_n (pc := 67) 2 dX11_unfold_67 rfl ?_
              refine ev_iload_n (pc := 68) 3 dX11_unfold_68 rfl ?_
              refine ev_iload (pc := 69) 4 dX11_unfold_69 rfl ?_
              refine ev_iload (pc := 71) 5 dX11_unfold_71 rfl ?_
              refine ev_callVI (pc := 73) (d := d + 3) (As := [.int a1, .int a2, .int a3, .int a4, .int a5]) (st := []) cv_X8_unfolded rfl w_438 rfl (Nat.le_of_ble_eq_true rfl) (ok_X8_unfolded N (d) a1 a2 a3 a4 a5 I14 L15) dX11_unfold_73 (fun x16 I17 L18 => ?_)
              refine ev_goto (pc := 76) 81 (by decide) dX11_unfold_76 ?_
              exact ev_iret (pc := 81) rfl dX11_unfold_81
          · refine ev_iconst (pc := 49) (-1 : Int32) k_iconst_m1 dX11_unfold_49 ?_
            exact ev_iret (pc := 50) rfl dX11_unfold_50
def F_X8_isGhost_3 (N : Nat) : Nat → Int32 → Int32 → Int32 → Int32 → Int32 → PI → PL → RES
  | 0, _, _, _, _, _, _, _ => none
  | n + 1, v1, v2, v3, v4, v5, I, L => bI (f_X8_lengthOf N v1 I L) (fun x1 I2 L3 => (if x1 ≤ v5 then gd (decide (1 &&& 1 = 1)) (some (some (.int 1), I2, L3)) else bI (f_X8_number N v1 v5 I2 L3) (fun x4 I5 L6 => bI (f_X8_remainder N v4 x4 I5 L6) (fun x7 I8 L9 => bI (f_X8_remainder N v2 x4 I8 L9) (fun x10 I11 L12 => (if x7 = x10 then (F_X8_isGhost_3 N n) v1 v2 v3 v4 (v5 + 1) I11 L12 else bI (f_X8_remainder N v3 x4 I11 L12) (fun x13 I14 L15 => (if x7 = x13 then (F_X8_isGhost_3 N n) v1 v2 v3 v4 (v5 + 1) I14 L15 else gd (decide (0 &&& 1 = 0)) (some (some (.int 0), I14, L15))))))))))
set_option maxRecDepth 100000 in
theorem E_X8_isGhost_3 (N d : Nat) : ∀ (n : Nat) (v1 : Int32) (v2 : Int32) (v3 : Int32) (v4 : Int32) (v5 : Int32) (I : PI) (L : PL), EvW M_X8_isGhost (d + 2) 3 [(0, .ref 8), (1, .int v1), (2, .int v2), (3, .int v3), (4, .int v4), (5, .int v5)] [] I L (F_X8_isGhost_3 N n v1 v2 v3 v4 v5 I L) := by
  intro n
  induction n with
  | zero =>
    intro v1 v2 v3 v4 v5 I L
    exact EvW.none
  | succ n hr_3 =>
    intro v1 v2 v3 v4 v5 I L
    rw [F_X8_isGhost_3]
    refine ev_iload (pc := 3) 5 dX8_isGhost_3 rfl ?_
    refine ev_aload_n (pc := 5) 0 dX8_isGhost_5 rfl ?_
    refine ev_iload_n (pc := 6) 1 dX8_isGhost_6 rfl ?_
    refine ev_callVI (pc := 7) (d := d + 1) (As := [.int v1]) (st := [.int v5]) cv_X8_lengthOf rfl w_371 rfl (Nat.le_of_ble_eq_true rfl) (ok_X8_lengthOf N (d + 1) v1 I L) dX8_isGhost_7 (fun x1 I2 L3 => ?_)
    refine ev_icmp_ge (pc := 10) 61 (by decide) dX8_isGhost_10 ?_ ?_
    · refine ev_iconst (pc := 61) 1 k_iconst_1 dX8_isGhost_61 ?_
      exact ev_zret (pc := 62) rfl dX8_isGhost_62
    · refine ev_aload_n (pc := 13) 0 dX8_isGhost_13 rfl ?_
      refine ev_iload_n (pc := 14) 1 dX8_isGhost_14 rfl ?_
      refine ev_iload (pc := 15) 5 dX8_isGhost_15 rfl ?_
      refine ev_callVI (pc := 17) (d := d + 1) (As := [.int v1, .int v5]) (st := []) cv_X8_number rfl w_372 rfl (Nat.le_of_ble_eq_true rfl) (ok_X8_number N (d) v1 v5 I2 L3) dX8_isGhost_17 (fun x4 I5 L6 => ?_)
      refine ev_istore (pc := 20) (lv' := [(6, .int x4), (0, .ref 8), (1, .int v1), (2, .int v2), (3, .int v3), (4, .int v4), (5, .int v5)]) dX8_isGhost_20 rfl rfl ?_
      refine ev_iload (pc := 22) 5 dX8_isGhost_22 rfl ?_
      refine ev_iload (pc := 24) 0 dX8_isGhost_24 rfl ?_
      refine ev_callSI (pc := 26) (d := d + 1) (As := [.int v4, .int x4]) (st := []) cv_X8_remainder rfl w_375 rfl (Nat.le_of_ble_eq_true rfl) (ok_X8_remainder N (d + 1) v4 x4 I5 L6) dX8_isGhost_26 (fun x7 I8 L9 => ?_)
      refine ev_istore (pc := 29) (lv' := [(7, .int x7), (6, .int x4), (0, .ref 8), (1, .int v1), (2, .int v2), (3, .int v3), (4, .int v4), (5, .int v5)]) dX8_isGhost_29 rfl rfl ?_
      refine ev_iload (pc := 31) 0 dX8_isGhost_31 rfl ?_
      refine ev_iload_n (pc := 33) 4 dX8_isGhost_33 rfl ?_
      refine ev_iload (pc := 34) 1 dX8_isGhost_34 rfl ?_
      refine ev_callSI (pc := 36) (d := d + 1) (As := [.int v2, .int x4]) (st := [.int x7]) cv_X8_remainder rfl w_375 rfl (Nat.le_of_ble_eq_true rfl) (ok_X8_remainder N (d + 1) v2 x4 I8 L9) dX8_isGhost_36 (fun x10 I11 L12 => ?_)
      refine ev_icmp_eq (pc := 39) 55 (by decide) dX8_isGhost_39 ?_ ?_
      · refine ev_iinc (pc := 55) (lv' := [(5, .int (v5 + 1)), (7, .int x7), (6, .int x4), (0, .ref 8), (1, .int v1), (2, .int v2), (3, .int v3), (4, .int v4)]) dX8_isGhost_55 7 rfl rfl 1 k_iconst_1 rfl ?_
        refine ev_goto (pc := 58) 3 (by decide) dX8_isGhost_58 ?_
        refine EvW.sub [3, 4, 5, 6, 7, 0] rfl ?_
        exact hr_3 v1 v2 v3 v4 (v5 + 1) I11 L12
      · refine ev_iload (pc := 42) 0 dX8_isGhost_42 rfl ?_
        refine ev_iload_n (pc := 44) 5 dX8_isGhost_44 rfl ?_
        refine ev_iload (pc := 45) 1 dX8_isGhost_45 rfl ?_
        refine ev_callSI (pc := 47) (d := d + 1) (As := [.int v3, .int x4]) (st := [.int x7]) cv_X8_remainder rfl w_375 rfl (Nat.le_of_ble_eq_true rfl) (ok_X8_remainder N (d + 1) v3 x4 I11 L12) dX8_isGhost_47 (fun x13 I14 L15 => ?_)
        refine ev_icmp_eq (pc := 50) 55 (by decide) dX8_isGhost_50 ?_ ?_
        · refine ev_iinc (pc := 55) (lv' := [(5, .int (v5 + 1)), (7, .int x7), (6, .int x4), (0, .ref 8), (1, .int v1), (2, .int v2), (3, .int v3), (4, .int v4)]) dX8_isGhost_55 7 rfl rfl 1 k_iconst_1 rfl ?_
          refine ev_goto (pc := 58) 3 (by decide) dX8_isGhost_58 ?_
          refine EvW.sub [3, 4, 5, 6, 7, 0] rfl ?_
          exact hr_3 v1 v2 v3 v4 (v5 + 1) I14 L15
        · refine ev_iconst (pc := 53) 0 k_iconst_0 dX8_isGhost_53 ?_
          exact ev_zret (pc := 54) rfl dX8_isGhost_54
def f_X8_isGhost (N : Nat) (a1 : Int32) (a2 : Int32) (a3 : Int32) (a4 : Int32) (I : PI) (L : PL) : RES := F_X8_isGhost_3 N N a1 a2 a3 a4 0 I L
set_option maxRecDepth 100000 in
theorem ok_X8_isGhost (N d : Nat) (a1 : Int32) (a2 : Int32) (a3 : Int32) (a4 : Int32) (I : PI) (L : PL) : MOk M_X8_isGhost (d + 2) [.ref 8, .int a1, .int a2, .int a3, .int a4] I L (f_X8_isGhost N a1 a2 a3 a4 I L) := by
  refine MOk.of (by decide +kernel) (Nat.le_of_ble_eq_true rfl) ?_
  show EvW _ _ 0 [(0, .ref 8), (1, .int a1), (2, .int a2), (3, .int a3), (4, .int a4)] [] I L _
  rw [f_X8_isGhost]
  refine ev_iconst (pc := 0) 0 k_iconst_0 dX8_isGhost_0 ?_
  refine ev_istore (pc := 1) (lv' := [(5, .int 0), (0, .ref 8), (1, .int a1), (2, .int a2), (3, .int a3), (4, .int a4)]) dX8_isGhost_1 rfl rfl ?_
  refine EvW.sub [1, 2, 3, 4, 5, 0] rfl ?_
  exact E_X8_isGhost_3 N d N a1 a2 a3 a4 0 I L
def F_X8_ghostsOf_6 (N : Nat) : Nat → Int32 → Int32 → Int32 → Int32 → Int32 → Int32 → PI → PL → RES
  | 0, _, _, _, _, _, _, _, _ => none
  | n + 1, v1, v2, v3, v4, v5, v6, I, L => (if v4 < v6 then some (some (.int v5), I, L) else (if v6 = v2 then (F_X8_ghostsOf_6 N n) v1 v2 v3 v4 v5 (v6 + 1) I L else (if v6 = v3 then (F_X8_ghostsOf_6 N n) v1 v2 v3 v4 v5 (v6 + 1) I L else bI (f_X8_isGhost N v1 v2 v3 v6 I L) (fun x1 I2 L3 => (if x1 = 0 then (F_X8_ghostsOf_6 N n) v1 v2 v3 v4 v5 (v6 + 1) I2 L3 else (F_X8_ghostsOf_6 N n) v1 v2 v3 v4 (v5 + 1) (v6 + 1) I2 L3)))))
set_option maxRecDepth 100000 in
theorem E_X8_ghostsOf_6 (N d : Nat) : ∀ (n : Nat) (v1 : Int32) (v2 : Int32) (v3 : Int32) (v4 : Int32) (v5 : Int32) (v6 : Int32) (I : PI) (L : PL), EvW M_X8_ghostsOf (d + 3) 6 [(0, .ref 8), (1, .int v1), (2, .int v2), (3, .int v3), (4, .int v4), (5, .int v5), (6, .int v6)] [] I L (F_X8_ghostsOf_6 N n v1 v2 v3 v4 v5 v6 I L) := by
  intro n
  induction n with
  | zero =>
    intro v1 v2 v3 v4 v5 v6 I L
    exact EvW.none
  | succ n hr_6 =>
    intro v1 v2 v3 v4 v5 v6 I L
    rw [F_X8_ghostsOf_6]
    refine ev_iload (pc := 6) 6 dX8_ghostsOf_6 rfl ?_
    refine ev_iload (pc := 8) 4 dX8_ghostsOf_8 rfl ?_
    refine ev_icmp_gt (pc := 10) 46 (by decide) dX8_ghostsOf_10 ?_ ?_
    · refine ev_iload (pc := 46) 5 dX8_ghostsOf_46 rfl ?_
      exact ev_iret (pc := 48) rfl dX8_ghostsOf_48
    · refine ev_iload (pc := 13) 6 dX8_ghostsOf_13 rfl ?_
      refine ev_iload_n (pc := 15) 2 dX8_ghostsOf_15 rfl ?_
      refine ev_icmp_eq (pc := 16) 40 (by decide) dX8_ghostsOf_16 ?_ ?_
      · refine ev_iinc (pc := 40) (lv' := [(6, .int (v6 + 1)), (0, .ref 8), (1, .int v1), (2, .int v2), (3, .int v3), (4, .int v4), (5, .int v5)]) dX8_ghostsOf_40 6 rfl rfl 1 k_iconst_1 rfl ?_
        refine ev_goto (pc := 43) 6 (by decide) dX8_ghostsOf_43 ?_
        refine EvW.sub [1, 2, 3, 4, 5, 6, 0] rfl ?_
        exact hr_6 v1 v2 v3 v4 v5 (v6 + 1) I L
      · refine ev_iload (pc := 19) 6 dX8_ghostsOf_19 rfl ?_
        refine ev_iload_n (pc := 21) 3 dX8_ghostsOf_21 rfl ?_
        refine ev_icmp_eq (pc := 22) 40 (by decide) dX8_ghostsOf_22 ?_ ?_
        · refine ev_iinc (pc := 40) (lv' := [(6, .int (v6 + 1)), (0, .ref 8), (1, .int v1), (2, .int v2), (3, .int v3), (4, .int v4), (5, .int v5)]) dX8_ghostsOf_40 6 rfl rfl 1 k_iconst_1 rfl ?_
          refine ev_goto (pc := 43) 6 (by decide) dX8_ghostsOf_43 ?_
          refine EvW.sub [1, 2, 3, 4, 5, 6, 0] rfl ?_
          exact hr_6 v1 v2 v3 v4 v5 (v6 + 1) I L
        · refine ev_aload_n (pc := 25) 0 dX8_ghostsOf_25 rfl ?_
          refine ev_iload_n (pc := 26) 1 dX8_ghostsOf_26 rfl ?_
          refine ev_iload_n (pc := 27) 2 dX8_ghostsOf_27 rfl ?_
          refine ev_iload_n (pc := 28) 3 dX8_ghostsOf_28 rfl ?_
          refine ev_iload (pc := 29) 6 dX8_ghostsOf_29 rfl ?_
          refine ev_callVI (pc := 31) (d := d + 2) (As := [.int v1, .int v2, .int v3, .int v6]) (st := []) cv_X8_isGhost rfl w_442 rfl (Nat.le_of_ble_eq_true rfl) (ok_X8_isGhost N (d) v1 v2 v3 v6 I L) dX8_ghostsOf_31 (fun x1 I2 L3 => ?_)
          refine ev_if_eq (pc := 34) 40 (by decide) dX8_ghostsOf_34 ?_ ?_
          · refine ev_iinc (pc := 40) (lv' := [(6, .int (v6 + 1)), (0, .ref 8), (1, .int v1), (2, .int v2), (3, .int v3), (4, .int v4), (5, .int v5)]) dX8_ghostsOf_40 6 rfl rfl 1 k_iconst_1 rfl ?_
            refine ev_goto (pc := 43) 6 (by decide) dX8_ghostsOf_43 ?_
            refine EvW.sub [1, 2, 3, 4, 5, 6, 0] rfl ?_
            exact hr_6 v1 v2 v3 v4 v5 (v6 + 1) I2 L3
          · refine ev_iinc (pc := 37) (lv' := [(5, .int (v5 + 1)), (0, .ref 8), (1, .int v1), (2, .int v2), (3, .int v3), (4, .int v4), (6, .int v6)]) dX8_ghostsOf_37 5 rfl rfl 1 k_iconst_1 rfl ?_
            refine ev_iinc (pc := 40) (lv' := [(6, .int (v6 + 1)), (5, .int (v5 + 1)), (0, .ref 8), (1, .int v1), (2, .int v2), (3, .int v3), (4, .int v4)]) dX8_ghostsOf_40 6 rfl rfl 1 k_iconst_1 rfl ?_
            refine ev_goto (pc := 43) 6 (by decide) dX8_ghostsOf_43 ?_
            refine EvW.sub [2, 3, 4, 5, 6, 1, 0] rfl ?_
            exact hr_6 v1 v2 v3 v4 (v5 + 1) (v6 + 1) I2 L3
def f_X8_ghostsOf (N : Nat) (a1 : Int32) (a2 : Int32) (a3 : Int32) (a4 : Int32) (I : PI) (L : PL) : RES := F_X8_ghostsOf_6 N N a1 a2 a3 a4 0 0 I L
set_option maxRecDepth 100000 in
theorem ok_X8_ghostsOf (N d : Nat) (a1 : Int32) (a2 : Int32) (a3 : Int32) (a4 : Int32) (I : PI) (L : PL) : MOk M_X8_ghostsOf (d + 3) [.ref 8, .int a1, .int a2, .int a3, .int a4] I L (f_X8_ghostsOf N a1 a2 a3 a4 I L) := by
  refine MOk.of (by decide +kernel) (Nat.le_of_ble_eq_true rfl) ?_
  show EvW _ _ 0 [(0, .ref 8), (1, .int a1), (2, .int a2), (3, .int a3), (4, .int a4)] [] I L _
  rw [f_X8_ghostsOf]
  refine ev_iconst (pc := 0) 0 k_iconst_0 dX8_ghostsOf_0 ?_
  refine ev_istore (pc := 1) (lv' := [(5, .int 0), (0, .ref 8), (1, .int a1), (2, .int a2), (3, .int a3), (4, .int a4)]) dX8_ghostsOf_1 rfl rfl ?_
  refine ev_iconst (pc := 3) 0 k_iconst_0 dX8_ghostsOf_3 ?_
  refine ev_istore (pc := 4) (lv' := [(6, .int 0), (5, .int 0), (0, .ref 8), (1, .int a1), (2, .int a2), (3, .int a3), (4, .int a4)]) dX8_ghostsOf_4 rfl rfl ?_
  refine EvW.sub [2, 3, 4, 5, 6, 1, 0] rfl ?_
  exact E_X8_ghostsOf_6 N d N a1 a2 a3 a4 0 0 I L
def f_X11_ghosts (N : Nat) (a1 : Int32) (a2 : Int32) (a3 : Int32) (a4 : Int32) (I : PI) (L : PL) : RES := bI (f_X8_has N a1 I L) (fun x1 I2 L3 => (if x1 = 0 then some (some (.int (-1 : Int32)), I2, L3) else bI (f_X11_within N a2 0 999 I2 L3) (fun x4 I5 L6 => (if x4 = 0 then some (some (.int (-1 : Int32)), I5, L6) else bI (f_X11_within N a3 0 999 I5 L6) (fun x7 I8 L9 => (if x7 = 0 then some (some (.int (-1 : Int32)), I8, L9) else bI (f_X11_within N a4 0 999 I8 L9) (fun x10 I11 L12 => (if x10 = 0 then some (some (.int (-1 : Int32)), I11, L12) else bI (f_X8_ghostsOf N a1 a2 a3 a4 I11 L12) (fun x13 I14 L15 => some (some (.int x13), I14, L15))))))))))
set_option maxRecDepth 100000 in
theorem ok_X11_ghosts (N d : Nat) (a1 : Int32) (a2 : Int32) (a3 : Int32) (a4 : Int32) (I : PI) (L : PL) : MOk M_X11_ghosts (d + 4) [.ref 11, .int a1, .int a2, .int a3, .int a4] I L (f_X11_ghosts N a1 a2 a3 a4 I L) := by
  refine MOk.of (by decide +kernel) (Nat.le_of_ble_eq_true rfl) ?_
  show EvW _ _ 0 [(0, .ref 11), (1, .int a1), (2, .int a2), (3, .int a3), (4, .int a4)] [] I L _
  rw [f_X11_ghosts]
  refine ev_aload_n (pc := 0) 0 dX11_ghosts_0 rfl ?_
  refine gf_X11_66 (pc := 1) rfl dX11_ghosts_1 ?_
  refine ev_iload_n (pc := 4) 1 dX11_ghosts_4 rfl ?_
  refine ev_callVI (pc := 5) (d := d + 3) (As := [.int a1]) (st := []) cv_X8_has rfl w_256 rfl (Nat.le_of_ble_eq_true rfl) (ok_X8_has N (d + 3) a1 I L) dX11_ghosts_5 (fun x1 I2 L3 => ?_)
  refine ev_if_eq (pc := 8) 45 (by decide) dX11_ghosts_8 ?_ ?_
  · refine ev_iconst (pc := 45) (-1 : Int32) k_iconst_m1 dX11_ghosts_45 ?_
    exact ev_iret (pc := 46) rfl dX11_ghosts_46
  · refine ev_iload_n (pc := 11) 2 dX11_ghosts_11 rfl ?_
    refine ev_iconst (pc := 12) 0 k_iconst_0 dX11_ghosts_12 ?_
    refine ev_sipush (pc := 13) 999 k_sipush_999 dX11_ghosts_13 ?_
    refine ev_callSI (pc := 16) (d := d + 3) (As := [.int a2, .int 0, .int 999]) (st := []) cv_X11_within rfl w_18 rfl (Nat.le_of_ble_eq_true rfl) (ok_X11_within N (d + 3) a2 0 999 I2 L3) dX11_ghosts_16 (fun x4 I5 L6 => ?_)
    refine ev_if_eq (pc := 19) 45 (by decide) dX11_ghosts_19 ?_ ?_
    · refine ev_iconst (pc := 45) (-1 : Int32) k_iconst_m1 dX11_ghosts_45 ?_
      exact ev_iret (pc := 46) rfl dX11_ghosts_46
    · refine ev_iload_n (pc := 22) 3 dX11_ghosts_22 rfl ?_
      refine ev_iconst (pc := 23) 0 k_iconst_0 dX11_ghosts_23 ?_
      refine ev_sipush (pc := 24) 999 k_sipush_999 dX11_ghosts_24 ?_
      refine ev_callSI (pc := 27) (d := d + 3) (As := [.int a3, .int 0, .int 999]) (st := []) cv_X11_within rfl w_18 rfl (Nat.le_of_ble_eq_true rfl) (ok_X11_within N (d + 3) a3 0 999 I5 L6) dX11_ghosts_27 (fun x7 I8 L9 => ?_)
      refine ev_if_eq (pc := 30) 45 (by decide) dX11_ghosts_30 ?_ ?_
      · refine ev_iconst (pc := 45) (-1 : Int32) k_iconst_m1 dX11_ghosts_45 ?_
        exact ev_iret (pc := 46) rfl dX11_ghosts_46
      · refine ev_iload (pc := 33) 4 dX11_ghosts_33 rfl ?_
        refine ev_iconst (pc := 35) 0 k_iconst_0 dX11_ghosts_35 ?_
        refine ev_sipush (pc := 36) 999 k_sipush_999 dX11_ghosts_36 ?_
        refine ev_callSI (pc := 39) (d := d + 3) (As := [.int a4, .int 0, .int 999]) (st := []) cv_X11_within rfl w_18 rfl (Nat.le_of_ble_eq_true rfl) (ok_X11_within N (d + 3) a4 0 999 I8 L9) dX11_ghosts_39 (fun x10 I11 L12 => ?_)
        refine ev_if_ne (pc := 42) 47 (by decide) dX11_ghosts_42 ?_ ?_
        · refine ev_aload_n (pc := 47) 0 dX11_ghosts_47 rfl ?_
          refine gf_X11_66 (pc := 48) rfl dX11_ghosts_48 ?_
          refine ev_iload_n (pc := 51) 1 dX11_ghosts_51 rfl ?_
          refine ev_iload_n (pc := 52) 2 dX11_ghosts_52 rfl ?_
          refine ev_iload_n (pc := 53) 3 dX11_ghosts_53 rfl ?_
          refine ev_iload (pc := 54) 4 dX11_ghosts_54 rfl ?_
          refine ev_callVI (pc := 56) (d := d + 3) (As := [.int a1, .int a2, .int a3, .int a4]) (st := []) cv_X8_ghostsOf rfl w_446 rfl (Nat.le_of_ble_eq_true rfl) (ok_X8_ghostsOf N (d) a1 a2 a3 a4 I11 L12) dX11_ghosts_56 (fun x13 I14 L15 => ?_)
          exact ev_iret (pc := 59) rfl dX11_ghosts_59
        · refine ev_iconst (pc := 45) (-1 : Int32) k_iconst_m1 dX11_ghosts_45 ?_
          exact ev_iret (pc := 46) rfl dX11_ghosts_46
def f_X2_isValue (N : Nat) (a1 : Int32) (I : PI) (L : PL) : RES := (if a1 < 0 then gd (decide (0 &&& 1 = 0)) (some (some (.int 0), I, L)) else (if 999 < a1 then gd (decide (0 &&& 1 = 0)) (some (some (.int 0), I, L)) else gd (decide (1 &&& 1 = 1)) (some (some (.int 1), I, L))))
set_option maxRecDepth 100000 in
theorem ok_X2_isValue (N d : Nat) (a1 : Int32) (I : PI) (L : PL) : MOk M_X2_isValue (d) [.int a1] I L (f_X2_isValue N a1 I L) := by
  refine MOk.of (by decide +kernel) (Nat.le_of_ble_eq_true rfl) ?_
  show EvW _ _ 0 [(0, .int a1)] [] I L _
  rw [f_X2_isValue]
  refine ev_iload_n (pc := 0) 0 dX2_isValue_0 rfl ?_
  refine ev_if_lt (pc := 1) 15 (by decide) dX2_isValue_1 ?_ ?_
  · refine ev_iconst (pc := 15) 0 k_iconst_0 dX2_isValue_15 ?_
    exact ev_zret (pc := 16) rfl dX2_isValue_16
  · refine ev_iload_n (pc := 4) 0 dX2_isValue_4 rfl ?_
    refine ev_sipush (pc := 5) 999 k_sipush_999 dX2_isValue_5 ?_
    refine ev_icmp_gt (pc := 8) 15 (by decide) dX2_isValue_8 ?_ ?_
    · refine ev_iconst (pc := 15) 0 k_iconst_0 dX2_isValue_15 ?_
      exact ev_zret (pc := 16) rfl dX2_isValue_16
    · refine ev_iconst (pc := 11) 1 k_iconst_1 dX2_isValue_11 ?_
      refine ev_goto (pc := 12) 16 (by decide) dX2_isValue_12 ?_
      exact ev_zret (pc := 16) rfl dX2_isValue_16
def f_X2_size (N : Nat) (I : PI) (L : PL) : RES := (if (I 2 4) < 0 then some (some (.int 0), I, L) else (if 31 ≤ (I 2 4) then some (some (.int 0), I, L) else gd (inb (I 2 4) 31) (some (some (.int (I 31 (Int32.toNatClampNeg (I 2 4)))), I, L))))
set_option maxRecDepth 100000 in
theorem ok_X2_size (N d : Nat) (I : PI) (L : PL) : MOk M_X2_size (d) [.ref 2] I L (f_X2_size N I L) := by
  refine MOk.of (by decide +kernel) (Nat.le_of_ble_eq_true rfl) ?_
  show EvW _ _ 0 [(0, .ref 2)] [] I L _
  rw [f_X2_size]
  refine ev_aload_n (pc := 0) 0 dX2_size_0 rfl ?_
  refine gf_X2_25 (pc := 1) rfl dX2_size_1 ?_
  refine ev_if_lt (pc := 4) 28 (by decide) dX2_size_4 ?_ ?_
  · refine ev_iconst (pc := 28) 0 k_iconst_0 dX2_size_28 ?_
    exact ev_iret (pc := 29) rfl dX2_size_29
  · refine ev_aload_n (pc := 7) 0 dX2_size_7 rfl ?_
    refine gf_X2_25 (pc := 8) rfl dX2_size_8 ?_
    refine ev_bipush (pc := 11) 31 k_bipush_31 dX2_size_11 ?_
    refine ev_icmp_ge (pc := 13) 28 (by decide) dX2_size_13 ?_ ?_
    · refine ev_iconst (pc := 28) 0 k_iconst_0 dX2_size_28 ?_
      exact ev_iret (pc := 29) rfl dX2_size_29
    · refine ev_aload_n (pc := 16) 0 dX2_size_16 rfl ?_
      refine gf_X2_15 (pc := 17) rfl dX2_size_17 ?_
      refine ev_aload_n (pc := 20) 0 dX2_size_20 rfl ?_
      refine gf_X2_25 (pc := 21) rfl dX2_size_21 ?_
      refine ev_iald (pc := 24) kK_31 dX2_size_24 ?_
      refine ev_goto (pc := 25) 29 (by decide) dX2_size_25 ?_
      exact ev_iret (pc := 29) rfl dX2_size_29
def f_X2_resize (N : Nat) (a1 : Int32) (I : PI) (L : PL) : RES := (if (I 2 4) < 0 then some (none, I, L) else (if 31 ≤ (I 2 4) then some (none, I, L) else (if a1 < 0 then some (none, I, L) else (if 40 < a1 then some (none, I, L) else gd (inb (I 2 4) 31) (nmW (uI I 31 (Int32.toNatClampNeg (I 2 4)) a1) (fun I1 => some (none, I1, L)))))))
set_option maxRecDepth 100000 in
theorem ok_X2_resize (N d : Nat) (a1 : Int32) (I : PI) (L : PL) : MOk M_X2_resize (d) [.ref 2, .int a1] I L (f_X2_resize N a1 I L) := by
  refine MOk.of (by decide +kernel) (Nat.le_of_ble_eq_true rfl) ?_
  show EvW _ _ 0 [(0, .ref 2), (1, .int a1)] [] I L _
  rw [f_X2_resize]
  refine ev_aload_n (pc := 0) 0 dX2_resize_0 rfl ?_
  refine gf_X2_25 (pc := 1) rfl dX2_resize_1 ?_
  refine ev_if_lt (pc := 4) 36 (by decide) dX2_resize_4 ?_ ?_
  · exact ev_vret (pc := 36) rfl dX2_resize_36
  · refine ev_aload_n (pc := 7) 0 dX2_resize_7 rfl ?_
    refine gf_X2_25 (pc := 8) rfl dX2_resize_8 ?_
    refine ev_bipush (pc := 11) 31 k_bipush_31 dX2_resize_11 ?_
    refine ev_icmp_ge (pc := 13) 36 (by decide) dX2_resize_13 ?_ ?_
    · exact ev_vret (pc := 36) rfl dX2_resize_36
    · refine ev_iload_n (pc := 16) 1 dX2_resize_16 rfl ?_
      refine ev_if_lt (pc := 17) 36 (by decide) dX2_resize_17 ?_ ?_
      · exact ev_vret (pc := 36) rfl dX2_resize_36
      · refine ev_iload_n (pc := 20) 1 dX2_resize_20 rfl ?_
        refine ev_bipush (pc := 21) 40 k_bipush_40 dX2_resize_21 ?_
        refine ev_icmp_gt (pc := 23) 36 (by decide) dX2_resize_23 ?_ ?_
        · exact ev_vret (pc := 36) rfl dX2_resize_36
        · refine ev_aload_n (pc := 26) 0 dX2_resize_26 rfl ?_
          refine gf_X2_15 (pc := 27) rfl dX2_resize_27 ?_
          refine ev_aload_n (pc := 30) 0 dX2_resize_30 rfl ?_
          refine gf_X2_25 (pc := 31) rfl dX2_resize_31 ?_
          refine ev_iload_n (pc := 34) 1 dX2_resize_34 rfl ?_
          refine ev_iast (pc := 35) kK_31 dX2_resize_35 ?_
          refine ev_nmW (fun I1 => ?_)
          exact ev_vret (pc := 36) rfl dX2_resize_36
def f_X2_write (N : Nat) (a1 : Int32) (a2 : Int32) (I : PI) (L : PL) : RES := (if a1 < 0 then some (none, I, L) else bI (f_X2_size N I L) (fun x1 I2 L3 => (if x1 ≤ a1 then some (none, I2, L3) else gd (inb (((I2 2 4) * 40) + a1) 1240) (nmW (uI I2 30 (Int32.toNatClampNeg (((I2 2 4) * 40) + a1)) a2) (fun I4 => some (none, I4, L3))))))
set_option maxRecDepth 100000 in
theorem ok_X2_write (N d : Nat) (a1 : Int32) (a2 : Int32) (I : PI) (L : PL) : MOk M_X2_write (d + 1) [.ref 2, .int a1, .int a2] I L (f_X2_write N a1 a2 I L) := by
  refine MOk.of (by decide +kernel) (Nat.le_of_ble_eq_true rfl) ?_
  show EvW _ _ 0 [(0, .ref 2), (1, .int a1), (2, .int a2)] [] I L _
  rw [f_X2_write]
  refine ev_iload_n (pc := 0) 1 dX2_write_0 rfl ?_
  refine ev_if_lt (pc := 1) 27 (by decide) dX2_write_1 ?_ ?_
  · exact ev_vret (pc := 27) rfl dX2_write_27
  · refine ev_iload_n (pc := 4) 1 dX2_write_4 rfl ?_
    refine ev_aload_n (pc := 5) 0 dX2_write_5 rfl ?_
    refine ev_callVI (pc := 6) (d := d) (As := []) (st := [.int a1]) cv_X2_size rfl w_458 rfl (Nat.le_of_ble_eq_true rfl) (ok_X2_size N (d) I L) dX2_write_6 (fun x1 I2 L3 => ?_)
    refine ev_icmp_ge (pc := 9) 27 (by decide) dX2_write_9 ?_ ?_
    · exact ev_vret (pc := 27) rfl dX2_write_27
    · refine ev_aload_n (pc := 12) 0 dX2_write_12 rfl ?_
      refine gf_X2_11 (pc := 13) rfl dX2_write_13 ?_
      refine ev_aload_n (pc := 16) 0 dX2_write_16 rfl ?_
      refine gf_X2_25 (pc := 17) rfl dX2_write_17 ?_
      refine ev_bipush (pc := 20) 40 k_bipush_40 dX2_write_20 ?_
      refine ev_imul (pc := 22) dX2_write_22 ?_
      refine ev_iload_n (pc := 23) 1 dX2_write_23 rfl ?_
      refine ev_iadd (pc := 24) dX2_write_24 ?_
      refine ev_iload_n (pc := 25) 2 dX2_write_25 rfl ?_
      refine ev_iast (pc := 26) kK_30 dX2_write_26 ?_
      refine ev_nmW (fun I4 => ?_)
      exact ev_vret (pc := 27) rfl dX2_write_27
def F_X2_startAct_73 (N : Nat) (I : PI) (L : PL) : RES := nmW (uI I 2 5 (jmin ((I 2 5) + 1) 30)) (fun I9 => nmW (uI I9 2 6 0) (fun I10 => some (none, I10, L)))
set_option maxRecDepth 100000 in
theorem E_X2_startAct_73 (N d : Nat) (I : PI) (L : PL) : EvW M_X2_startAct (d + 2) 73 [(0, .ref 2)] [] I L (F_X2_startAct_73 N I L) := by
  rw [F_X2_startAct_73]
  refine ev_aload_n (pc := 73) 0 dX2_startAct_73 rfl ?_
  refine ev_aload_n (pc := 74) 0 dX2_startAct_74 rfl ?_
  refine gf_X2_55 (pc := 75) rfl dX2_startAct_75 ?_
  refine ev_iconst (pc := 78) 1 k_iconst_1 dX2_startAct_78 ?_
  refine ev_iadd (pc := 79) dX2_startAct_79 ?_
  refine ev_bipush (pc := 80) 30 k_bipush_30 dX2_startAct_80 ?_
  refine ev_mmin (pc := 82) (d := d + 1) w_464 w_134 w_131 w_135 (Nat.le_of_ble_eq_true rfl) dX2_startAct_82 ?_
  refine pf_X2_55 (pc := 85) rfl dX2_startAct_85 ?_
  refine ev_nmW (fun I9 => ?_)
  refine ev_aload_n (pc := 88) 0 dX2_startAct_88 rfl ?_
  refine ev_iconst (pc := 89) 0 k_iconst_0 dX2_startAct_89 ?_
  refine pf_X2_64 (pc := 90) rfl dX2_startAct_90 ?_
  refine ev_nmW (fun I10 => ?_)
  exact ev_vret (pc := 93) rfl dX2_startAct_93
def F_X2_startAct_40 (N : Nat) : Nat → Int32 → Int32 → Int32 → PI → PL → RES
  | 0, _, _, _, _, _ => none
  | n + 1, v1, v2, v3, I, L => (if v2 ≤ v3 then F_X2_startAct_73 N I L else (if 40 ≤ v3 then F_X2_startAct_73 N I L else gd (inb ((v1 * 40) + v3) 1240) (bV (f_X2_write N v3 (I 30 (Int32.toNatClampNeg ((v1 * 40) + v3))) I L) (fun I12 L13 => (F_X2_startAct_40 N n) v1 v2 (v3 + 1) I12 L13))))
set_option maxRecDepth 100000 in
theorem E_X2_startAct_40 (N d : Nat) : ∀ (n : Nat) (v1 : Int32) (v2 : Int32) (v3 : Int32) (I : PI) (L : PL), EvW M_X2_startAct (d + 2) 40 [(0, .ref 2), (1, .int v1), (2, .int v2), (3, .int v3)] [] I L (F_X2_startAct_40 N n v1 v2 v3 I L) := by
  intro n
  induction n with
  | zero =>
    intro v1 v2 v3 I L
    exact EvW.none
  | succ n hr_40 =>
    intro v1 v2 v3 I L
    rw [F_X2_startAct_40]
    refine ev_iload_n (pc := 40) 3 dX2_startAct_40 rfl ?_
    refine ev_iload_n (pc := 41) 2 dX2_startAct_41 rfl ?_
    refine ev_icmp_ge (pc := 42) 73 (by decide) dX2_startAct_42 ?_ ?_
    · refine EvW.sub [0] rfl ?_
      exact E_X2_startAct_73 N d I L
    · refine ev_iload_n (pc := 45) 3 dX2_startAct_45 rfl ?_
      refine ev_bipush (pc := 46) 40 k_bipush_40 dX2_startAct_46 ?_
      refine ev_icmp_ge (pc := 48) 73 (by decide) dX2_startAct_48 ?_ ?_
      · refine EvW.sub [0] rfl ?_
        exact E_X2_startAct_73 N d I L
      · refine ev_aload_n (pc := 51) 0 dX2_startAct_51 rfl ?_
        refine ev_iload_n (pc := 52) 3 dX2_startAct_52 rfl ?_
        refine ev_aload_n (pc := 53) 0 dX2_startAct_53 rfl ?_
        refine gf_X2_11 (pc := 54) rfl dX2_startAct_54 ?_
        refine ev_iload_n (pc := 57) 1 dX2_startAct_57 rfl ?_
        refine ev_bipush (pc := 58) 40 k_bipush_40 dX2_startAct_58 ?_
        refine ev_imul (pc := 60) dX2_startAct_60 ?_
        refine ev_iload_n (pc := 61) 3 dX2_startAct_61 rfl ?_
        refine ev_iadd (pc := 62) dX2_startAct_62 ?_
        refine ev_iald (pc := 63) kK_30 dX2_startAct_63 ?_
        refine ev_callVV (pc := 64) (d := d + 1) (As := [.int v3, .int (I 30 (Int32.toNatClampNeg ((v1 * 40) + v3)))]) (st := []) cv_X2_write rfl w_470 rfl (Nat.le_of_ble_eq_true rfl) (ok_X2_write N (d) v3 (I 30 (Int32.toNatClampNeg ((v1 * 40) + v3))) I L) dX2_startAct_64 (fun I12 L13 => ?_)
        refine ev_iinc (pc := 67) (lv' := [(3, .int (v3 + 1)), (0, .ref 2), (1, .int v1), (2, .int v2)]) dX2_startAct_67 3 rfl rfl 1 k_iconst_1 rfl ?_
        refine ev_goto (pc := 70) 40 (by decide) dX2_startAct_70 ?_
        refine EvW.sub [1, 2, 3, 0] rfl ?_
        exact hr_40 v1 v2 (v3 + 1) I12 L13
def F_X2_startAct_30 (N : Nat) (v1 : Int32) (v2 : Int32) (s0 : Int32) (I : PI) (L : PL) : RES := nmW (uI I 2 4 s0) (fun I5 => bV (f_X2_resize N v2 I5 L) (fun I7 L8 => F_X2_startAct_40 N N v1 v2 0 I7 L8))
set_option maxRecDepth 100000 in
theorem E_X2_startAct_30 (N d : Nat) (v1 : Int32) (v2 : Int32) (s0 : Int32) (I : PI) (L : PL) : EvW M_X2_startAct (d + 2) 30 [(0, .ref 2), (1, .int v1), (2, .int v2)] [.int s0, .ref 2] I L (F_X2_startAct_30 N v1 v2 s0 I L) := by
  rw [F_X2_startAct_30]
  refine pf_X2_25 (pc := 30) rfl dX2_startAct_30 ?_
  refine ev_nmW (fun I5 => ?_)
  refine ev_aload_n (pc := 33) 0 dX2_startAct_33 rfl ?_
  refine ev_iload_n (pc := 34) 2 dX2_startAct_34 rfl ?_
  refine ev_callVV (pc := 35) (d := d + 1) (As := [.int v2]) (st := []) cv_X2_resize rfl w_462 rfl (Nat.le_of_ble_eq_true rfl) (ok_X2_resize N (d + 1) v2 I5 L) dX2_startAct_35 (fun I7 L8 => ?_)
  refine ev_iconst (pc := 38) 0 k_iconst_0 dX2_startAct_38 ?_
  refine ev_istore_n (pc := 39) (lv' := [(3, .int 0), (0, .ref 2), (1, .int v1), (2, .int v2)]) dX2_startAct_39 rfl rfl rfl ?_
  refine EvW.sub [1, 2, 3, 0] rfl ?_
  exact E_X2_startAct_40 N d N v1 v2 0 I7 L8
def f_X2_startAct (N : Nat) (I : PI) (L : PL) : RES := nmI (I 2 4) (fun x1 => bI (f_X2_size N I L) (fun x2 I3 L4 => (if 30 ≤ (I3 2 4) then F_X2_startAct_30 N x1 x2 0 I3 L4 else F_X2_startAct_30 N x1 x2 ((I3 2 4) + 1) I3 L4)))
set_option maxRecDepth 100000 in
theorem ok_X2_startAct (N d : Nat) (I : PI) (L : PL) : MOk M_X2_startAct (d + 2) [.ref 2] I L (f_X2_startAct N I L) := by
  refine MOk.of (by decide +kernel) (Nat.le_of_ble_eq_true rfl) ?_
  show EvW _ _ 0 [(0, .ref 2)] [] I L _
  rw [f_X2_startAct]
  refine ev_aload_n (pc := 0) 0 dX2_startAct_0 rfl ?_
  refine gf_X2_25 (pc := 1) rfl dX2_startAct_1 ?_
  refine ev_nmI (fun x1 => ?_)
  refine ev_istore_n (pc := 4) (lv' := [(1, .int x1), (0, .ref 2)]) dX2_startAct_4 rfl rfl rfl ?_
  refine ev_aload_n (pc := 5) 1 dX2_startAct_5 rfl ?_
  refine ev_callVI (pc := 6) (d := d + 1) (As := []) (st := []) cv_X2_size rfl w_458 rfl (Nat.le_of_ble_eq_true rfl) (ok_X2_size N (d + 1) I L) dX2_startAct_6 (fun x2 I3 L4 => ?_)
  refine ev_istore_n (pc := 9) (lv' := [(2, .int x2), (1, .int x1), (0, .ref 2)]) dX2_startAct_9 rfl rfl rfl ?_
  refine ev_aload_n (pc := 10) 2 dX2_startAct_10 rfl ?_
  refine ev_aload_n (pc := 11) 2 dX2_startAct_11 rfl ?_
  refine gf_X2_25 (pc := 12) rfl dX2_startAct_12 ?_
  refine ev_bipush (pc := 15) 30 k_bipush_30 dX2_startAct_15 ?_
  refine ev_icmp_ge (pc := 17) 29 (by decide) dX2_startAct_17 ?_ ?_
  · refine ev_iconst (pc := 29) 0 k_iconst_0 dX2_startAct_29 ?_
    refine EvW.sub [2, 1, 0] rfl ?_
    exact E_X2_startAct_30 N d x1 x2 0 I3 L4
  · refine ev_aload_n (pc := 20) 2 dX2_startAct_20 rfl ?_
    refine gf_X2_25 (pc := 21) rfl dX2_startAct_21 ?_
    refine ev_iconst (pc := 24) 1 k_iconst_1 dX2_startAct_24 ?_
    refine ev_iadd (pc := 25) dX2_startAct_25 ?_
    refine ev_goto (pc := 26) 30 (by decide) dX2_startAct_26 ?_
    refine EvW.sub [2, 1, 0] rfl ?_
    exact E_X2_startAct_30 N d x1 x2 ((I3 2 4) + 1) I3 L4
def F_X2_add_28 (N : Nat) (I : PI) (L : PL) : RES := bI (f_X2_size N I L) (fun x4 I5 L6 => some (some (.int x4), I5, L6))
set_option maxRecDepth 100000 in
theorem E_X2_add_28 (N d : Nat) (I : PI) (L : PL) : EvW M_X2_add (d + 3) 28 [(0, .ref 2)] [] I L (F_X2_add_28 N I L) := by
  rw [F_X2_add_28]
  refine ev_aload_n (pc := 28) 0 dX2_add_28 rfl ?_
  refine ev_callVI (pc := 29) (d := d + 2) (As := []) (st := []) cv_X2_size rfl w_458 rfl (Nat.le_of_ble_eq_true rfl) (ok_X2_size N (d + 2) I L) dX2_add_29 (fun x4 I5 L6 => ?_)
  exact ev_iret (pc := 32) rfl dX2_add_32
def f_X2_add (N : Nat) (a1 : Int32) (I : PI) (L : PL) : RES := bI (f_X2_size N I L) (fun x1 I2 L3 => (if 40 ≤ x1 then F_X2_add_28 N I2 L3 else bV (f_X2_startAct N I2 L3) (fun I8 L9 => bV (f_X2_resize N (x1 + 1) I8 L9) (fun I11 L12 => bV (f_X2_write N x1 a1 I11 L12) (fun I14 L15 => F_X2_add_28 N I14 L15)))))
set_option maxRecDepth 100000 in
theorem ok_X2_add (N d : Nat) (a1 : Int32) (I : PI) (L : PL) : MOk M_X2_add (d + 3) [.ref 2, .int a1] I L (f_X2_add N a1 I L) := by
  refine MOk.of (by decide +kernel) (Nat.le_of_ble_eq_true rfl) ?_
  show EvW _ _ 0 [(0, .ref 2), (1, .int a1)] [] I L _
  rw [f_X2_add]
  refine ev_aload_n (pc := 0) 0 dX2_add_0 rfl ?_
  refine ev_callVI (pc := 1) (d := d + 2) (As := []) (st := []) cv_X2_size rfl w_458 rfl (Nat.le_of_ble_eq_true rfl) (ok_X2_size N (d + 2) I L) dX2_add_1 (fun x1 I2 L3 => ?_)
  refine ev_istore_n (pc := 4) (lv' := [(2, .int x1), (0, .ref 2), (1, .int a1)]) dX2_add_4 rfl rfl rfl ?_
  refine ev_iload_n (pc := 5) 0 dX2_add_5 rfl ?_
  refine ev_bipush (pc := 6) 40 k_bipush_40 dX2_add_6 ?_
  refine ev_icmp_ge (pc := 8) 28 (by decide) dX2_add_8 ?_ ?_
  · refine EvW.sub [1] rfl ?_
    exact E_X2_add_28 N d I2 L3
  · refine ev_aload_n (pc := 11) 1 dX2_add_11 rfl ?_
    refine ev_callVV (pc := 12) (d := d + 2) (As := []) (st := []) cv_X2_startAct rfl w_474 rfl (Nat.le_of_ble_eq_true rfl) (ok_X2_startAct N (d) I2 L3) dX2_add_12 (fun I8 L9 => ?_)
    refine ev_aload_n (pc := 15) 1 dX2_add_15 rfl ?_
    refine ev_iload_n (pc := 16) 0 dX2_add_16 rfl ?_
    refine ev_iconst (pc := 17) 1 k_iconst_1 dX2_add_17 ?_
    refine ev_iadd (pc := 18) dX2_add_18 ?_
    refine ev_callVV (pc := 19) (d := d + 2) (As := [.int (x1 + 1)]) (st := []) cv_X2_resize rfl w_462 rfl (Nat.le_of_ble_eq_true rfl) (ok_X2_resize N (d + 2) (x1 + 1) I8 L9) dX2_add_19 (fun I11 L12 => ?_)
    refine ev_aload_n (pc := 22) 1 dX2_add_22 rfl ?_
    refine ev_iload_n (pc := 23) 0 dX2_add_23 rfl ?_
    refine ev_iload_n (pc := 24) 2 dX2_add_24 rfl ?_
    refine ev_callVV (pc := 25) (d := d + 2) (As := [.int x1, .int a1]) (st := []) cv_X2_write rfl w_470 rfl (Nat.le_of_ble_eq_true rfl) (ok_X2_write N (d + 1) x1 a1 I11 L12) dX2_add_25 (fun I14 L15 => ?_)
    refine EvW.sub [1] rfl ?_
    exact E_X2_add_28 N d I14 L15
def f_X11_cell (N : Nat) (a1 : Int32) (I : PI) (L : PL) : RES := bI (f_X2_isValue N a1 I L) (fun x1 I2 L3 => (if x1 = 0 then some (some (.int (-1 : Int32)), I2, L3) else bI (f_X2_size N I2 L3) (fun x4 I5 L6 => (if 40 ≤ x4 then some (some (.int (-1 : Int32)), I5, L6) else bI (f_X2_add N a1 I5 L6) (fun x7 I8 L9 => some (some (.int x7), I8, L9))))))
set_option maxRecDepth 100000 in
theorem ok_X11_cell (N d : Nat) (a1 : Int32) (I : PI) (L : PL) : MOk M_X11_cell (d + 4) [.ref 11, .int a1] I L (f_X11_cell N a1 I L) := by
  refine MOk.of (by decide +kernel) (Nat.le_of_ble_eq_true rfl) ?_
  show EvW _ _ 0 [(0, .ref 11), (1, .int a1)] [] I L _
  rw [f_X11_cell]
  refine ev_iload_n (pc := 0) 1 dX11_cell_0 rfl ?_
  refine ev_callSI (pc := 1) (d := d + 3) (As := [.int a1]) (st := []) cv_X2_isValue rfl w_450 rfl (Nat.le_of_ble_eq_true rfl) (ok_X2_isValue N (d + 3) a1 I L) dX11_cell_1 (fun x1 I2 L3 => ?_)
  refine ev_if_eq (pc := 4) 30 (by decide) dX11_cell_4 ?_ ?_
  · refine ev_iconst (pc := 30) (-1 : Int32) k_iconst_m1 dX11_cell_30 ?_
    exact ev_iret (pc := 31) rfl dX11_cell_31
  · refine ev_aload_n (pc := 7) 0 dX11_cell_7 rfl ?_
    refine gf_X11_73 (pc := 8) rfl dX11_cell_8 ?_
    refine ev_callVI (pc := 11) (d := d + 3) (As := []) (st := []) cv_X2_size rfl w_457 rfl (Nat.le_of_ble_eq_true rfl) (ok_X2_size N (d + 3) I2 L3) dX11_cell_11 (fun x4 I5 L6 => ?_)
    refine ev_bipush (pc := 14) 40 k_bipush_40 dX11_cell_14 ?_
    refine ev_icmp_ge (pc := 16) 30 (by decide) dX11_cell_16 ?_ ?_
    · refine ev_iconst (pc := 30) (-1 : Int32) k_iconst_m1 dX11_cell_30 ?_
      exact ev_iret (pc := 31) rfl dX11_cell_31
    · refine ev_aload_n (pc := 19) 0 dX11_cell_19 rfl ?_
      refine gf_X11_73 (pc := 20) rfl dX11_cell_20 ?_
      refine ev_iload_n (pc := 23) 1 dX11_cell_23 rfl ?_
      refine ev_callVI (pc := 24) (d := d + 3) (As := [.int a1]) (st := []) cv_X2_add rfl w_478 rfl (Nat.le_of_ble_eq_true rfl) (ok_X2_add N (d) a1 I5 L6) dX11_cell_24 (fun x7 I8 L9 => ?_)
      refine ev_goto (pc := 27) 31 (by decide) dX11_cell_27 ?_
      exact ev_iret (pc := 31) rfl dX11_cell_31
def f_X2_has (N : Nat) (a1 : Int32) (I : PI) (L : PL) : RES := (if a1 < 0 then gd (decide (0 &&& 1 = 0)) (some (some (.int 0), I, L)) else bI (f_X2_size N I L) (fun x1 I2 L3 => (if x1 ≤ a1 then gd (decide (0 &&& 1 = 0)) (some (some (.int 0), I2, L3)) else gd (decide (1 &&& 1 = 1)) (some (some (.int 1), I2, L3)))))
set_option maxRecDepth 100000 in
theorem ok_X2_has (N d : Nat) (a1 : Int32) (I : PI) (L : PL) : MOk M_X2_has (d + 1) [.ref 2, .int a1] I L (f_X2_has N a1 I L) := by
  refine MOk.of (by decide +kernel) (Nat.le_of_ble_eq_true rfl) ?_
  show EvW _ _ 0 [(0, .ref 2), (1, .int a1)] [] I L _
  rw [f_X2_has]
  refine ev_iload_n (pc := 0) 1 dX2_has_0 rfl ?_
  refine ev_if_lt (pc := 1) 16 (by decide) dX2_has_1 ?_ ?_
  · refine ev_iconst (pc := 16) 0 k_iconst_0 dX2_has_16 ?_
    exact ev_zret (pc := 17) rfl dX2_has_17
  · refine ev_iload_n (pc := 4) 1 dX2_has_4 rfl ?_
    refine ev_aload_n (pc := 5) 0 dX2_has_5 rfl ?_
    refine ev_callVI (pc := 6) (d := d) (As := []) (st := [.int a1]) cv_X2_size rfl w_458 rfl (Nat.le_of_ble_eq_true rfl) (ok_X2_size N (d) I L) dX2_has_6 (fun x1 I2 L3 => ?_)
    refine ev_icmp_ge (pc := 9) 16 (by decide) dX2_has_9 ?_ ?_
    · refine ev_iconst (pc := 16) 0 k_iconst_0 dX2_has_16 ?_
      exact ev_zret (pc := 17) rfl dX2_has_17
    · refine ev_iconst (pc := 12) 1 k_iconst_1 dX2_has_12 ?_
      refine ev_goto (pc := 13) 17 (by decide) dX2_has_13 ?_
      exact ev_zret (pc := 17) rfl dX2_has_17
def f_X2_put (N : Nat) (a1 : Int32) (a2 : Int32) (I : PI) (L : PL) : RES := bI (f_X2_has N a1 I L) (fun x1 I2 L3 => (if x1 = 0 then some (none, I2, L3) else bV (f_X2_startAct N I2 L3) (fun I5 L6 => bV (f_X2_write N a1 a2 I5 L6) (fun I8 L9 => some (none, I8, L9)))))
set_option maxRecDepth 100000 in
theorem ok_X2_put (N d : Nat) (a1 : Int32) (a2 : Int32) (I : PI) (L : PL) : MOk M_X2_put (d + 3) [.ref 2, .int a1, .int a2] I L (f_X2_put N a1 a2 I L) := by
  refine MOk.of (by decide +kernel) (Nat.le_of_ble_eq_true rfl) ?_
  show EvW _ _ 0 [(0, .ref 2), (1, .int a1), (2, .int a2)] [] I L _
  rw [f_X2_put]
  refine ev_aload_n (pc := 0) 0 dX2_put_0 rfl ?_
  refine ev_iload_n (pc := 1) 1 dX2_put_1 rfl ?_
  refine ev_callVI (pc := 2) (d := d + 2) (As := [.int a1]) (st := []) cv_X2_has rfl w_483 rfl (Nat.le_of_ble_eq_true rfl) (ok_X2_has N (d + 1) a1 I L) dX2_put_2 (fun x1 I2 L3 => ?_)
  refine ev_if_eq (pc := 5) 18 (by decide) dX2_put_5 ?_ ?_
  · exact ev_vret (pc := 18) rfl dX2_put_18
  · refine ev_aload_n (pc := 8) 0 dX2_put_8 rfl ?_
    refine ev_callVV (pc := 9) (d := d + 2) (As := []) (st := []) cv_X2_startAct rfl w_474 rfl (Nat.le_of_ble_eq_true rfl) (ok_X2_startAct N (d) I2 L3) dX2_put_9 (fun I5 L6 => ?_)
    refine ev_aload_n (pc := 12) 0 dX2_put_12 rfl ?_
    refine ev_iload_n (pc := 13) 1 dX2_put_13 rfl ?_
    refine ev_iload_n (pc := 14) 2 dX2_put_14 rfl ?_
    refine ev_callVV (pc := 15) (d := d + 2) (As := [.int a1, .int a2]) (st := []) cv_X2_write rfl w_470 rfl (Nat.le_of_ble_eq_true rfl) (ok_X2_write N (d + 1) a1 a2 I5 L6) dX2_put_15 (fun I8 L9 => ?_)
    exact ev_vret (pc := 18) rfl dX2_put_18
def f_X11_change (N : Nat) (a1 : Int32) (a2 : Int32) (I : PI) (L : PL) : RES := bI (f_X2_has N a1 I L) (fun x1 I2 L3 => (if x1 = 0 then gd (decide (0 &&& 1 = 0)) (some (some (.int 0), I2, L3)) else bI (f_X2_isValue N a2 I2 L3) (fun x4 I5 L6 => (if x4 = 0 then gd (decide (0 &&& 1 = 0)) (some (some (.int 0), I5, L6)) else bV (f_X2_put N a1 a2 I5 L6) (fun I8 L9 => gd (decide (1 &&& 1 = 1)) (some (some (.int 1), I8, L9)))))))
set_option maxRecDepth 100000 in
theorem ok_X11_change (N d : Nat) (a1 : Int32) (a2 : Int32) (I : PI) (L : PL) : MOk M_X11_change (d + 4) [.ref 11, .int a1, .int a2] I L (f_X11_change N a1 a2 I L) := by
  refine MOk.of (by decide +kernel) (Nat.le_of_ble_eq_true rfl) ?_
  show EvW _ _ 0 [(0, .ref 11), (1, .int a1), (2, .int a2)] [] I L _
  rw [f_X11_change]
  refine ev_aload_n (pc := 0) 0 dX11_change_0 rfl ?_
  refine gf_X11_73 (pc := 1) rfl dX11_change_1 ?_
  refine ev_iload_n (pc := 4) 1 dX11_change_4 rfl ?_
  refine ev_callVI (pc := 5) (d := d + 3) (As := [.int a1]) (st := []) cv_X2_has rfl w_482 rfl (Nat.le_of_ble_eq_true rfl) (ok_X2_has N (d + 2) a1 I L) dX11_change_5 (fun x1 I2 L3 => ?_)
  refine ev_if_eq (pc := 8) 18 (by decide) dX11_change_8 ?_ ?_
  · refine ev_iconst (pc := 18) 0 k_iconst_0 dX11_change_18 ?_
    exact ev_zret (pc := 19) rfl dX11_change_19
  · refine ev_iload_n (pc := 11) 2 dX11_change_11 rfl ?_
    refine ev_callSI (pc := 12) (d := d + 3) (As := [.int a2]) (st := []) cv_X2_isValue rfl w_450 rfl (Nat.le_of_ble_eq_true rfl) (ok_X2_isValue N (d + 3) a2 I2 L3) dX11_change_12 (fun x4 I5 L6 => ?_)
    refine ev_if_ne (pc := 15) 20 (by decide) dX11_change_15 ?_ ?_
    · refine ev_aload_n (pc := 20) 0 dX11_change_20 rfl ?_
      refine gf_X11_73 (pc := 21) rfl dX11_change_21 ?_
      refine ev_iload_n (pc := 24) 1 dX11_change_24 rfl ?_
      refine ev_iload_n (pc := 25) 2 dX11_change_25 rfl ?_
      refine ev_callVV (pc := 26) (d := d + 3) (As := [.int a1, .int a2]) (st := []) cv_X2_put rfl w_487 rfl (Nat.le_of_ble_eq_true rfl) (ok_X2_put N (d) a1 a2 I5 L6) dX11_change_26 (fun I8 L9 => ?_)
      refine ev_iconst (pc := 29) 1 k_iconst_1 dX11_change_29 ?_
      exact ev_zret (pc := 30) rfl dX11_change_30
    · refine ev_iconst (pc := 18) 0 k_iconst_0 dX11_change_18 ?_
      exact ev_zret (pc := 19) rfl dX11_change_19
def F_X2_drawAll_30 (N : Nat) : Nat → Int32 → Int32 → Int64 → Int32 → PI → PL → RES
  | 0, _, _, _, _, _, _ => none
  | n + 1, v1, v2, v5, v7, I, L => (if v1 ≤ v7 then some (none, I, L) else nmJ ((v5 * 6364136223846793005) + 1442695040888963407) (fun x7 => gd (decide (¬ (Int32.toInt64 v2) = 0)) (bV (f_X2_write N v7 (Int64.toInt32 (jlrem (jlushr x7 33) (Int32.toInt64 v2))) I L) (fun I9 L10 => (F_X2_drawAll_30 N n) v1 v2 x7 (v7 + 1) I9 L10))))
set_option maxRecDepth 100000 in
theorem E_X2_drawAll_30 (N d : Nat) : ∀ (n : Nat) (v1 : Int32) (v2 : Int32) (v5 : Int64) (v7 : Int32) (I : PI) (L : PL), EvW M_X2_drawAll (d + 3) 30 [(0, .ref 2), (1, .int v1), (2, .int v2), (5, .long v5), (7, .int v7)] [] I L (F_X2_drawAll_30 N n v1 v2 v5 v7 I L) := by
  intro n
  induction n with
  | zero =>
    intro v1 v2 v5 v7 I L
    exact EvW.none
  | succ n hr_30 =>
    intro v1 v2 v5 v7 I L
    rw [F_X2_drawAll_30]
    refine ev_iload (pc := 30) 4 dX2_drawAll_30 rfl ?_
    refine ev_iload_n (pc := 32) 1 dX2_drawAll_32 rfl ?_
    refine ev_icmp_ge (pc := 33) 69 (by decide) dX2_drawAll_33 ?_ ?_
    · exact ev_vret (pc := 69) rfl dX2_drawAll_69
    · refine ev_lload (pc := 36) 3 dX2_drawAll_36 rfl ?_
      refine ev_ldc2 (pc := 38) w_488 dX2_drawAll_38 ?_
      refine ev_lmul (pc := 41) dX2_drawAll_41 ?_
      refine ev_ldc2 (pc := 42) w_489 dX2_drawAll_42 ?_
      refine ev_ladd (pc := 45) dX2_drawAll_45 ?_
      refine ev_nmJ (fun x7 => ?_)
      refine ev_lstore (pc := 46) (lv' := [(5, .long x7), (0, .ref 2), (1, .int v1), (2, .int v2), (7, .int v7)]) dX2_drawAll_46 rfl rfl ?_
      refine ev_aload_n (pc := 48) 1 dX2_drawAll_48 rfl ?_
      refine ev_iload (pc := 49) 4 dX2_drawAll_49 rfl ?_
      refine ev_lload (pc := 51) 0 dX2_drawAll_51 rfl ?_
      refine ev_bipush (pc := 53) 33 k_bipush_33 dX2_drawAll_53 ?_
      refine ev_lushr (pc := 55) dX2_drawAll_55 ?_
      refine ev_iload_n (pc := 56) 3 dX2_drawAll_56 rfl ?_
      refine ev_i2l (pc := 57) dX2_drawAll_57 ?_
      refine ev_lrem (pc := 58) dX2_drawAll_58 ?_
      refine ev_l2i (pc := 59) dX2_drawAll_59 ?_
      refine ev_callVV (pc := 60) (d := d + 2) (As := [.int v7, .int (Int64.toInt32 (jlrem (jlushr x7 33) (Int32.toInt64 v2)))]) (st := []) cv_X2_write rfl w_470 rfl (Nat.le_of_ble_eq_true rfl) (ok_X2_write N (d + 1) v7 (Int64.toInt32 (jlrem (jlushr x7 33) (Int32.toInt64 v2))) I L) dX2_drawAll_60 (fun I9 L10 => ?_)
      refine ev_iinc (pc := 63) (lv' := [(7, .int (v7 + 1)), (5, .long x7), (0, .ref 2), (1, .int v1), (2, .int v2)]) dX2_drawAll_63 4 rfl rfl 1 k_iconst_1 rfl ?_
      refine ev_goto (pc := 66) 30 (by decide) dX2_drawAll_66 ?_
      refine EvW.sub [2, 3, 4, 1, 0] rfl ?_
      exact hr_30 v1 v2 x7 (v7 + 1) I9 L10
def f_X2_drawAll (N : Nat) (a1 : Int32) (a2 : Int32) (a3 : Int64) (I : PI) (L : PL) : RES := (if a1 < 0 then some (none, I, L) else (if 40 < a1 then some (none, I, L) else (if 0 < a2 then bV (f_X2_startAct N I L) (fun I2 L3 => bV (f_X2_resize N a1 I2 L3) (fun I5 L6 => F_X2_drawAll_30 N N a1 a2 a3 0 I5 L6)) else some (none, I, L))))
set_option maxRecDepth 100000 in
theorem ok_X2_drawAll (N d : Nat) (a1 : Int32) (a2 : Int32) (a3 : Int64) (I : PI) (L : PL) : MOk M_X2_drawAll (d + 3) [.ref 2, .int a1, .int a2, .long a3] I L (f_X2_drawAll N a1 a2 a3 I L) := by
  refine MOk.of (by decide +kernel) (Nat.le_of_ble_eq_true rfl) ?_
  show EvW _ _ 0 [(0, .ref 2), (1, .int a1), (2, .int a2), (3, .long a3)] [] I L _
  rw [f_X2_drawAll]
  refine ev_iload_n (pc := 0) 1 dX2_drawAll_0 rfl ?_
  refine ev_if_lt (pc := 1) 14 (by decide) dX2_drawAll_1 ?_ ?_
  · exact ev_vret (pc := 14) rfl dX2_drawAll_14
  · refine ev_iload_n (pc := 4) 1 dX2_drawAll_4 rfl ?_
    refine ev_bipush (pc := 5) 40 k_bipush_40 dX2_drawAll_5 ?_
    refine ev_icmp_gt (pc := 7) 14 (by decide) dX2_drawAll_7 ?_ ?_
    · exact ev_vret (pc := 14) rfl dX2_drawAll_14
    · refine ev_iload_n (pc := 10) 2 dX2_drawAll_10 rfl ?_
      refine ev_if_gt (pc := 11) 15 (by decide) dX2_drawAll_11 ?_ ?_
      · refine ev_aload_n (pc := 15) 0 dX2_drawAll_15 rfl ?_
        refine ev_callVV (pc := 16) (d := d + 2) (As := []) (st := []) cv_X2_startAct rfl w_474 rfl (Nat.le_of_ble_eq_true rfl) (ok_X2_startAct N (d) I L) dX2_drawAll_16 (fun I2 L3 => ?_)
        refine ev_aload_n (pc := 19) 0 dX2_drawAll_19 rfl ?_
        refine ev_iload_n (pc := 20) 1 dX2_drawAll_20 rfl ?_
        refine ev_callVV (pc := 21) (d := d + 2) (As := [.int a1]) (st := []) cv_X2_resize rfl w_462 rfl (Nat.le_of_ble_eq_true rfl) (ok_X2_resize N (d + 2) a1 I2 L3) dX2_drawAll_21 (fun I5 L6 => ?_)
        refine ev_lload_n (pc := 24) 3 dX2_drawAll_24 rfl ?_
        refine ev_lstore (pc := 25) (lv' := [(5, .long a3), (0, .ref 2), (1, .int a1), (2, .int a2), (3, .long a3)]) dX2_drawAll_25 rfl rfl ?_
        refine ev_iconst (pc := 27) 0 k_iconst_0 dX2_drawAll_27 ?_
        refine ev_istore (pc := 28) (lv' := [(7, .int 0), (5, .long a3), (0, .ref 2), (1, .int a1), (2, .int a2), (3, .long a3)]) dX2_drawAll_28 rfl rfl ?_
        refine EvW.sub [2, 3, 4, 1, 0] rfl ?_
        exact E_X2_drawAll_30 N d N a1 a2 a3 0 I5 L6
      · exact ev_vret (pc := 14) rfl dX2_drawAll_14
def f_X11_draw (N : Nat) (a1 : Int32) (a2 : Int32) (a3 : Int64) (I : PI) (L : PL) : RES := bI (f_X11_within N a1 1 40 I L) (fun x1 I2 L3 => (if x1 = 0 then gd (decide (0 &&& 1 = 0)) (some (some (.int 0), I2, L3)) else bI (f_X11_within N a2 1 1000 I2 L3) (fun x4 I5 L6 => (if x4 = 0 then gd (decide (0 &&& 1 = 0)) (some (some (.int 0), I5, L6)) else bV (f_X2_drawAll N a1 a2 a3 I5 L6) (fun I8 L9 => gd (decide (1 &&& 1 = 1)) (some (some (.int 1), I8, L9)))))))
set_option maxRecDepth 100000 in
theorem ok_X11_draw (N d : Nat) (a1 : Int32) (a2 : Int32) (a3 : Int64) (I : PI) (L : PL) : MOk M_X11_draw (d + 4) [.ref 11, .int a1, .int a2, .long a3] I L (f_X11_draw N a1 a2 a3 I L) := by
  refine MOk.of (by decide +kernel) (Nat.le_of_ble_eq_true rfl) ?_
  show EvW _ _ 0 [(0, .ref 11), (1, .int a1), (2, .int a2), (3, .long a3)] [] I L _
  rw [f_X11_draw]
  refine ev_iload_n (pc := 0) 1 dX11_draw_0 rfl ?_
  refine ev_iconst (pc := 1) 1 k_iconst_1 dX11_draw_1 ?_
  refine ev_bipush (pc := 2) 40 k_bipush_40 dX11_draw_2 ?_
  refine ev_callSI (pc := 4) (d := d + 3) (As := [.int a1, .int 1, .int 40]) (st := []) cv_X11_within rfl w_18 rfl (Nat.le_of_ble_eq_true rfl) (ok_X11_within N (d + 3) a1 1 40 I L) dX11_draw_4 (fun x1 I2 L3 => ?_)
  refine ev_if_eq (pc := 7) 21 (by decide) dX11_draw_7 ?_ ?_
  · refine ev_iconst (pc := 21) 0 k_iconst_0 dX11_draw_21 ?_
    exact ev_zret (pc := 22) rfl dX11_draw_22
  · refine ev_iload_n (pc := 10) 2 dX11_draw_10 rfl ?_
    refine ev_iconst (pc := 11) 1 k_iconst_1 dX11_draw_11 ?_
    refine ev_sipush (pc := 12) 1000 k_sipush_1000 dX11_draw_12 ?_
    refine ev_callSI (pc := 15) (d := d + 3) (As := [.int a2, .int 1, .int 1000]) (st := []) cv_X11_within rfl w_18 rfl (Nat.le_of_ble_eq_true rfl) (ok_X11_within N (d + 3) a2 1 1000 I2 L3) dX11_draw_15 (fun x4 I5 L6 => ?_)
    refine ev_if_ne (pc := 18) 23 (by decide) dX11_draw_18 ?_ ?_
    · refine ev_aload_n (pc := 23) 0 dX11_draw_23 rfl ?_
      refine gf_X11_73 (pc := 24) rfl dX11_draw_24 ?_
      refine ev_iload_n (pc := 27) 1 dX11_draw_27 rfl ?_
      refine ev_iload_n (pc := 28) 2 dX11_draw_28 rfl ?_
      refine ev_lload_n (pc := 29) 3 dX11_draw_29 rfl ?_
      refine ev_callVV (pc := 30) (d := d + 3) (As := [.int a1, .int a2, .long a3]) (st := []) cv_X2_drawAll rfl w_493 rfl (Nat.le_of_ble_eq_true rfl) (ok_X2_drawAll N (d) a1 a2 a3 I5 L6) dX11_draw_30 (fun I8 L9 => ?_)
      refine ev_iconst (pc := 33) 1 k_iconst_1 dX11_draw_33 ?_
      exact ev_zret (pc := 34) rfl dX11_draw_34
    · refine ev_iconst (pc := 21) 0 k_iconst_0 dX11_draw_21 ?_
      exact ev_zret (pc := 22) rfl dX11_draw_22
def f_X2_value (N : Nat) (a1 : Int32) (I : PI) (L : PL) : RES := (if a1 < 0 then some (some (.int (-1 : Int32)), I, L) else bI (f_X2_size N I L) (fun x1 I2 L3 => (if x1 ≤ a1 then some (some (.int (-1 : Int32)), I2, L3) else gd (inb (((I2 2 4) * 40) + a1) 1240) (some (some (.int (I2 30 (Int32.toNatClampNeg (((I2 2 4) * 40) + a1)))), I2, L3)))))
set_option maxRecDepth 100000 in
theorem ok_X2_value (N d : Nat) (a1 : Int32) (I : PI) (L : PL) : MOk M_X2_value (d + 1) [.ref 2, .int a1] I L (f_X2_value N a1 I L) := by
  refine MOk.of (by decide +kernel) (Nat.le_of_ble_eq_true rfl) ?_
  show EvW _ _ 0 [(0, .ref 2), (1, .int a1)] [] I L _
  rw [f_X2_value]
  refine ev_iload_n (pc := 0) 1 dX2_value_0 rfl ?_
  refine ev_if_lt (pc := 1) 29 (by decide) dX2_value_1 ?_ ?_
  · refine ev_iconst (pc := 29) (-1 : Int32) k_iconst_m1 dX2_value_29 ?_
    exact ev_iret (pc := 30) rfl dX2_value_30
  · refine ev_iload_n (pc := 4) 1 dX2_value_4 rfl ?_
    refine ev_aload_n (pc := 5) 0 dX2_value_5 rfl ?_
    refine ev_callVI (pc := 6) (d := d) (As := []) (st := [.int a1]) cv_X2_size rfl w_458 rfl (Nat.le_of_ble_eq_true rfl) (ok_X2_size N (d) I L) dX2_value_6 (fun x1 I2 L3 => ?_)
    refine ev_icmp_ge (pc := 9) 29 (by decide) dX2_value_9 ?_ ?_
    · refine ev_iconst (pc := 29) (-1 : Int32) k_iconst_m1 dX2_value_29 ?_
      exact ev_iret (pc := 30) rfl dX2_value_30
    · refine ev_aload_n (pc := 12) 0 dX2_value_12 rfl ?_
      refine gf_X2_11 (pc := 13) rfl dX2_value_13 ?_
      refine ev_aload_n (pc := 16) 0 dX2_value_16 rfl ?_
      refine gf_X2_25 (pc := 17) rfl dX2_value_17 ?_
      refine ev_bipush (pc := 20) 40 k_bipush_40 dX2_value_20 ?_
      refine ev_imul (pc := 22) dX2_value_22 ?_
      refine ev_iload_n (pc := 23) 1 dX2_value_23 rfl ?_
      refine ev_iadd (pc := 24) dX2_value_24 ?_
      refine ev_iald (pc := 25) kK_30 dX2_value_25 ?_
      refine ev_goto (pc := 26) 30 (by decide) dX2_value_26 ?_
      exact ev_iret (pc := 30) rfl dX2_value_30
def f_X11_at (N : Nat) (a1 : Int32) (I : PI) (L : PL) : RES := bI (f_X2_has N a1 I L) (fun x1 I2 L3 => (if x1 = 0 then some (some (.int (-1 : Int32)), I2, L3) else bI (f_X2_value N a1 I2 L3) (fun x4 I5 L6 => some (some (.int x4), I5, L6))))
set_option maxRecDepth 100000 in
theorem ok_X11_at (N d : Nat) (a1 : Int32) (I : PI) (L : PL) : MOk M_X11_at (d + 2) [.ref 11, .int a1] I L (f_X11_at N a1 I L) := by
  refine MOk.of (by decide +kernel) (Nat.le_of_ble_eq_true rfl) ?_
  show EvW _ _ 0 [(0, .ref 11), (1, .int a1)] [] I L _
  rw [f_X11_at]
  refine ev_aload_n (pc := 0) 0 dX11_at_0 rfl ?_
  refine gf_X11_73 (pc := 1) rfl dX11_at_1 ?_
  refine ev_iload_n (pc := 4) 1 dX11_at_4 rfl ?_
  refine ev_callVI (pc := 5) (d := d + 1) (As := [.int a1]) (st := []) cv_X2_has rfl w_482 rfl (Nat.le_of_ble_eq_true rfl) (ok_X2_has N (d) a1 I L) dX11_at_5 (fun x1 I2 L3 => ?_)
  refine ev_if_eq (pc := 8) 22 (by decide) dX11_at_8 ?_ ?_
  · refine ev_iconst (pc := 22) (-1 : Int32) k_iconst_m1 dX11_at_22 ?_
    exact ev_iret (pc := 23) rfl dX11_at_23
  · refine ev_aload_n (pc := 11) 0 dX11_at_11 rfl ?_
    refine gf_X11_73 (pc := 12) rfl dX11_at_12 ?_
    refine ev_iload_n (pc := 15) 1 dX11_at_15 rfl ?_
    refine ev_callVI (pc := 16) (d := d + 1) (As := [.int a1]) (st := []) cv_X2_value rfl w_497 rfl (Nat.le_of_ble_eq_true rfl) (ok_X2_value N (d) a1 I2 L3) dX11_at_16 (fun x4 I5 L6 => ?_)
    refine ev_goto (pc := 19) 23 (by decide) dX11_at_19 ?_
    exact ev_iret (pc := 23) rfl dX11_at_23
def F_X2_goBack_28 (N : Nat) (s0 : Int32) (I : PI) (L : PL) : RES := nmW (uI I 2 4 s0) (fun I1 => nmW (uI I1 2 5 ((I1 2 5) - 1)) (fun I2 => nmW (uI I2 2 6 ((I2 2 6) + 1)) (fun I3 => bI (f_X2_size N I3 L) (fun x4 I5 L6 => some (some (.int x4), I5, L6)))))
set_option maxRecDepth 100000 in
theorem E_X2_goBack_28 (N d : Nat) (s0 : Int32) (I : PI) (L : PL) : EvW M_X2_goBack (d + 1) 28 [(0, .ref 2)] [.int s0, .ref 2] I L (F_X2_goBack_28 N s0 I L) := by
  rw [F_X2_goBack_28]
  refine pf_X2_25 (pc := 28) rfl dX2_goBack_28 ?_
  refine ev_nmW (fun I1 => ?_)
  refine ev_aload_n (pc := 31) 0 dX2_goBack_31 rfl ?_
  refine ev_dup (pc := 32) rfl dX2_goBack_32 ?_
  refine gf_X2_55 (pc := 33) rfl dX2_goBack_33 ?_
  refine ev_iconst (pc := 36) 1 k_iconst_1 dX2_goBack_36 ?_
  refine ev_isub (pc := 37) dX2_goBack_37 ?_
  refine pf_X2_55 (pc := 38) rfl dX2_goBack_38 ?_
  refine ev_nmW (fun I2 => ?_)
  refine ev_aload_n (pc := 41) 0 dX2_goBack_41 rfl ?_
  refine ev_dup (pc := 42) rfl dX2_goBack_42 ?_
  refine gf_X2_64 (pc := 43) rfl dX2_goBack_43 ?_
  refine ev_iconst (pc := 46) 1 k_iconst_1 dX2_goBack_46 ?_
  refine ev_iadd (pc := 47) dX2_goBack_47 ?_
  refine pf_X2_64 (pc := 48) rfl dX2_goBack_48 ?_
  refine ev_nmW (fun I3 => ?_)
  refine ev_aload_n (pc := 51) 0 dX2_goBack_51 rfl ?_
  refine ev_callVI (pc := 52) (d := d) (As := []) (st := []) cv_X2_size rfl w_458 rfl (Nat.le_of_ble_eq_true rfl) (ok_X2_size N (d) I3 L) dX2_goBack_52 (fun x4 I5 L6 => ?_)
  exact ev_iret (pc := 55) rfl dX2_goBack_55
def f_X2_goBack (N : Nat) (I : PI) (L : PL) : RES := (if (I 2 5) = 0 then some (some (.int (-1 : Int32)), I, L) else (if (I 2 4) ≤ 0 then F_X2_goBack_28 N 30 I L else F_X2_goBack_28 N ((I 2 4) - 1) I L))
set_option maxRecDepth 100000 in
theorem ok_X2_goBack (N d : Nat) (I : PI) (L : PL) : MOk M_X2_goBack (d + 1) [.ref 2] I L (f_X2_goBack N I L) := by
  refine MOk.of (by decide +kernel) (Nat.le_of_ble_eq_true rfl) ?_
  show EvW _ _ 0 [(0, .ref 2)] [] I L _
  rw [f_X2_goBack]
  refine ev_aload_n (pc := 0) 0 dX2_goBack_0 rfl ?_
  refine gf_X2_55 (pc := 1) rfl dX2_goBack_1 ?_
  refine ev_if_ne (pc := 4) 9 (by decide) dX2_goBack_4 ?_ ?_
  · refine ev_aload_n (pc := 9) 0 dX2_goBack_9 rfl ?_
    refine ev_aload_n (pc := 10) 0 dX2_goBack_10 rfl ?_
    refine gf_X2_25 (pc := 11) rfl dX2_goBack_11 ?_
    refine ev_if_le (pc := 14) 26 (by decide) dX2_goBack_14 ?_ ?_
    · refine ev_bipush (pc := 26) 30 k_bipush_30 dX2_goBack_26 ?_
      exact E_X2_goBack_28 N d 30 I L
    · refine ev_aload_n (pc := 17) 0 dX2_goBack_17 rfl ?_
      refine gf_X2_25 (pc := 18) rfl dX2_goBack_18 ?_
      refine ev_iconst (pc := 21) 1 k_iconst_1 dX2_goBack_21 ?_
      refine ev_isub (pc := 22) dX2_goBack_22 ?_
      refine ev_goto (pc := 23) 28 (by decide) dX2_goBack_23 ?_
      exact E_X2_goBack_28 N d ((I 2 4) - 1) I L
  · refine ev_iconst (pc := 7) (-1 : Int32) k_iconst_m1 dX2_goBack_7 ?_
    exact ev_iret (pc := 8) rfl dX2_goBack_8
def F_X2_goOn_29 (N : Nat) (s0 : Int32) (I : PI) (L : PL) : RES := nmW (uI I 2 4 s0) (fun I1 => nmW (uI I1 2 5 ((I1 2 5) + 1)) (fun I2 => nmW (uI I2 2 6 ((I2 2 6) - 1)) (fun I3 => bI (f_X2_size N I3 L) (fun x4 I5 L6 => some (some (.int x4), I5, L6)))))
set_option maxRecDepth 100000 in
theorem E_X2_goOn_29 (N d : Nat) (s0 : Int32) (I : PI) (L : PL) : EvW M_X2_goOn (d + 1) 29 [(0, .ref 2)] [.int s0, .ref 2] I L (F_X2_goOn_29 N s0 I L) := by
  rw [F_X2_goOn_29]
  refine pf_X2_25 (pc := 29) rfl dX2_goOn_29 ?_
  refine ev_nmW (fun I1 => ?_)
  refine ev_aload_n (pc := 32) 0 dX2_goOn_32 rfl ?_
  refine ev_dup (pc := 33) rfl dX2_goOn_33 ?_
  refine gf_X2_55 (pc := 34) rfl dX2_goOn_34 ?_
  refine ev_iconst (pc := 37) 1 k_iconst_1 dX2_goOn_37 ?_
  refine ev_iadd (pc := 38) dX2_goOn_38 ?_
  refine pf_X2_55 (pc := 39) rfl dX2_goOn_39 ?_
  refine ev_nmW (fun I2 => ?_)
  refine ev_aload_n (pc := 42) 0 dX2_goOn_42 rfl ?_
  refine ev_dup (pc := 43) rfl dX2_goOn_43 ?_
  refine gf_X2_64 (pc := 44) rfl dX2_goOn_44 ?_
  refine ev_iconst (pc := 47) 1 k_iconst_1 dX2_goOn_47 ?_
  refine ev_isub (pc := 48) dX2_goOn_48 ?_
  refine pf_X2_64 (pc := 49) rfl dX2_goOn_49 ?_
  refine ev_nmW (fun I3 => ?_)
  refine ev_aload_n (pc := 52) 0 dX2_goOn_52 rfl ?_
  refine ev_callVI (pc := 53) (d := d) (As := []) (st := []) cv_X2_size rfl w_458 rfl (Nat.le_of_ble_eq_true rfl) (ok_X2_size N (d) I3 L) dX2_goOn_53 (fun x4 I5 L6 => ?_)
  exact ev_iret (pc := 56) rfl dX2_goOn_56
def f_X2_goOn (N : Nat) (I : PI) (L : PL) : RES := (if (I 2 6) = 0 then some (some (.int (-1 : Int32)), I, L) else (if 30 ≤ (I 2 4) then F_X2_goOn_29 N 0 I L else F_X2_goOn_29 N ((I 2 4) + 1) I L))
set_option maxRecDepth 100000 in
theorem ok_X2_goOn (N d : Nat) (I : PI) (L : PL) : MOk M_X2_goOn (d + 1) [.ref 2] I L (f_X2_goOn N I L) := by
  refine MOk.of (by decide +kernel) (Nat.le_of_ble_eq_true rfl) ?_
  show EvW _ _ 0 [(0, .ref 2)] [] I L _
  rw [f_X2_goOn]
  refine ev_aload_n (pc := 0) 0 dX2_goOn_0 rfl ?_
  refine gf_X2_64 (pc := 1) rfl dX2_goOn_1 ?_
  refine ev_if_ne (pc := 4) 9 (by decide) dX2_goOn_4 ?_ ?_
  · refine ev_aload_n (pc := 9) 0 dX2_goOn_9 rfl ?_
    refine ev_aload_n (pc := 10) 0 dX2_goOn_10 rfl ?_
    refine gf_X2_25 (pc := 11) rfl dX2_goOn_11 ?_
    refine ev_bipush (pc := 14) 30 k_bipush_30 dX2_goOn_14 ?_
    refine ev_icmp_ge (pc := 16) 28 (by decide) dX2_goOn_16 ?_ ?_
    · refine ev_iconst (pc := 28) 0 k_iconst_0 dX2_goOn_28 ?_
      exact E_X2_goOn_29 N d 0 I L
    · refine ev_aload_n (pc := 19) 0 dX2_goOn_19 rfl ?_
      refine gf_X2_25 (pc := 20) rfl dX2_goOn_20 ?_
      refine ev_iconst (pc := 23) 1 k_iconst_1 dX2_goOn_23 ?_
      refine ev_iadd (pc := 24) dX2_goOn_24 ?_
      refine ev_goto (pc := 25) 29 (by decide) dX2_goOn_25 ?_
      exact E_X2_goOn_29 N d ((I 2 4) + 1) I L
  · refine ev_iconst (pc := 7) (-1 : Int32) k_iconst_m1 dX2_goOn_7 ?_
    exact ev_iret (pc := 8) rfl dX2_goOn_8
def f_X11_undo (N : Nat) (a1 : Int32) (I : PI) (L : PL) : RES := (if a1 = 0 then bI (f_X2_goBack N I L) (fun x1 I2 L3 => some (some (.int x1), I2, L3)) else bI (f_X2_goOn N I L) (fun x4 I5 L6 => some (some (.int x4), I5, L6)))
set_option maxRecDepth 100000 in
theorem ok_X11_undo (N d : Nat) (a1 : Int32) (I : PI) (L : PL) : MOk M_X11_undo (d + 2) [.ref 11, .int a1] I L (f_X11_undo N a1 I L) := by
  refine MOk.of (by decide +kernel) (Nat.le_of_ble_eq_true rfl) ?_
  show EvW _ _ 0 [(0, .ref 11), (1, .int a1)] [] I L _
  rw [f_X11_undo]
  refine ev_iload_n (pc := 0) 1 dX11_undo_0 rfl ?_
  refine ev_if_eq (pc := 1) 14 (by decide) dX11_undo_1 ?_ ?_
  · refine ev_aload_n (pc := 14) 0 dX11_undo_14 rfl ?_
    refine gf_X11_73 (pc := 15) rfl dX11_undo_15 ?_
    refine ev_callVI (pc := 18) (d := d + 1) (As := []) (st := []) cv_X2_goBack rfl w_501 rfl (Nat.le_of_ble_eq_true rfl) (ok_X2_goBack N (d) I L) dX11_undo_18 (fun x1 I2 L3 => ?_)
    exact ev_iret (pc := 21) rfl dX11_undo_21
  · refine ev_aload_n (pc := 4) 0 dX11_undo_4 rfl ?_
    refine gf_X11_73 (pc := 5) rfl dX11_undo_5 ?_
    refine ev_callVI (pc := 8) (d := d + 1) (As := []) (st := []) cv_X2_goOn rfl w_505 rfl (Nat.le_of_ble_eq_true rfl) (ok_X2_goOn N (d) I L) dX11_undo_8 (fun x4 I5 L6 => ?_)
    refine ev_goto (pc := 11) 21 (by decide) dX11_undo_11 ?_
    exact ev_iret (pc := 21) rfl dX11_undo_21
def F_X5_sortIn_71 (N : Nat) (v2 : Int32) (v3 : Int32) (I : PI) (L : PL) : RES := gd (inb v3 16) (nmW (uI I 33 (Int32.toNatClampNeg v3) v2) (fun I8 => nmW (uI I8 5 3 ((I8 5 3) + 1)) (fun I9 => some (none, I9, L))))
set_option maxRecDepth 100000 in
theorem E_X5_sortIn_71 (N d : Nat) (v2 : Int32) (v3 : Int32) (I : PI) (L : PL) : EvW M_X5_sortIn (d + 2) 71 [(0, .ref 5), (2, .int v2), (3, .int v3)] [] I L (F_X5_sortIn_71 N v2 v3 I L) := by
  rw [F_X5_sortIn_71]
  refine ev_aload_n (pc := 71) 0 dX5_sortIn_71 rfl ?_
  refine gf_X5_19 (pc := 72) rfl dX5_sortIn_72 ?_
  refine ev_iload_n (pc := 75) 2 dX5_sortIn_75 rfl ?_
  refine ev_iload_n (pc := 76) 1 dX5_sortIn_76 rfl ?_
  refine ev_iast (pc := 77) kK_33 dX5_sortIn_77 ?_
  refine ev_nmW (fun I8 => ?_)
  refine ev_aload_n (pc := 78) 0 dX5_sortIn_78 rfl ?_
  refine ev_dup (pc := 79) rfl dX5_sortIn_79 ?_
  refine gf_X5_26 (pc := 80) rfl dX5_sortIn_80 ?_
  refine ev_iconst (pc := 83) 1 k_iconst_1 dX5_sortIn_83 ?_
  refine ev_iadd (pc := 84) dX5_sortIn_84 ?_
  refine pf_X5_26 (pc := 85) rfl dX5_sortIn_85 ?_
  refine ev_nmW (fun I9 => ?_)
  exact ev_vret (pc := 88) rfl dX5_sortIn_88
def F_X5_sortIn_35 (N : Nat) : Nat → Int32 → Int32 → PI → PL → RES
  | 0, _, _, _, _ => none
  | n + 1, v2, v3, I, L => (if v3 ≤ 0 then F_X5_sortIn_71 N v2 v3 I L else gd (inb (v3 - 1) 16) ((if (I 33 (Int32.toNatClampNeg (v3 - 1))) ≤ v2 then F_X5_sortIn_71 N v2 v3 I L else gd (inb (v3 - 1) 16) (gd (inb v3 16) (nmW (uI I 33 (Int32.toNatClampNeg v3) (I 33 (Int32.toNatClampNeg (v3 - 1)))) (fun I10 => (F_X5_sortIn_35 N n) v2 (v3 + (-1 : Int32)) I10 L))))))
set_option maxRecDepth 100000 in
theorem E_X5_sortIn_35 (N d : Nat) : ∀ (n : Nat) (v2 : Int32) (v3 : Int32) (I : PI) (L : PL), EvW M_X5_sortIn (d + 2) 35 [(0, .ref 5), (2, .int v2), (3, .int v3)] [] I L (F_X5_sortIn_35 N n v2 v3 I L) := by
  intro n
  induction n with
  | zero =>
    intro v2 v3 I L
    exact EvW.none
  | succ n hr_35 =>
    intro v2 v3 I L
    rw [F_X5_sortIn_35]
    refine ev_iload_n (pc := 35) 2 dX5_sortIn_35 rfl ?_
    refine ev_if_le (pc := 36) 71 (by decide) dX5_sortIn_36 ?_ ?_
    · exact E_X5_sortIn_71 N d v2 v3 I L
    · refine ev_aload_n (pc := 39) 0 dX5_sortIn_39 rfl ?_
      refine gf_X5_19 (pc := 40) rfl dX5_sortIn_40 ?_
      refine ev_iload_n (pc := 43) 2 dX5_sortIn_43 rfl ?_
      refine ev_iconst (pc := 44) 1 k_iconst_1 dX5_sortIn_44 ?_
      refine ev_isub (pc := 45) dX5_sortIn_45 ?_
      refine ev_iald (pc := 46) kK_33 dX5_sortIn_46 ?_
      refine ev_iload_n (pc := 47) 1 dX5_sortIn_47 rfl ?_
      refine ev_icmp_le (pc := 48) 71 (by decide) dX5_sortIn_48 ?_ ?_
      · exact E_X5_sortIn_71 N d v2 v3 I L
      · refine ev_aload_n (pc := 51) 0 dX5_sortIn_51 rfl ?_
        refine gf_X5_19 (pc := 52) rfl dX5_sortIn_52 ?_
        refine ev_iload_n (pc := 55) 2 dX5_sortIn_55 rfl ?_
        refine ev_aload_n (pc := 56) 0 dX5_sortIn_56 rfl ?_
        refine gf_X5_19 (pc := 57) rfl dX5_sortIn_57 ?_
        refine ev_iload_n (pc := 60) 2 dX5_sortIn_60 rfl ?_
        refine ev_iconst (pc := 61) 1 k_iconst_1 dX5_sortIn_61 ?_
        refine ev_isub (pc := 62) dX5_sortIn_62 ?_
        refine ev_iald (pc := 63) kK_33 dX5_sortIn_63 ?_
        refine ev_iast (pc := 64) kK_33 dX5_sortIn_64 ?_
        refine ev_nmW (fun I10 => ?_)
        refine ev_iinc (pc := 65) (lv' := [(3, .int (v3 + (-1 : Int32))), (0, .ref 5), (2, .int v2)]) dX5_sortIn_65 2 rfl rfl (-1 : Int32) k_iconst_m1 rfl ?_
        refine ev_goto (pc := 68) 35 (by decide) dX5_sortIn_68 ?_
        refine EvW.sub [1, 2, 0] rfl ?_
        exact hr_35 v2 (v3 + (-1 : Int32)) I10 L
def f_X5_sortIn (N : Nat) (a1 : Int32) (I : PI) (L : PL) : RES := bI (f_X2_has N a1 I L) (fun x1 I2 L3 => (if x1 = 0 then some (none, I2, L3) else (if (I2 5 3) < 16 then bI (f_X2_value N a1 I2 L3) (fun x4 I5 L6 => nmI (I5 5 3) (fun x7 => F_X5_sortIn_35 N N x4 x7 I5 L6)) else some (none, I2, L3))))
set_option maxRecDepth 100000 in
theorem ok_X5_sortIn (N d : Nat) (a1 : Int32) (I : PI) (L : PL) : MOk M_X5_sortIn (d + 2) [.ref 5, .int a1] I L (f_X5_sortIn N a1 I L) := by
  refine MOk.of (by decide +kernel) (Nat.le_of_ble_eq_true rfl) ?_
  show EvW _ _ 0 [(0, .ref 5), (1, .int a1)] [] I L _
  rw [f_X5_sortIn]
  refine ev_aload_n (pc := 0) 0 dX5_sortIn_0 rfl ?_
  refine gf_X5_9 (pc := 1) rfl dX5_sortIn_1 ?_
  refine ev_iload_n (pc := 4) 1 dX5_sortIn_4 rfl ?_
  refine ev_callVI (pc := 5) (d := d + 1) (As := [.int a1]) (st := []) cv_X2_has rfl w_510 rfl (Nat.le_of_ble_eq_true rfl) (ok_X2_has N (d) a1 I L) dX5_sortIn_5 (fun x1 I2 L3 => ?_)
  refine ev_if_eq (pc := 8) 20 (by decide) dX5_sortIn_8 ?_ ?_
  · exact ev_vret (pc := 20) rfl dX5_sortIn_20
  · refine ev_aload_n (pc := 11) 0 dX5_sortIn_11 rfl ?_
    refine gf_X5_26 (pc := 12) rfl dX5_sortIn_12 ?_
    refine ev_bipush (pc := 15) 16 k_bipush_16 dX5_sortIn_15 ?_
    refine ev_icmp_lt (pc := 17) 21 (by decide) dX5_sortIn_17 ?_ ?_
    · refine ev_aload_n (pc := 21) 0 dX5_sortIn_21 rfl ?_
      refine gf_X5_9 (pc := 22) rfl dX5_sortIn_22 ?_
      refine ev_iload_n (pc := 25) 1 dX5_sortIn_25 rfl ?_
      refine ev_callVI (pc := 26) (d := d + 1) (As := [.int a1]) (st := []) cv_X2_value rfl w_511 rfl (Nat.le_of_ble_eq_true rfl) (ok_X2_value N (d) a1 I2 L3) dX5_sortIn_26 (fun x4 I5 L6 => ?_)
      refine ev_istore_n (pc := 29) (lv' := [(2, .int x4), (0, .ref 5), (1, .int a1)]) dX5_sortIn_29 rfl rfl rfl ?_
      refine ev_aload_n (pc := 30) 1 dX5_sortIn_30 rfl ?_
      refine gf_X5_26 (pc := 31) rfl dX5_sortIn_31 ?_
      refine ev_nmI (fun x7 => ?_)
      refine ev_istore_n (pc := 34) (lv' := [(3, .int x7), (2, .int x4), (0, .ref 5), (1, .int a1)]) dX5_sortIn_34 rfl rfl rfl ?_
      refine EvW.sub [2, 1, 0] rfl ?_
      exact E_X5_sortIn_35 N d N x4 x7 I5 L6
    · exact ev_vret (pc := 20) rfl dX5_sortIn_20
def F_X5_openWindow_31 (N : Nat) : Nat → Int32 → Int32 → Int32 → PI → PL → RES
  | 0, _, _, _, _, _ => none
  | n + 1, v1, v3, v4, I, L => (if v3 < v4 then some (none, I, L) else bV (f_X5_sortIn N (v1 - v4) I L) (fun I5 L6 => bV (f_X5_sortIn N (v1 + v4) I5 L6) (fun I8 L9 => (F_X5_openWindow_31 N n) v1 v3 (v4 + 1) I8 L9)))
set_option maxRecDepth 100000 in
theorem E_X5_openWindow_31 (N d : Nat) : ∀ (n : Nat) (v1 : Int32) (v3 : Int32) (v4 : Int32) (I : PI) (L : PL), EvW M_X5_openWindow (d + 3) 31 [(0, .ref 5), (1, .int v1), (3, .int v3), (4, .int v4)] [] I L (F_X5_openWindow_31 N n v1 v3 v4 I L) := by
  intro n
  induction n with
  | zero =>
    intro v1 v3 v4 I L
    exact EvW.none
  | succ n hr_31 =>
    intro v1 v3 v4 I L
    rw [F_X5_openWindow_31]
    refine ev_iload (pc := 31) 3 dX5_openWindow_31 rfl ?_
    refine ev_iload_n (pc := 33) 2 dX5_openWindow_33 rfl ?_
    refine ev_icmp_gt (pc := 34) 59 (by decide) dX5_openWindow_34 ?_ ?_
    · exact ev_vret (pc := 59) rfl dX5_openWindow_59
    · refine ev_aload_n (pc := 37) 0 dX5_openWindow_37 rfl ?_
      refine ev_iload_n (pc := 38) 1 dX5_openWindow_38 rfl ?_
      refine ev_iload (pc := 39) 3 dX5_openWindow_39 rfl ?_
      refine ev_isub (pc := 41) dX5_openWindow_41 ?_
      refine ev_callVV (pc := 42) (d := d + 2) (As := [.int (v1 - v4)]) (st := []) cv_X5_sortIn rfl w_517 rfl (Nat.le_of_ble_eq_true rfl) (ok_X5_sortIn N (d) (v1 - v4) I L) dX5_openWindow_42 (fun I5 L6 => ?_)
      refine ev_aload_n (pc := 45) 0 dX5_openWindow_45 rfl ?_
      refine ev_iload_n (pc := 46) 1 dX5_openWindow_46 rfl ?_
      refine ev_iload (pc := 47) 3 dX5_openWindow_47 rfl ?_
      refine ev_iadd (pc := 49) dX5_openWindow_49 ?_
      refine ev_callVV (pc := 50) (d := d + 2) (As := [.int (v1 + v4)]) (st := []) cv_X5_sortIn rfl w_517 rfl (Nat.le_of_ble_eq_true rfl) (ok_X5_sortIn N (d) (v1 + v4) I5 L6) dX5_openWindow_50 (fun I8 L9 => ?_)
      refine ev_iinc (pc := 53) (lv' := [(4, .int (v4 + 1)), (0, .ref 5), (1, .int v1), (3, .int v3)]) dX5_openWindow_53 3 rfl rfl 1 k_iconst_1 rfl ?_
      refine ev_goto (pc := 56) 31 (by decide) dX5_openWindow_56 ?_
      refine EvW.sub [1, 2, 3, 0] rfl ?_
      exact hr_31 v1 v3 (v4 + 1) I8 L9
def f_X5_openWindow (N : Nat) (a1 : Int32) (I : PI) (L : PL) : RES := gd (inb 2 6) (nmI ((I 13 (Int32.toNatClampNeg 2)) + 1) (fun x1 => gd (inb 2 6) (gd (inb 3 6) (nmI ((I 13 (Int32.toNatClampNeg 2)) + (I 13 (Int32.toNatClampNeg 3))) (fun x2 => nmW (uI I 5 3 0) (fun I3 => F_X5_openWindow_31 N N a1 x2 x1 I3 L))))))
set_option maxRecDepth 100000 in
theorem ok_X5_openWindow (N d : Nat) (a1 : Int32) (I : PI) (L : PL) : MOk M_X5_openWindow (d + 3) [.ref 5, .int a1] I L (f_X5_openWindow N a1 I L) := by
  refine MOk.of (by decide +kernel) (Nat.le_of_ble_eq_true rfl) ?_
  show EvW _ _ 0 [(0, .ref 5), (1, .int a1)] [] I L _
  rw [f_X5_openWindow]
  refine ev_aload_n (pc := 0) 0 dX5_openWindow_0 rfl ?_
  refine gf_X5_15 (pc := 1) rfl dX5_openWindow_1 ?_
  refine ev_iconst (pc := 4) 2 k_iconst_2 dX5_openWindow_4 ?_
  refine ev_iald (pc := 5) kK_13 dX5_openWindow_5 ?_
  refine ev_iconst (pc := 6) 1 k_iconst_1 dX5_openWindow_6 ?_
  refine ev_iadd (pc := 7) dX5_openWindow_7 ?_
  refine ev_nmI (fun x1 => ?_)
  refine ev_istore_n (pc := 8) (lv' := [(2, .int x1), (0, .ref 5), (1, .int a1)]) dX5_openWindow_8 rfl rfl rfl ?_
  refine ev_aload_n (pc := 9) 1 dX5_openWindow_9 rfl ?_
  refine gf_X5_15 (pc := 10) rfl dX5_openWindow_10 ?_
  refine ev_iconst (pc := 13) 2 k_iconst_2 dX5_openWindow_13 ?_
  refine ev_iald (pc := 14) kK_13 dX5_openWindow_14 ?_
  refine ev_aload_n (pc := 15) 1 dX5_openWindow_15 rfl ?_
  refine gf_X5_15 (pc := 16) rfl dX5_openWindow_16 ?_
  refine ev_iconst (pc := 19) 3 k_iconst_3 dX5_openWindow_19 ?_
  refine ev_iald (pc := 20) kK_13 dX5_openWindow_20 ?_
  refine ev_iadd (pc := 21) dX5_openWindow_21 ?_
  refine ev_nmI (fun x2 => ?_)
  refine ev_istore_n (pc := 22) (lv' := [(3, .int x2), (2, .int x1), (0, .ref 5), (1, .int a1)]) dX5_openWindow_22 rfl rfl rfl ?_
  refine ev_aload_n (pc := 23) 2 dX5_openWindow_23 rfl ?_
  refine ev_iconst (pc := 24) 0 k_iconst_0 dX5_openWindow_24 ?_
  refine pf_X5_26 (pc := 25) rfl dX5_openWindow_25 ?_
  refine ev_nmW (fun I3 => ?_)
  refine ev_iload_n (pc := 28) 1 dX5_openWindow_28 rfl ?_
  refine ev_istore (pc := 29) (lv' := [(4, .int x1), (3, .int x2), (2, .int x1), (0, .ref 5), (1, .int a1)]) dX5_openWindow_29 rfl rfl ?_
  refine EvW.sub [3, 4, 1, 0] rfl ?_
  exact E_X5_openWindow_31 N d N a1 x2 x1 I3 L
def f_X5_findingAt (N : Nat) (a1 : Int32) (I : PI) (L : PL) : RES := bV (f_X5_openWindow N a1 I L) (fun I2 L3 => gd (inb 4 6) (nmI (I2 13 (Int32.toNatClampNeg 4)) (fun x4 => (if x4 < 1 then some (some (.int (-1000000 : Int32)), I2, L3) else (if x4 ≤ (I2 5 3) then bI (f_X2_value N a1 I2 L3) (fun x5 I6 L7 => gd (inb 5 6) (gd (inb (x4 - 1) 16) ((if (10 * x5) ≤ ((I6 13 (Int32.toNatClampNeg 5)) * (I6 33 (Int32.toNatClampNeg (x4 - 1)))) then some (some (.int 0), I6, L7) else some (some (.int 1), I6, L7))))) else some (some (.int (-1000000 : Int32)), I2, L3))))))
set_option maxRecDepth 100000 in
theorem ok_X5_findingAt (N d : Nat) (a1 : Int32) (I : PI) (L : PL) : MOk M_X5_findingAt (d + 4) [.ref 5, .int a1] I L (f_X5_findingAt N a1 I L) := by
  refine MOk.of (by decide +kernel) (Nat.le_of_ble_eq_true rfl) ?_
  show EvW _ _ 0 [(0, .ref 5), (1, .int a1)] [] I L _
  rw [f_X5_findingAt]
  refine ev_aload_n (pc := 0) 0 dX5_findingAt_0 rfl ?_
  refine ev_iload_n (pc := 1) 1 dX5_findingAt_1 rfl ?_
  refine ev_callVV (pc := 2) (d := d + 3) (As := [.int a1]) (st := []) cv_X5_openWindow rfl w_521 rfl (Nat.le_of_ble_eq_true rfl) (ok_X5_openWindow N (d) a1 I L) dX5_findingAt_2 (fun I2 L3 => ?_)
  refine ev_aload_n (pc := 5) 0 dX5_findingAt_5 rfl ?_
  refine gf_X5_15 (pc := 6) rfl dX5_findingAt_6 ?_
  refine ev_iconst (pc := 9) 4 k_iconst_4 dX5_findingAt_9 ?_
  refine ev_iald (pc := 10) kK_13 dX5_findingAt_10 ?_
  refine ev_nmI (fun x4 => ?_)
  refine ev_istore_n (pc := 11) (lv' := [(2, .int x4), (0, .ref 5), (1, .int a1)]) dX5_findingAt_11 rfl rfl rfl ?_
  refine ev_iload_n (pc := 12) 0 dX5_findingAt_12 rfl ?_
  refine ev_iconst (pc := 13) 1 k_iconst_1 dX5_findingAt_13 ?_
  refine ev_icmp_lt (pc := 14) 25 (by decide) dX5_findingAt_14 ?_ ?_
  · refine ev_ldc (pc := 25) w_522 dX5_findingAt_25 ?_
    exact ev_iret (pc := 27) rfl dX5_findingAt_27
  · refine ev_iload_n (pc := 17) 0 dX5_findingAt_17 rfl ?_
    refine ev_aload_n (pc := 18) 1 dX5_findingAt_18 rfl ?_
    refine gf_X5_26 (pc := 19) rfl dX5_findingAt_19 ?_
    refine ev_icmp_le (pc := 22) 28 (by decide) dX5_findingAt_22 ?_ ?_
    · refine ev_bipush (pc := 28) 10 k_bipush_10 dX5_findingAt_28 ?_
      refine ev_aload_n (pc := 30) 1 dX5_findingAt_30 rfl ?_
      refine gf_X5_9 (pc := 31) rfl dX5_findingAt_31 ?_
      refine ev_iload_n (pc := 34) 2 dX5_findingAt_34 rfl ?_
      refine ev_callVI (pc := 35) (d := d + 3) (As := [.int a1]) (st := [.int 10]) cv_X2_value rfl w_511 rfl (Nat.le_of_ble_eq_true rfl) (ok_X2_value N (d + 2) a1 I2 L3) dX5_findingAt_35 (fun x5 I6 L7 => ?_)
      refine ev_imul (pc := 38) dX5_findingAt_38 ?_
      refine ev_aload_n (pc := 39) 1 dX5_findingAt_39 rfl ?_
      refine gf_X5_15 (pc := 40) rfl dX5_findingAt_40 ?_
      refine ev_iconst (pc := 43) 5 k_iconst_5 dX5_findingAt_43 ?_
      refine ev_iald (pc := 44) kK_13 dX5_findingAt_44 ?_
      refine ev_aload_n (pc := 45) 1 dX5_findingAt_45 rfl ?_
      refine gf_X5_19 (pc := 46) rfl dX5_findingAt_46 ?_
      refine ev_iload_n (pc := 49) 0 dX5_findingAt_49 rfl ?_
      refine ev_iconst (pc := 50) 1 k_iconst_1 dX5_findingAt_50 ?_
      refine ev_isub (pc := 51) dX5_findingAt_51 ?_
      refine ev_iald (pc := 52) kK_33 dX5_findingAt_52 ?_
      refine ev_imul (pc := 53) dX5_findingAt_53 ?_
      refine ev_icmp_le (pc := 54) 61 (by decide) dX5_findingAt_54 ?_ ?_
      · refine ev_iconst (pc := 61) 0 k_iconst_0 dX5_findingAt_61 ?_
        exact ev_iret (pc := 62) rfl dX5_findingAt_62
      · refine ev_iconst (pc := 57) 1 k_iconst_1 dX5_findingAt_57 ?_
        refine ev_goto (pc := 58) 62 (by decide) dX5_findingAt_58 ?_
        exact ev_iret (pc := 62) rfl dX5_findingAt_62
    · refine ev_ldc (pc := 25) w_522 dX5_findingAt_25 ?_
      exact ev_iret (pc := 27) rfl dX5_findingAt_27
def f_X11_found (N : Nat) (a1 : Int32) (I : PI) (L : PL) : RES := bI (f_X2_has N a1 I L) (fun x1 I2 L3 => (if x1 = 0 then some (some (.int (-1 : Int32)), I2, L3) else bI (f_X5_findingAt N a1 I2 L3) (fun x4 I5 L6 => some (some (.int x4), I5, L6))))
set_option maxRecDepth 100000 in
theorem ok_X11_found (N d : Nat) (a1 : Int32) (I : PI) (L : PL) : MOk M_X11_found (d + 5) [.ref 11, .int a1] I L (f_X11_found N a1 I L) := by
  refine MOk.of (by decide +kernel) (Nat.le_of_ble_eq_true rfl) ?_
  show EvW _ _ 0 [(0, .ref 11), (1, .int a1)] [] I L _
  rw [f_X11_found]
  refine ev_aload_n (pc := 0) 0 dX11_found_0 rfl ?_
  refine gf_X11_73 (pc := 1) rfl dX11_found_1 ?_
  refine ev_iload_n (pc := 4) 1 dX11_found_4 rfl ?_
  refine ev_callVI (pc := 5) (d := d + 4) (As := [.int a1]) (st := []) cv_X2_has rfl w_482 rfl (Nat.le_of_ble_eq_true rfl) (ok_X2_has N (d + 3) a1 I L) dX11_found_5 (fun x1 I2 L3 => ?_)
  refine ev_if_eq (pc := 8) 22 (by decide) dX11_found_8 ?_ ?_
  · refine ev_iconst (pc := 22) (-1 : Int32) k_iconst_m1 dX11_found_22 ?_
    exact ev_iret (pc := 23) rfl dX11_found_23
  · refine ev_aload_n (pc := 11) 0 dX11_found_11 rfl ?_
    refine gf_X11_82 (pc := 12) rfl dX11_found_12 ?_
    refine ev_iload_n (pc := 15) 1 dX11_found_15 rfl ?_
    refine ev_callVI (pc := 16) (d := d + 4) (As := [.int a1]) (st := []) cv_X5_findingAt rfl w_526 rfl (Nat.le_of_ble_eq_true rfl) (ok_X5_findingAt N (d) a1 I2 L3) dX11_found_16 (fun x4 I5 L6 => ?_)
    refine ev_goto (pc := 19) 23 (by decide) dX11_found_19 ?_
    exact ev_iret (pc := 23) rfl dX11_found_23
