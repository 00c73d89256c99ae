def F_X10_signsOf_5 (N : Nat) : Nat → Int32 → Int32 → Int32 → PI → PL → RES
  | 0, _, _, _, _, _ => none
  | n + 1, v0, v1, v2, I, L => (if v2 < 0 then some (some (.int v1), I, L) else (if ((jushr v0 v2) &&& 255) = 0 then (F_X10_signsOf_5 N n) v0 v1 (v2 + (-8 : Int32)) I L else (F_X10_signsOf_5 N n) v0 (v1 + 1) (v2 + (-8 : Int32)) I L))
set_option maxRecDepth 100000 in
theorem E_X10_signsOf_5 (N d : Nat) : ∀ (n : Nat) (v0 : Int32) (v1 : Int32) (v2 : Int32) (I : PI) (L : PL), EvW M_X10_signsOf (d) 5 [(0, .int v0), (1, .int v1), (2, .int v2)] [] I L (F_X10_signsOf_5 N n v0 v1 v2 I L) := by
  intro n
  induction n with
  | zero =>
    intro v0 v1 v2 I L
    exact EvW.none
  | succ n hr_5 =>
    intro v0 v1 v2 I L
    rw [F_X10_signsOf_5]
    refine ev_iload_n (pc := 5) 2 dX10_signsOf_5 rfl ?_
    refine ev_if_lt (pc := 6) 28 (by decide) dX10_signsOf_6 ?_ ?_
    · refine ev_iload_n (pc := 28) 1 dX10_signsOf_28 rfl ?_
      exact ev_iret (pc := 29) rfl dX10_signsOf_29
    · refine ev_iload_n (pc := 9) 0 dX10_signsOf_9 rfl ?_
      refine ev_iload_n (pc := 10) 2 dX10_signsOf_10 rfl ?_
      refine ev_iushr (pc := 11) dX10_signsOf_11 ?_
      refine ev_sipush (pc := 12) 255 k_sipush_255 dX10_signsOf_12 ?_
      refine ev_iand (pc := 15) dX10_signsOf_15 ?_
      refine ev_if_eq (pc := 16) 22 (by decide) dX10_signsOf_16 ?_ ?_
      · refine ev_iinc (pc := 22) (lv' := [(2, .int (v2 + (-8 : Int32))), (0, .int v0), (1, .int v1)]) dX10_signsOf_22 2 rfl rfl (-8 : Int32) k_iconst_m8 rfl ?_
        refine ev_goto (pc := 25) 5 (by decide) dX10_signsOf_25 ?_
        refine EvW.sub [1, 2, 0] rfl ?_
        exact hr_5 v0 v1 (v2 + (-8 : Int32)) I L
      · refine ev_iinc (pc := 19) (lv' := [(1, .int (v1 + 1)), (0, .int v0), (2, .int v2)]) dX10_signsOf_19 1 rfl rfl 1 k_iconst_1 rfl ?_
        refine ev_iinc (pc := 22) (lv' := [(2, .int (v2 + (-8 : Int32))), (1, .int (v1 + 1)), (0, .int v0)]) dX10_signsOf_22 2 rfl rfl (-8 : Int32) k_iconst_m8 rfl ?_
        refine ev_goto (pc := 25) 5 (by decide) dX10_signsOf_25 ?_
        refine EvW.sub [2, 1, 0] rfl ?_
        exact hr_5 v0 (v1 + 1) (v2 + (-8 : Int32)) I L
def f_X10_signsOf (N : Nat) (a1 : Int32) (I : PI) (L : PL) : RES := F_X10_signsOf_5 N N a1 0 24 I L
set_option maxRecDepth 100000 in
theorem ok_X10_signsOf (N d : Nat) (a1 : Int32) (I : PI) (L : PL) : MOk M_X10_signsOf (d) [.int a1] I L (f_X10_signsOf N a1 I L) := by
  refine MOk.of (by decide +kernel) (Nat.le_of_ble_eq_true rfl) ?_
  show EvW _ _ 0 [(0, .int a1)] [] I L _
  rw [f_X10_signsOf]
  refine ev_iconst (pc := 0) 0 k_iconst_0 dX10_signsOf_0 ?_
  refine ev_istore_n (pc := 1) (lv' := [(1, .int 0), (0, .int a1)]) dX10_signsOf_1 rfl rfl rfl ?_
  refine ev_bipush (pc := 2) 24 k_bipush_24 dX10_signsOf_2 ?_
  refine ev_istore_n (pc := 4) (lv' := [(2, .int 24), (1, .int 0), (0, .int a1)]) dX10_signsOf_4 rfl rfl rfl ?_
  refine EvW.sub [2, 1, 0] rfl ?_
  exact E_X10_signsOf_5 N d N a1 0 24 I L
def F_X10_put_3 (N : Nat) : Nat → Int32 → Int32 → PI → PL → RES
  | 0, _, _, _, _ => none
  | n + 1, v1, v2, I, L => (if v2 < 0 then some (none, I, L) else nmI ((jushr v1 v2) &&& 255) (fun x1 => (if x1 = 0 then (F_X10_put_3 N n) v1 (v2 + (-8 : Int32)) I L else (if 120 ≤ (I 10 1) then (F_X10_put_3 N n) v1 (v2 + (-8 : Int32)) I L else gd (inb (I 10 1) 120) (nmW (uI I 14 (Int32.toNatClampNeg (I 10 1)) x1) (fun I2 => nmW (uI I2 10 1 ((I2 10 1) + 1)) (fun I3 => (F_X10_put_3 N n) v1 (v2 + (-8 : Int32)) I3 L)))))))
set_option maxRecDepth 100000 in
theorem E_X10_put_3 (N d : Nat) : ∀ (n : Nat) (v1 : Int32) (v2 : Int32) (I : PI) (L : PL), EvW M_X10_put (d) 3 [(0, .ref 10), (1, .int v1), (2, .int v2)] [] I L (F_X10_put_3 N n v1 v2 I L) := by
  intro n
  induction n with
  | zero =>
    intro v1 v2 I L
    exact EvW.none
  | succ n hr_3 =>
    intro v1 v2 I L
    rw [F_X10_put_3]
    refine ev_iload_n (pc := 3) 2 dX10_put_3 rfl ?_
    refine ev_if_lt (pc := 4) 54 (by decide) dX10_put_4 ?_ ?_
    · exact ev_vret (pc := 54) rfl dX10_put_54
    · refine ev_iload_n (pc := 7) 1 dX10_put_7 rfl ?_
      refine ev_iload_n (pc := 8) 2 dX10_put_8 rfl ?_
      refine ev_iushr (pc := 9) dX10_put_9 ?_
      refine ev_sipush (pc := 10) 255 k_sipush_255 dX10_put_10 ?_
      refine ev_iand (pc := 13) dX10_put_13 ?_
      refine ev_nmI (fun x1 => ?_)
      refine ev_istore_n (pc := 14) (lv' := [(3, .int x1), (0, .ref 10), (1, .int v1), (2, .int v2)]) dX10_put_14 rfl rfl rfl ?_
      refine ev_iload_n (pc := 15) 0 dX10_put_15 rfl ?_
      refine ev_if_eq (pc := 16) 48 (by decide) dX10_put_16 ?_ ?_
      · refine ev_iinc (pc := 48) (lv' := [(2, .int (v2 + (-8 : Int32))), (3, .int x1), (0, .ref 10), (1, .int v1)]) dX10_put_48 3 rfl rfl (-8 : Int32) k_iconst_m8 rfl ?_
        refine ev_goto (pc := 51) 3 (by decide) dX10_put_51 ?_
        refine EvW.sub [2, 3, 0] rfl ?_
        exact hr_3 v1 (v2 + (-8 : Int32)) I L
      · refine ev_aload_n (pc := 19) 1 dX10_put_19 rfl ?_
        refine gf_X10_15 (pc := 20) rfl dX10_put_20 ?_
        refine ev_bipush (pc := 23) 120 k_bipush_120 dX10_put_23 ?_
        refine ev_icmp_ge (pc := 25) 48 (by decide) dX10_put_25 ?_ ?_
        · refine ev_iinc (pc := 48) (lv' := [(2, .int (v2 + (-8 : Int32))), (3, .int x1), (0, .ref 10), (1, .int v1)]) dX10_put_48 3 rfl rfl (-8 : Int32) k_iconst_m8 rfl ?_
          refine ev_goto (pc := 51) 3 (by decide) dX10_put_51 ?_
          refine EvW.sub [2, 3, 0] rfl ?_
          exact hr_3 v1 (v2 + (-8 : Int32)) I L
        · refine ev_aload_n (pc := 28) 1 dX10_put_28 rfl ?_
          refine gf_X10_11 (pc := 29) rfl dX10_put_29 ?_
          refine ev_aload_n (pc := 32) 1 dX10_put_32 rfl ?_
          refine gf_X10_15 (pc := 33) rfl dX10_put_33 ?_
          refine ev_iload_n (pc := 36) 0 dX10_put_36 rfl ?_
          refine ev_iast (pc := 37) kK_14 dX10_put_37 ?_
          refine ev_nmW (fun I2 => ?_)
          refine ev_aload_n (pc := 38) 1 dX10_put_38 rfl ?_
          refine ev_dup (pc := 39) rfl dX10_put_39 ?_
          refine gf_X10_15 (pc := 40) rfl dX10_put_40 ?_
          refine ev_iconst (pc := 43) 1 k_iconst_1 dX10_put_43 ?_
          refine ev_iadd (pc := 44) dX10_put_44 ?_
          refine pf_X10_15 (pc := 45) rfl dX10_put_45 ?_
          refine ev_nmW (fun I3 => ?_)
          refine ev_iinc (pc := 48) (lv' := [(2, .int (v2 + (-8 : Int32))), (3, .int x1), (0, .ref 10), (1, .int v1)]) dX10_put_48 3 rfl rfl (-8 : Int32) k_iconst_m8 rfl ?_
          refine ev_goto (pc := 51) 3 (by decide) dX10_put_51 ?_
          refine EvW.sub [2, 3, 0] rfl ?_
          exact hr_3 v1 (v2 + (-8 : Int32)) I3 L
def f_X10_put (N : Nat) (a1 : Int32) (I : PI) (L : PL) : RES := F_X10_put_3 N N a1 24 I L
set_option maxRecDepth 100000 in
theorem ok_X10_put (N d : Nat) (a1 : Int32) (I : PI) (L : PL) : MOk M_X10_put (d) [.ref 10, .int a1] I L (f_X10_put N a1 I L) := by
  refine MOk.of (by decide +kernel) (Nat.le_of_ble_eq_true rfl) ?_
  show EvW _ _ 0 [(0, .ref 10), (1, .int a1)] [] I L _
  rw [f_X10_put]
  refine ev_bipush (pc := 0) 24 k_bipush_24 dX10_put_0 ?_
  refine ev_istore_n (pc := 2) (lv' := [(2, .int 24), (0, .ref 10), (1, .int a1)]) dX10_put_2 rfl rfl rfl ?_
  refine EvW.sub [1, 2, 0] rfl ?_
  exact E_X10_put_3 N d N a1 24 I L
def f_X11_feed (N : Nat) (a1 : Int32) (a2 : Int32) (a3 : Int32) (a4 : Int32) (a5 : Int32) (I : PI) (L : PL) : RES := bI (f_X10_signsOf N a1 I L) (fun x1 I2 L3 => bI (f_X10_signsOf N a2 I2 L3) (fun x4 I5 L6 => bI (f_X10_signsOf N a3 I5 L6) (fun x7 I8 L9 => bI (f_X10_signsOf N a4 I8 L9) (fun x10 I11 L12 => bI (f_X10_signsOf N a5 I11 L12) (fun x13 I14 L15 => nmI ((((x1 + x4) + x7) + x10) + x13) (fun x16 => (if ((I14 10 1) + x16) ≤ 120 then bV (f_X10_put N a1 I14 L15) (fun I18 L19 => bV (f_X10_put N a2 I18 L19) (fun I21 L22 => bV (f_X10_put N a3 I21 L22) (fun I24 L25 => bV (f_X10_put N a4 I24 L25) (fun I27 L28 => bV (f_X10_put N a5 I27 L28) (fun I30 L31 => some (some (.int (I30 10 1)), I30, L31)))))) else some (some (.int (-1 : Int32)), I14, L15))))))))
set_option maxRecDepth 100000 in
theorem ok_X11_feed (N d : Nat) (a1 : Int32) (a2 : Int32) (a3 : Int32) (a4 : Int32) (a5 : Int32) (I : PI) (L : PL) : MOk M_X11_feed (d + 1) [.ref 11, .int a1, .int a2, .int a3, .int a4, .int a5] I L (f_X11_feed N a1 a2 a3 a4 a5 I L) := by
  refine MOk.of (by decide +kernel) (Nat.le_of_ble_eq_true rfl) ?_
  show EvW _ _ 0 [(0, .ref 11), (1, .int a1), (2, .int a2), (3, .int a3), (4, .int a4), (5, .int a5)] [] I L _
  rw [f_X11_feed]
  refine ev_iload_n (pc := 0) 1 dX11_feed_0 rfl ?_
  refine ev_callSI (pc := 1) (d := d) (As := [.int a1]) (st := []) cv_X10_signsOf rfl w_3 rfl (Nat.le_of_ble_eq_true rfl) (ok_X10_signsOf N (d) a1 I L) dX11_feed_1 (fun x1 I2 L3 => ?_)
  refine ev_iload_n (pc := 4) 2 dX11_feed_4 rfl ?_
  refine ev_callSI (pc := 5) (d := d) (As := [.int a2]) (st := [.int x1]) cv_X10_signsOf rfl w_3 rfl (Nat.le_of_ble_eq_true rfl) (ok_X10_signsOf N (d) a2 I2 L3) dX11_feed_5 (fun x4 I5 L6 => ?_)
  refine ev_iadd (pc := 8) dX11_feed_8 ?_
  refine ev_iload_n (pc := 9) 3 dX11_feed_9 rfl ?_
  refine ev_callSI (pc := 10) (d := d) (As := [.int a3]) (st := [.int (x1 + x4)]) cv_X10_signsOf rfl w_3 rfl (Nat.le_of_ble_eq_true rfl) (ok_X10_signsOf N (d) a3 I5 L6) dX11_feed_10 (fun x7 I8 L9 => ?_)
  refine ev_iadd (pc := 13) dX11_feed_13 ?_
  refine ev_iload (pc := 14) 4 dX11_feed_14 rfl ?_
  refine ev_callSI (pc := 16) (d := d) (As := [.int a4]) (st := [.int ((x1 + x4) + x7)]) cv_X10_signsOf rfl w_3 rfl (Nat.le_of_ble_eq_true rfl) (ok_X10_signsOf N (d) a4 I8 L9) dX11_feed_16 (fun x10 I11 L12 => ?_)
  refine ev_iadd (pc := 19) dX11_feed_19 ?_
  refine ev_iload (pc := 20) 5 dX11_feed_20 rfl ?_
  refine ev_callSI (pc := 22) (d := d) (As := [.int a5]) (st := [.int (((x1 + x4) + x7) + x10)]) cv_X10_signsOf rfl w_3 rfl (Nat.le_of_ble_eq_true rfl) (ok_X10_signsOf N (d) a5 I11 L12) dX11_feed_22 (fun x13 I14 L15 => ?_)
  refine ev_iadd (pc := 25) dX11_feed_25 ?_
  refine ev_nmI (fun x16 => ?_)
  refine ev_istore (pc := 26) (lv' := [(6, .int x16), (0, .ref 11), (1, .int a1), (2, .int a2), (3, .int a3), (4, .int a4), (5, .int a5)]) dX11_feed_26 rfl rfl ?_
  refine ev_aload_n (pc := 28) 1 dX11_feed_28 rfl ?_
  refine gf_X11_16 (pc := 29) rfl dX11_feed_29 ?_
  refine gf_X11_104 (pc := 32) rfl dX11_feed_32 ?_
  refine ev_iload (pc := 35) 0 dX11_feed_35 rfl ?_
  refine ev_iadd (pc := 37) dX11_feed_37 ?_
  refine ev_bipush (pc := 38) 120 k_bipush_120 dX11_feed_38 ?_
  refine ev_icmp_le (pc := 40) 45 (by decide) dX11_feed_40 ?_ ?_
  · refine ev_aload_n (pc := 45) 1 dX11_feed_45 rfl ?_
    refine gf_X11_16 (pc := 46) rfl dX11_feed_46 ?_
    refine ev_iload_n (pc := 49) 2 dX11_feed_49 rfl ?_
    refine ev_callVV (pc := 50) (d := d) (As := [.int a1]) (st := []) cv_X10_put rfl w_10 rfl (Nat.le_of_ble_eq_true rfl) (ok_X10_put N (d) a1 I14 L15) dX11_feed_50 (fun I18 L19 => ?_)
    refine ev_aload_n (pc := 53) 1 dX11_feed_53 rfl ?_
    refine gf_X11_16 (pc := 54) rfl dX11_feed_54 ?_
    refine ev_iload_n (pc := 57) 3 dX11_feed_57 rfl ?_
    refine ev_callVV (pc := 58) (d := d) (As := [.int a2]) (st := []) cv_X10_put rfl w_10 rfl (Nat.le_of_ble_eq_true rfl) (ok_X10_put N (d) a2 I18 L19) dX11_feed_58 (fun I21 L22 => ?_)
    refine ev_aload_n (pc := 61) 1 dX11_feed_61 rfl ?_
    refine gf_X11_16 (pc := 62) rfl dX11_feed_62 ?_
    refine ev_iload_n (pc := 65) 4 dX11_feed_65 rfl ?_
    refine ev_callVV (pc := 66) (d := d) (As := [.int a3]) (st := []) cv_X10_put rfl w_10 rfl (Nat.le_of_ble_eq_true rfl) (ok_X10_put N (d) a3 I21 L22) dX11_feed_66 (fun I24 L25 => ?_)
    refine ev_aload_n (pc := 69) 1 dX11_feed_69 rfl ?_
    refine gf_X11_16 (pc := 70) rfl dX11_feed_70 ?_
    refine ev_iload (pc := 73) 5 dX11_feed_73 rfl ?_
    refine ev_callVV (pc := 75) (d := d) (As := [.int a4]) (st := []) cv_X10_put rfl w_10 rfl (Nat.le_of_ble_eq_true rfl) (ok_X10_put N (d) a4 I24 L25) dX11_feed_75 (fun I27 L28 => ?_)
    refine ev_aload_n (pc := 78) 1 dX11_feed_78 rfl ?_
    refine gf_X11_16 (pc := 79) rfl dX11_feed_79 ?_
    refine ev_iload (pc := 82) 6 dX11_feed_82 rfl ?_
    refine ev_callVV (pc := 84) (d := d) (As := [.int a5]) (st := []) cv_X10_put rfl w_10 rfl (Nat.le_of_ble_eq_true rfl) (ok_X10_put N (d) a5 I27 L28) dX11_feed_84 (fun I30 L31 => ?_)
    refine ev_aload_n (pc := 87) 1 dX11_feed_87 rfl ?_
    refine gf_X11_16 (pc := 88) rfl dX11_feed_88 ?_
    refine gf_X11_104 (pc := 91) rfl dX11_feed_91 ?_
    exact ev_iret (pc := 94) rfl dX11_feed_94
  · refine ev_iconst (pc := 43) (-1 : Int32) k_iconst_m1 dX11_feed_43 ?_
    exact ev_iret (pc := 44) rfl dX11_feed_44
def f_X10_cutTo (N : Nat) (a1 : Int32) (I : PI) (L : PL) : RES := (if a1 < 0 then gd (decide (0 &&& 1 = 0)) (some (some (.int 0), I, L)) else (if a1 ≤ (I 10 1) then nmW (uI I 10 1 a1) (fun I1 => gd (decide (1 &&& 1 = 1)) (some (some (.int 1), I1, L))) else gd (decide (0 &&& 1 = 0)) (some (some (.int 0), I, L))))
set_option maxRecDepth 100000 in
theorem ok_X10_cutTo (N d : Nat) (a1 : Int32) (I : PI) (L : PL) : MOk M_X10_cutTo (d) [.ref 10, .int a1] I L (f_X10_cutTo N a1 I L) := by
  refine MOk.of (by decide +kernel) (Nat.le_of_ble_eq_true rfl) ?_
  show EvW _ _ 0 [(0, .ref 10), (1, .int a1)] [] I L _
  rw [f_X10_cutTo]
  refine ev_iload_n (pc := 0) 1 dX10_cutTo_0 rfl ?_
  refine ev_if_lt (pc := 1) 12 (by decide) dX10_cutTo_1 ?_ ?_
  · refine ev_iconst (pc := 12) 0 k_iconst_0 dX10_cutTo_12 ?_
    exact ev_zret (pc := 13) rfl dX10_cutTo_13
  · refine ev_iload_n (pc := 4) 1 dX10_cutTo_4 rfl ?_
    refine ev_aload_n (pc := 5) 0 dX10_cutTo_5 rfl ?_
    refine gf_X10_15 (pc := 6) rfl dX10_cutTo_6 ?_
    refine ev_icmp_le (pc := 9) 14 (by decide) dX10_cutTo_9 ?_ ?_
    · refine ev_aload_n (pc := 14) 0 dX10_cutTo_14 rfl ?_
      refine ev_iload_n (pc := 15) 1 dX10_cutTo_15 rfl ?_
      refine pf_X10_15 (pc := 16) rfl dX10_cutTo_16 ?_
      refine ev_nmW (fun I1 => ?_)
      refine ev_iconst (pc := 19) 1 k_iconst_1 dX10_cutTo_19 ?_
      exact ev_zret (pc := 20) rfl dX10_cutTo_20
    · refine ev_iconst (pc := 12) 0 k_iconst_0 dX10_cutTo_12 ?_
      exact ev_zret (pc := 13) rfl dX10_cutTo_13
def f_X11_end (N : Nat) (a1 : Int32) (I : PI) (L : PL) : RES := bI (f_X10_cutTo N a1 I L) (fun x1 I2 L3 => gd (decide (x1 &&& 1 = x1)) (some (some (.int x1), I2, L3)))
set_option maxRecDepth 100000 in
theorem ok_X11_end (N d : Nat) (a1 : Int32) (I : PI) (L : PL) : MOk M_X11_end (d + 1) [.ref 11, .int a1] I L (f_X11_end N a1 I L) := by
  refine MOk.of (by decide +kernel) (Nat.le_of_ble_eq_true rfl) ?_
  show EvW _ _ 0 [(0, .ref 11), (1, .int a1)] [] I L _
  rw [f_X11_end]
  refine ev_aload_n (pc := 0) 0 dX11_end_0 rfl ?_
  refine gf_X11_16 (pc := 1) rfl dX11_end_1 ?_
  refine ev_iload_n (pc := 4) 1 dX11_end_4 rfl ?_
  refine ev_callVI (pc := 5) (d := d) (As := [.int a1]) (st := []) cv_X10_cutTo rfl w_14 rfl (Nat.le_of_ble_eq_true rfl) (ok_X10_cutTo N (d) a1 I L) dX11_end_5 (fun x1 I2 L3 => ?_)
  exact ev_zret (pc := 8) rfl dX11_end_8
def f_X11_within (N : Nat) (a1 : Int32) (a2 : Int32) (a3 : Int32) (I : PI) (L : PL) : RES := (if a1 < a2 then gd (decide (0 &&& 1 = 0)) (some (some (.int 0), I, L)) else (if a3 < a1 then gd (decide (0 &&& 1 = 0)) (some (some (.int 0), I, L)) else gd (decide (1 &&& 1 = 1)) (some (some (.int 1), I, L))))
set_option maxRecDepth 100000 in
theorem ok_X11_within (N d : Nat) (a1 : Int32) (a2 : Int32) (a3 : Int32) (I : PI) (L : PL) : MOk M_X11_within (d) [.int a1, .int a2, .int a3] I L (f_X11_within N a1 a2 a3 I L) := by
  refine MOk.of (by decide +kernel) (Nat.le_of_ble_eq_true rfl) ?_
  show EvW _ _ 0 [(0, .int a1), (1, .int a2), (2, .int a3)] [] I L _
  rw [f_X11_within]
  refine ev_iload_n (pc := 0) 0 dX11_within_0 rfl ?_
  refine ev_iload_n (pc := 1) 1 dX11_within_1 rfl ?_
  refine ev_icmp_lt (pc := 2) 14 (by decide) dX11_within_2 ?_ ?_
  · refine ev_iconst (pc := 14) 0 k_iconst_0 dX11_within_14 ?_
    exact ev_zret (pc := 15) rfl dX11_within_15
  · refine ev_iload_n (pc := 5) 0 dX11_within_5 rfl ?_
    refine ev_iload_n (pc := 6) 2 dX11_within_6 rfl ?_
    refine ev_icmp_gt (pc := 7) 14 (by decide) dX11_within_7 ?_ ?_
    · refine ev_iconst (pc := 14) 0 k_iconst_0 dX11_within_14 ?_
      exact ev_zret (pc := 15) rfl dX11_within_15
    · refine ev_iconst (pc := 10) 1 k_iconst_1 dX11_within_10 ?_
      refine ev_goto (pc := 11) 15 (by decide) dX11_within_11 ?_
      exact ev_zret (pc := 15) rfl dX11_within_15
def f_X11_isSort (N : Nat) (a1 : Int32) (I : PI) (L : PL) : RES := bI (f_X11_within N a1 0 2 I L) (fun x1 I2 L3 => gd (decide (x1 &&& 1 = x1)) (some (some (.int x1), I2, L3)))
set_option maxRecDepth 100000 in
theorem ok_X11_isSort (N d : Nat) (a1 : Int32) (I : PI) (L : PL) : MOk M_X11_isSort (d + 1) [.int a1] I L (f_X11_isSort N a1 I L) := by
  refine MOk.of (by decide +kernel) (Nat.le_of_ble_eq_true rfl) ?_
  show EvW _ _ 0 [(0, .int a1)] [] I L _
  rw [f_X11_isSort]
  refine ev_iload_n (pc := 0) 0 dX11_isSort_0 rfl ?_
  refine ev_iconst (pc := 1) 0 k_iconst_0 dX11_isSort_1 ?_
  refine ev_iconst (pc := 2) 2 k_iconst_2 dX11_isSort_2 ?_
  refine ev_callSI (pc := 3) (d := d) (As := [.int a1, .int 0, .int 2]) (st := []) cv_X11_within rfl w_18 rfl (Nat.le_of_ble_eq_true rfl) (ok_X11_within N (d) a1 0 2 I L) dX11_isSort_3 (fun x1 I2 L3 => ?_)
  exact ev_zret (pc := 6) rfl dX11_isSort_6
def f_X10_start (N : Nat) (I : PI) (L : PL) : RES := nmW (uI I 10 2 0) (fun I1 => some (none, I1, L))
set_option maxRecDepth 100000 in
theorem ok_X10_start (N d : Nat) (I : PI) (L : PL) : MOk M_X10_start (d) [.ref 10] I L (f_X10_start N I L) := by
  refine MOk.of (by decide +kernel) (Nat.le_of_ble_eq_true rfl) ?_
  show EvW _ _ 0 [(0, .ref 10)] [] I L _
  rw [f_X10_start]
  refine ev_aload_n (pc := 0) 0 dX10_start_0 rfl ?_
  refine ev_iconst (pc := 1) 0 k_iconst_0 dX10_start_1 ?_
  refine pf_X10_19 (pc := 2) rfl dX10_start_2 ?_
  refine ev_nmW (fun I1 => ?_)
  exact ev_vret (pc := 5) rfl dX10_start_5
def f_X10_here (N : Nat) (I : PI) (L : PL) : RES := (if (I 10 2) < 0 then some (some (.int 0), I, L) else (if (I 10 1) ≤ (I 10 2) then some (some (.int 0), I, L) else gd (inb (I 10 2) 120) (some (some (.int (I 14 (Int32.toNatClampNeg (I 10 2)))), I, L))))
set_option maxRecDepth 100000 in
theorem ok_X10_here (N d : Nat) (I : PI) (L : PL) : MOk M_X10_here (d) [.ref 10] I L (f_X10_here N I L) := by
  refine MOk.of (by decide +kernel) (Nat.le_of_ble_eq_true rfl) ?_
  show EvW _ _ 0 [(0, .ref 10)] [] I L _
  rw [f_X10_here]
  refine ev_aload_n (pc := 0) 0 dX10_here_0 rfl ?_
  refine gf_X10_19 (pc := 1) rfl dX10_here_1 ?_
  refine ev_if_lt (pc := 4) 30 (by decide) dX10_here_4 ?_ ?_
  · refine ev_iconst (pc := 30) 0 k_iconst_0 dX10_here_30 ?_
    exact ev_iret (pc := 31) rfl dX10_here_31
  · refine ev_aload_n (pc := 7) 0 dX10_here_7 rfl ?_
    refine gf_X10_19 (pc := 8) rfl dX10_here_8 ?_
    refine ev_aload_n (pc := 11) 0 dX10_here_11 rfl ?_
    refine gf_X10_15 (pc := 12) rfl dX10_here_12 ?_
    refine ev_icmp_ge (pc := 15) 30 (by decide) dX10_here_15 ?_ ?_
    · refine ev_iconst (pc := 30) 0 k_iconst_0 dX10_here_30 ?_
      exact ev_iret (pc := 31) rfl dX10_here_31
    · refine ev_aload_n (pc := 18) 0 dX10_here_18 rfl ?_
      refine gf_X10_11 (pc := 19) rfl dX10_here_19 ?_
      refine ev_aload_n (pc := 22) 0 dX10_here_22 rfl ?_
      refine gf_X10_19 (pc := 23) rfl dX10_here_23 ?_
      refine ev_iald (pc := 26) kK_14 dX10_here_26 ?_
      refine ev_goto (pc := 27) 31 (by decide) dX10_here_27 ?_
      exact ev_iret (pc := 31) rfl dX10_here_31
def F_X10_next_33 (N : Nat) (I : PI) (L : PL) : RES := bI (f_X10_here N I L) (fun x1 I2 L3 => some (some (.int x1), I2, L3))
set_option maxRecDepth 100000 in
theorem E_X10_next_33 (N d : Nat) (I : PI) (L : PL) : EvW M_X10_next (d + 1) 33 [(0, .ref 10)] [] I L (F_X10_next_33 N I L) := by
  rw [F_X10_next_33]
  refine ev_aload_n (pc := 33) 0 dX10_next_33 rfl ?_
  refine ev_callVI (pc := 34) (d := d) (As := []) (st := []) cv_X10_here rfl w_31 rfl (Nat.le_of_ble_eq_true rfl) (ok_X10_here N (d) I L) dX10_next_34 (fun x1 I2 L3 => ?_)
  exact ev_iret (pc := 37) rfl dX10_next_37
def F_X10_next_0 (N : Nat) : Nat → PI → PL → RES
  | 0, _, _ => none
  | n + 1, I, L => (if (I 10 1) ≤ (I 10 2) then F_X10_next_33 N I L else bI (f_X10_here N I L) (fun x4 I5 L6 => (if x4 = 32 then nmW (uI I5 10 2 ((I5 10 2) + 1)) (fun I7 => (F_X10_next_0 N n) I7 L6) else F_X10_next_33 N I5 L6)))
set_option maxRecDepth 100000 in
theorem E_X10_next_0 (N d : Nat) : ∀ (n : Nat) (I : PI) (L : PL), EvW M_X10_next (d + 1) 0 [(0, .ref 10)] [] I L (F_X10_next_0 N n I L) := by
  intro n
  induction n with
  | zero =>
    intro I L
    exact EvW.none
  | succ n hr_0 =>
    intro I L
    rw [F_X10_next_0]
    refine ev_aload_n (pc := 0) 0 dX10_next_0 rfl ?_
    refine gf_X10_19 (pc := 1) rfl dX10_next_1 ?_
    refine ev_aload_n (pc := 4) 0 dX10_next_4 rfl ?_
    refine gf_X10_15 (pc := 5) rfl dX10_next_5 ?_
    refine ev_icmp_ge (pc := 8) 33 (by decide) dX10_next_8 ?_ ?_
    · exact E_X10_next_33 N d I L
    · refine ev_aload_n (pc := 11) 0 dX10_next_11 rfl ?_
      refine ev_callVI (pc := 12) (d := d) (As := []) (st := []) cv_X10_here rfl w_31 rfl (Nat.le_of_ble_eq_true rfl) (ok_X10_here N (d) I L) dX10_next_12 (fun x4 I5 L6 => ?_)
      refine ev_bipush (pc := 15) 32 k_bipush_32 dX10_next_15 ?_
      refine ev_icmp_ne (pc := 17) 33 (by decide) dX10_next_17 ?_ ?_
      · exact E_X10_next_33 N d I5 L6
      · refine ev_aload_n (pc := 20) 0 dX10_next_20 rfl ?_
        refine ev_dup (pc := 21) rfl dX10_next_21 ?_
        refine gf_X10_19 (pc := 22) rfl dX10_next_22 ?_
        refine ev_iconst (pc := 25) 1 k_iconst_1 dX10_next_25 ?_
        refine ev_iadd (pc := 26) dX10_next_26 ?_
        refine pf_X10_19 (pc := 27) rfl dX10_next_27 ?_
        refine ev_nmW (fun I7 => ?_)
        refine ev_goto (pc := 30) 0 (by decide) dX10_next_30 ?_
        exact hr_0 I7 L6
def f_X10_next (N : Nat) (I : PI) (L : PL) : RES := F_X10_next_0 N N I L
set_option maxRecDepth 100000 in
theorem ok_X10_next (N d : Nat) (I : PI) (L : PL) : MOk M_X10_next (d + 1) [.ref 10] I L (f_X10_next N I L) := by
  refine MOk.of (by decide +kernel) (Nat.le_of_ble_eq_true rfl) ?_
  show EvW _ _ 0 [(0, .ref 10)] [] I L _
  rw [f_X10_next]
  exact E_X10_next_0 N d N I L
def f_X10_digit (N : Nat) (I : PI) (L : PL) : RES := bI (f_X10_here N I L) (fun x1 I2 L3 => (if x1 < 48 then some (some (.int (-1 : Int32)), I2, L3) else (if 57 < x1 then some (some (.int (-1 : Int32)), I2, L3) else some (some (.int (x1 - 48)), I2, L3))))
set_option maxRecDepth 100000 in
theorem ok_X10_digit (N d : Nat) (I : PI) (L : PL) : MOk M_X10_digit (d + 1) [.ref 10] I L (f_X10_digit N I L) := by
  refine MOk.of (by decide +kernel) (Nat.le_of_ble_eq_true rfl) ?_
  show EvW _ _ 0 [(0, .ref 10)] [] I L _
  rw [f_X10_digit]
  refine ev_aload_n (pc := 0) 0 dX10_digit_0 rfl ?_
  refine ev_callVI (pc := 1) (d := d) (As := []) (st := []) cv_X10_here rfl w_31 rfl (Nat.le_of_ble_eq_true rfl) (ok_X10_here N (d) I L) dX10_digit_1 (fun x1 I2 L3 => ?_)
  refine ev_istore_n (pc := 4) (lv' := [(1, .int x1), (0, .ref 10)]) dX10_digit_4 rfl rfl rfl ?_
  refine ev_iload_n (pc := 5) 0 dX10_digit_5 rfl ?_
  refine ev_bipush (pc := 6) 48 k_bipush_48 dX10_digit_6 ?_
  refine ev_icmp_lt (pc := 8) 24 (by decide) dX10_digit_8 ?_ ?_
  · refine ev_iconst (pc := 24) (-1 : Int32) k_iconst_m1 dX10_digit_24 ?_
    exact ev_iret (pc := 25) rfl dX10_digit_25
  · refine ev_iload_n (pc := 11) 0 dX10_digit_11 rfl ?_
    refine ev_bipush (pc := 12) 57 k_bipush_57 dX10_digit_12 ?_
    refine ev_icmp_gt (pc := 14) 24 (by decide) dX10_digit_14 ?_ ?_
    · refine ev_iconst (pc := 24) (-1 : Int32) k_iconst_m1 dX10_digit_24 ?_
      exact ev_iret (pc := 25) rfl dX10_digit_25
    · refine ev_iload_n (pc := 17) 0 dX10_digit_17 rfl ?_
      refine ev_bipush (pc := 18) 48 k_bipush_48 dX10_digit_18 ?_
      refine ev_isub (pc := 20) dX10_digit_20 ?_
      refine ev_goto (pc := 21) 25 (by decide) dX10_digit_21 ?_
      exact ev_iret (pc := 25) rfl dX10_digit_25
def f_X10_step (N : Nat) (I : PI) (L : PL) : RES := (if (I 10 1) ≤ (I 10 2) then some (none, I, L) else nmW (uI I 10 2 ((I 10 2) + 1)) (fun I1 => some (none, I1, L)))
set_option maxRecDepth 100000 in
theorem ok_X10_step (N d : Nat) (I : PI) (L : PL) : MOk M_X10_step (d) [.ref 10] I L (f_X10_step N I L) := by
  refine MOk.of (by decide +kernel) (Nat.le_of_ble_eq_true rfl) ?_
  show EvW _ _ 0 [(0, .ref 10)] [] I L _
  rw [f_X10_step]
  refine ev_aload_n (pc := 0) 0 dX10_step_0 rfl ?_
  refine gf_X10_19 (pc := 1) rfl dX10_step_1 ?_
  refine ev_aload_n (pc := 4) 0 dX10_step_4 rfl ?_
  refine gf_X10_15 (pc := 5) rfl dX10_step_5 ?_
  refine ev_icmp_ge (pc := 8) 21 (by decide) dX10_step_8 ?_ ?_
  · exact ev_vret (pc := 21) rfl dX10_step_21
  · refine ev_aload_n (pc := 11) 0 dX10_step_11 rfl ?_
    refine ev_dup (pc := 12) rfl dX10_step_12 ?_
    refine gf_X10_19 (pc := 13) rfl dX10_step_13 ?_
    refine ev_iconst (pc := 16) 1 k_iconst_1 dX10_step_16 ?_
    refine ev_iadd (pc := 17) dX10_step_17 ?_
    refine pf_X10_19 (pc := 18) rfl dX10_step_18 ?_
    refine ev_nmW (fun I1 => ?_)
    exact ev_vret (pc := 21) rfl dX10_step_21
def f_X8_putLast (N : Nat) (a1 : Int32) (a2 : Int32) (I : PI) (L : PL) : RES := (if a1 < 0 then some (none, I, L) else (if 8 ≤ a1 then some (none, I, L) else (if 7 ≤ (I 8 6) then some (none, I, L) else gd (inb (((I 8 6) * 8) + a1) 56) (nmW (uI I 25 (Int32.toNatClampNeg (((I 8 6) * 8) + a1)) a2) (fun I1 => gd (inb (I1 8 6) 7) (nmW (uI I1 26 (Int32.toNatClampNeg (I1 8 6)) (a1 + 1)) (fun I2 => some (none, I2, L))))))))
set_option maxRecDepth 100000 in
theorem ok_X8_putLast (N d : Nat) (a1 : Int32) (a2 : Int32) (I : PI) (L : PL) : MOk M_X8_putLast (d) [.ref 8, .int a1, .int a2] I L (f_X8_putLast N a1 a2 I L) := by
  refine MOk.of (by decide +kernel) (Nat.le_of_ble_eq_true rfl) ?_
  show EvW _ _ 0 [(0, .ref 8), (1, .int a1), (2, .int a2)] [] I L _
  rw [f_X8_putLast]
  refine ev_iload_n (pc := 0) 1 dX8_putLast_0 rfl ?_
  refine ev_if_lt (pc := 1) 49 (by decide) dX8_putLast_1 ?_ ?_
  · exact ev_vret (pc := 49) rfl dX8_putLast_49
  · refine ev_iload_n (pc := 4) 1 dX8_putLast_4 rfl ?_
    refine ev_bipush (pc := 5) 8 k_bipush_8 dX8_putLast_5 ?_
    refine ev_icmp_ge (pc := 7) 49 (by decide) dX8_putLast_7 ?_ ?_
    · exact ev_vret (pc := 49) rfl dX8_putLast_49
    · refine ev_aload_n (pc := 10) 0 dX8_putLast_10 rfl ?_
      refine gf_X8_37 (pc := 11) rfl dX8_putLast_11 ?_
      refine ev_aload_n (pc := 14) 0 dX8_putLast_14 rfl ?_
      refine gf_X8_18 (pc := 15) rfl dX8_putLast_15 ?_
      refine ev_alenI (pc := 18) 7 (by decide +kernel) kK_26 dX8_putLast_18 ?_
      refine ev_icmp_ge (pc := 19) 49 (by decide) dX8_putLast_19 ?_ ?_
      · exact ev_vret (pc := 49) rfl dX8_putLast_49
      · refine ev_aload_n (pc := 22) 0 dX8_putLast_22 rfl ?_
        refine gf_X8_15 (pc := 23) rfl dX8_putLast_23 ?_
        refine ev_aload_n (pc := 26) 0 dX8_putLast_26 rfl ?_
        refine gf_X8_37 (pc := 27) rfl dX8_putLast_27 ?_
        refine ev_bipush (pc := 30) 8 k_bipush_8 dX8_putLast_30 ?_
        refine ev_imul (pc := 32) dX8_putLast_32 ?_
        refine ev_iload_n (pc := 33) 1 dX8_putLast_33 rfl ?_
        refine ev_iadd (pc := 34) dX8_putLast_34 ?_
        refine ev_iload_n (pc := 35) 2 dX8_putLast_35 rfl ?_
        refine ev_iast (pc := 36) kK_25 dX8_putLast_36 ?_
        refine ev_nmW (fun I1 => ?_)
        refine ev_aload_n (pc := 37) 0 dX8_putLast_37 rfl ?_
        refine gf_X8_18 (pc := 38) rfl dX8_putLast_38 ?_
        refine ev_aload_n (pc := 41) 0 dX8_putLast_41 rfl ?_
        refine gf_X8_37 (pc := 42) rfl dX8_putLast_42 ?_
        refine ev_iload_n (pc := 45) 1 dX8_putLast_45 rfl ?_
        refine ev_iconst (pc := 46) 1 k_iconst_1 dX8_putLast_46 ?_
        refine ev_iadd (pc := 47) dX8_putLast_47 ?_
        refine ev_iast (pc := 48) kK_26 dX8_putLast_48 ?_
        refine ev_nmW (fun I2 => ?_)
        exact ev_vret (pc := 49) rfl dX8_putLast_49
def f_X10_take (N : Nat) (a1 : Int32) (I : PI) (L : PL) : RES := bI (f_X10_next N I L) (fun x1 I2 L3 => (if x1 = a1 then bV (f_X10_step N I2 L3) (fun I5 L6 => gd (decide (1 &&& 1 = 1)) (some (some (.int 1), I5, L6))) else gd (decide (0 &&& 1 = 0)) (some (some (.int 0), I2, L3))))
set_option maxRecDepth 100000 in
theorem ok_X10_take (N d : Nat) (a1 : Int32) (I : PI) (L : PL) : MOk M_X10_take (d + 2) [.ref 10, .int a1] I L (f_X10_take N a1 I L) := by
  refine MOk.of (by decide +kernel) (Nat.le_of_ble_eq_true rfl) ?_
  show EvW _ _ 0 [(0, .ref 10), (1, .int a1)] [] I L _
  rw [f_X10_take]
  refine ev_aload_n (pc := 0) 0 dX10_take_0 rfl ?_
  refine ev_callVI (pc := 1) (d := d + 1) (As := []) (st := []) cv_X10_next rfl w_52 rfl (Nat.le_of_ble_eq_true rfl) (ok_X10_next N (d) I L) dX10_take_1 (fun x1 I2 L3 => ?_)
  refine ev_iload_n (pc := 4) 1 dX10_take_4 rfl ?_
  refine ev_icmp_eq (pc := 5) 10 (by decide) dX10_take_5 ?_ ?_
  · refine ev_aload_n (pc := 10) 0 dX10_take_10 rfl ?_
    refine ev_callVV (pc := 11) (d := d + 1) (As := []) (st := []) cv_X10_step rfl w_53 rfl (Nat.le_of_ble_eq_true rfl) (ok_X10_step N (d + 1) I2 L3) dX10_take_11 (fun I5 L6 => ?_)
    refine ev_iconst (pc := 14) 1 k_iconst_1 dX10_take_14 ?_
    exact ev_zret (pc := 15) rfl dX10_take_15
  · refine ev_iconst (pc := 8) 0 k_iconst_0 dX10_take_8 ?_
    exact ev_zret (pc := 9) rfl dX10_take_9
def F_X8_readFrom_58 (N : Nat) (r_6 : Int32 → PI → PL → RES) (v2 : Int32) (v3 : Int32) (I : PI) (L : PL) : RES := (if 2 ≤ v3 then bV (f_X8_putLast N v2 v3 I L) (fun I17 L18 => bI (f_X10_next N I17 L18) (fun x19 I20 L21 => (if x19 = 0 then some (some (.int (-1 : Int32)), I20, L21) else (if v2 = 7 then some (some (.int (I20 10 2)), I20, L21) else bI (f_X10_take N 44 I20 L21) (fun x22 I23 L24 => (if x22 = 0 then some (some (.int (I23 10 2)), I23, L24) else r_6 (v2 + 1) I23 L24)))))) else some (some (.int ((I 10 2) - 1)), I, L))
set_option maxRecDepth 100000 in
theorem E_X8_readFrom_58 (N d : Nat) (r_6 : Int32 → PI → PL → RES) (hr_6 : ∀ (v2 : Int32) (I : PI) (L : PL), EvW M_X8_readFrom (d + 3) 6 [(0, .ref 8), (1, .ref 10), (2, .int v2)] [] I L (r_6 v2 I L)) (v2 : Int32) (v3 : Int32) (I : PI) (L : PL) : EvW M_X8_readFrom (d + 3) 58 [(0, .ref 8), (1, .ref 10), (2, .int v2), (3, .int v3)] [] I L (F_X8_readFrom_58 N r_6 v2 v3 I L) := by
  rw [F_X8_readFrom_58]
  refine ev_iload_n (pc := 58) 3 dX8_readFrom_58 rfl ?_
  refine ev_iconst (pc := 59) 2 k_iconst_2 dX8_readFrom_59 ?_
  refine ev_icmp_ge (pc := 60) 70 (by decide) dX8_readFrom_60 ?_ ?_
  · refine ev_aload_n (pc := 70) 0 dX8_readFrom_70 rfl ?_
    refine ev_iload_n (pc := 71) 2 dX8_readFrom_71 rfl ?_
    refine ev_iload_n (pc := 72) 3 dX8_readFrom_72 rfl ?_
    refine ev_callVV (pc := 73) (d := d + 2) (As := [.int v2, .int v3]) (st := []) cv_X8_putLast rfl w_51 rfl (Nat.le_of_ble_eq_true rfl) (ok_X8_putLast N (d + 2) v2 v3 I L) dX8_readFrom_73 (fun I17 L18 => ?_)
    refine ev_aload_n (pc := 76) 1 dX8_readFrom_76 rfl ?_
    refine ev_callVI (pc := 77) (d := d + 2) (As := []) (st := []) cv_X10_next rfl w_35 rfl (Nat.le_of_ble_eq_true rfl) (ok_X10_next N (d + 1) I17 L18) dX8_readFrom_77 (fun x19 I20 L21 => ?_)
    refine ev_if_ne (pc := 80) 85 (by decide) dX8_readFrom_80 ?_ ?_
    · refine ev_iload_n (pc := 85) 2 dX8_readFrom_85 rfl ?_
      refine ev_bipush (pc := 86) 7 k_bipush_7 dX8_readFrom_86 ?_
      refine ev_icmp_eq (pc := 88) 100 (by decide) dX8_readFrom_88 ?_ ?_
      · refine ev_aload_n (pc := 100) 1 dX8_readFrom_100 rfl ?_
        refine gf_X8_57 (pc := 101) rfl dX8_readFrom_101 ?_
        exact ev_iret (pc := 104) rfl dX8_readFrom_104
      · refine ev_aload_n (pc := 91) 1 dX8_readFrom_91 rfl ?_
        refine ev_bipush (pc := 92) 44 k_bipush_44 dX8_readFrom_92 ?_
        refine ev_callVI (pc := 94) (d := d + 2) (As := [.int 44]) (st := []) cv_X10_take rfl w_57 rfl (Nat.le_of_ble_eq_true rfl) (ok_X10_take N (d) 44 I20 L21) dX8_readFrom_94 (fun x22 I23 L24 => ?_)
        refine ev_if_ne (pc := 97) 105 (by decide) dX8_readFrom_97 ?_ ?_
        · refine ev_iinc (pc := 105) (lv' := [(2, .int (v2 + 1)), (0, .ref 8), (1, .ref 10), (3, .int v3)]) dX8_readFrom_105 2 rfl rfl 1 k_iconst_1 rfl ?_
          refine ev_goto (pc := 108) 6 (by decide) dX8_readFrom_108 ?_
          refine EvW.sub [1, 2, 0] rfl ?_
          exact hr_6 (v2 + 1) I23 L24
        · refine ev_aload_n (pc := 100) 1 dX8_readFrom_100 rfl ?_
          refine gf_X8_57 (pc := 101) rfl dX8_readFrom_101 ?_
          exact ev_iret (pc := 104) rfl dX8_readFrom_104
    · refine ev_iconst (pc := 83) (-1 : Int32) k_iconst_m1 dX8_readFrom_83 ?_
      exact ev_iret (pc := 84) rfl dX8_readFrom_84
  · refine ev_aload_n (pc := 63) 1 dX8_readFrom_63 rfl ?_
    refine gf_X8_57 (pc := 64) rfl dX8_readFrom_64 ?_
    refine ev_iconst (pc := 67) 1 k_iconst_1 dX8_readFrom_67 ?_
    refine ev_isub (pc := 68) dX8_readFrom_68 ?_
    exact ev_iret (pc := 69) rfl dX8_readFrom_69
def F_X8_readFrom_6 (N : Nat) : Nat → Int32 → PI → PL → RES
  | 0, _, _, _ => none
  | n + 1, v2, I, L => (if 8 ≤ v2 then some (some (.int (I 10 2)), I, L) else bI (f_X10_next N I L) (fun x4 I5 L6 => bI (f_X10_digit N I5 L6) (fun x7 I8 L9 => (if x7 = (-1 : Int32) then some (some (.int (I8 10 2)), I8, L9) else bV (f_X10_step N I8 L9) (fun I11 L12 => bI (f_X10_digit N I11 L12) (fun x13 I14 L15 => (if x13 = (-1 : Int32) then F_X8_readFrom_58 N (F_X8_readFrom_6 N n) v2 x7 I14 L15 else bI (f_X10_digit N I14 L15) (fun x25 I26 L27 => nmI ((x7 * 10) + x25) (fun x28 => bV (f_X10_step N I26 L27) (fun I30 L31 => F_X8_readFrom_58 N (F_X8_readFrom_6 N n) v2 x28 I30 L31))))))))))
set_option maxRecDepth 100000 in
theorem E_X8_readFrom_6 (N d : Nat) : ∀ (n : Nat) (v2 : Int32) (I : PI) (L : PL), EvW M_X8_readFrom (d + 3) 6 [(0, .ref 8), (1, .ref 10), (2, .int v2)] [] I L (F_X8_readFrom_6 N n v2 I L) := by
  intro n
  induction n with
  | zero =>
    intro v2 I L
    exact EvW.none
  | succ n hr_6 =>
    intro v2 I L
    rw [F_X8_readFrom_6]
    refine ev_iload_n (pc := 6) 2 dX8_readFrom_6 rfl ?_
    refine ev_bipush (pc := 7) 8 k_bipush_8 dX8_readFrom_7 ?_
    refine ev_icmp_ge (pc := 9) 111 (by decide) dX8_readFrom_9 ?_ ?_
    · refine ev_aload_n (pc := 111) 1 dX8_readFrom_111 rfl ?_
      refine gf_X8_57 (pc := 112) rfl dX8_readFrom_112 ?_
      exact ev_iret (pc := 115) rfl dX8_readFrom_115
    · refine ev_aload_n (pc := 12) 1 dX8_readFrom_12 rfl ?_
      refine ev_callVI (pc := 13) (d := d + 2) (As := []) (st := []) cv_X10_next rfl w_35 rfl (Nat.le_of_ble_eq_true rfl) (ok_X10_next N (d + 1) I L) dX8_readFrom_13 (fun x4 I5 L6 => ?_)
      refine ev_pop (pc := 16) rfl dX8_readFrom_16 ?_
      refine ev_aload_n (pc := 17) 1 dX8_readFrom_17 rfl ?_
      refine ev_callVI (pc := 18) (d := d + 2) (As := []) (st := []) cv_X10_digit rfl w_39 rfl (Nat.le_of_ble_eq_true rfl) (ok_X10_digit N (d + 1) I5 L6) dX8_readFrom_18 (fun x7 I8 L9 => ?_)
      refine ev_istore_n (pc := 21) (lv' := [(3, .int x7), (0, .ref 8), (1, .ref 10), (2, .int v2)]) dX8_readFrom_21 rfl rfl rfl ?_
      refine ev_iload_n (pc := 22) 0 dX8_readFrom_22 rfl ?_
      refine ev_iconst (pc := 23) (-1 : Int32) k_iconst_m1 dX8_readFrom_23 ?_
      refine ev_icmp_ne (pc := 24) 32 (by decide) dX8_readFrom_24 ?_ ?_
      · refine ev_aload_n (pc := 32) 2 dX8_readFrom_32 rfl ?_
        refine ev_callVV (pc := 33) (d := d + 2) (As := []) (st := []) cv_X10_step rfl w_43 rfl (Nat.le_of_ble_eq_true rfl) (ok_X10_step N (d + 2) I8 L9) dX8_readFrom_33 (fun I11 L12 => ?_)
        refine ev_aload_n (pc := 36) 2 dX8_readFrom_36 rfl ?_
        refine ev_callVI (pc := 37) (d := d + 2) (As := []) (st := []) cv_X10_digit rfl w_39 rfl (Nat.le_of_ble_eq_true rfl) (ok_X10_digit N (d + 1) I11 L12) dX8_readFrom_37 (fun x13 I14 L15 => ?_)
        refine ev_iconst (pc := 40) (-1 : Int32) k_iconst_m1 dX8_readFrom_40 ?_
        refine ev_icmp_eq (pc := 41) 58 (by decide) dX8_readFrom_41 ?_ ?_
        · refine EvW.sub [1, 2, 3, 0] rfl ?_
          exact E_X8_readFrom_58 N d (F_X8_readFrom_6 N n) hr_6 v2 x7 I14 L15
        · refine ev_iload_n (pc := 44) 0 dX8_readFrom_44 rfl ?_
          refine ev_bipush (pc := 45) 10 k_bipush_10 dX8_readFrom_45 ?_
          refine ev_imul (pc := 47) dX8_readFrom_47 ?_
          refine ev_aload_n (pc := 48) 2 dX8_readFrom_48 rfl ?_
          refine ev_callVI (pc := 49) (d := d + 2) (As := []) (st := [.int (x7 * 10)]) cv_X10_digit rfl w_39 rfl (Nat.le_of_ble_eq_true rfl) (ok_X10_digit N (d + 1) I14 L15) dX8_readFrom_49 (fun x25 I26 L27 => ?_)
          refine ev_iadd (pc := 52) dX8_readFrom_52 ?_
          refine ev_nmI (fun x28 => ?_)
          refine ev_istore_n (pc := 53) (lv' := [(3, .int x28), (0, .ref 8), (1, .ref 10), (2, .int v2)]) dX8_readFrom_53 rfl rfl rfl ?_
          refine ev_aload_n (pc := 54) 2 dX8_readFrom_54 rfl ?_
          refine ev_callVV (pc := 55) (d := d + 2) (As := []) (st := []) cv_X10_step rfl w_43 rfl (Nat.le_of_ble_eq_true rfl) (ok_X10_step N (d + 2) I26 L27) dX8_readFrom_55 (fun I30 L31 => ?_)
          refine EvW.sub [1, 2, 3, 0] rfl ?_
          exact E_X8_readFrom_58 N d (F_X8_readFrom_6 N n) hr_6 v2 x28 I30 L31
      · refine ev_aload_n (pc := 27) 2 dX8_readFrom_27 rfl ?_
        refine gf_X8_57 (pc := 28) rfl dX8_readFrom_28 ?_
        exact ev_iret (pc := 31) rfl dX8_readFrom_31
def f_X8_readFrom (N : Nat) (I : PI) (L : PL) : RES := bV (f_X10_start N I L) (fun I2 L3 => F_X8_readFrom_6 N N 0 I2 L3)
set_option maxRecDepth 100000 in
theorem ok_X8_readFrom (N d : Nat) (I : PI) (L : PL) : MOk M_X8_readFrom (d + 3) [.ref 8, .ref 10] I L (f_X8_readFrom N I L) := by
  refine MOk.of (by decide +kernel) (Nat.le_of_ble_eq_true rfl) ?_
  show EvW _ _ 0 [(0, .ref 8), (1, .ref 10)] [] I L _
  rw [f_X8_readFrom]
  refine ev_aload_n (pc := 0) 1 dX8_readFrom_0 rfl ?_
  refine ev_callVV (pc := 1) (d := d + 2) (As := []) (st := []) cv_X10_start rfl w_27 rfl (Nat.le_of_ble_eq_true rfl) (ok_X10_start N (d + 2) I L) dX8_readFrom_1 (fun I2 L3 => ?_)
  refine ev_iconst (pc := 4) 0 k_iconst_0 dX8_readFrom_4 ?_
  refine ev_istore_n (pc := 5) (lv' := [(2, .int 0), (0, .ref 8), (1, .ref 10)]) dX8_readFrom_5 rfl rfl rfl ?_
  refine EvW.sub [1, 2, 0] rfl ?_
  exact E_X8_readFrom_6 N d N 0 I2 L3
def f_X6_make (N : Nat) (a1 : Int32) (I : PI) (L : PL) : RES := (if 120 ≤ (I 6 2) then some (none, I, L) else gd (inb (I 6 2) 120) (nmW (uI I 17 (Int32.toNatClampNeg (I 6 2)) a1) (fun I1 => nmW (uI I1 6 2 ((I1 6 2) + 1)) (fun I2 => some (none, I2, L)))))
set_option maxRecDepth 100000 in
theorem ok_X6_make (N d : Nat) (a1 : Int32) (I : PI) (L : PL) : MOk M_X6_make (d) [.ref 6, .int a1] I L (f_X6_make N a1 I L) := by
  refine MOk.of (by decide +kernel) (Nat.le_of_ble_eq_true rfl) ?_
  show EvW _ _ 0 [(0, .ref 6), (1, .int a1)] [] I L _
  rw [f_X6_make]
  refine ev_aload_n (pc := 0) 0 dX6_make_0 rfl ?_
  refine gf_X6_21 (pc := 1) rfl dX6_make_1 ?_
  refine ev_aload_n (pc := 4) 0 dX6_make_4 rfl ?_
  refine gf_X6_17 (pc := 5) rfl dX6_make_5 ?_
  refine ev_alenI (pc := 8) 120 (by decide +kernel) kK_17 dX6_make_8 ?_
  refine ev_icmp_ge (pc := 9) 32 (by decide) dX6_make_9 ?_ ?_
  · exact ev_vret (pc := 32) rfl dX6_make_32
  · refine ev_aload_n (pc := 12) 0 dX6_make_12 rfl ?_
    refine gf_X6_17 (pc := 13) rfl dX6_make_13 ?_
    refine ev_aload_n (pc := 16) 0 dX6_make_16 rfl ?_
    refine gf_X6_21 (pc := 17) rfl dX6_make_17 ?_
    refine ev_iload_n (pc := 20) 1 dX6_make_20 rfl ?_
    refine ev_iast (pc := 21) kK_17 dX6_make_21 ?_
    refine ev_nmW (fun I1 => ?_)
    refine ev_aload_n (pc := 22) 0 dX6_make_22 rfl ?_
    refine ev_dup (pc := 23) rfl dX6_make_23 ?_
    refine gf_X6_21 (pc := 24) rfl dX6_make_24 ?_
    refine ev_iconst (pc := 27) 1 k_iconst_1 dX6_make_27 ?_
    refine ev_iadd (pc := 28) dX6_make_28 ?_
    refine pf_X6_21 (pc := 29) rfl dX6_make_29 ?_
    refine ev_nmW (fun I2 => ?_)
    exact ev_vret (pc := 32) rfl dX6_make_32
def f_X6_makeSign (N : Nat) (a1 : Int32) (I : PI) (L : PL) : RES := bV (f_X6_make N (-a1) I L) (fun I2 L3 => some (none, I2, L3))
set_option maxRecDepth 100000 in
theorem ok_X6_makeSign (N d : Nat) (a1 : Int32) (I : PI) (L : PL) : MOk M_X6_makeSign (d + 1) [.ref 6, .int a1] I L (f_X6_makeSign N a1 I L) := by
  refine MOk.of (by decide +kernel) (Nat.le_of_ble_eq_true rfl) ?_
  show EvW _ _ 0 [(0, .ref 6), (1, .int a1)] [] I L _
  rw [f_X6_makeSign]
  refine ev_aload_n (pc := 0) 0 dX6_makeSign_0 rfl ?_
  refine ev_iload_n (pc := 1) 1 dX6_makeSign_1 rfl ?_
  refine ev_ineg (pc := 2) dX6_makeSign_2 ?_
  refine ev_callVV (pc := 3) (d := d) (As := [.int (-a1)]) (st := []) cv_X6_make rfl w_74 rfl (Nat.le_of_ble_eq_true rfl) (ok_X6_make N (d) (-a1) I L) dX6_makeSign_3 (fun I2 L3 => ?_)
  exact ev_vret (pc := 6) rfl dX6_makeSign_6
def F_X6_number_46 (N : Nat) (v1 : Int32) (v2 : Int32) (I : PI) (L : PL) : RES := (if v2 = 0 then gd (decide (0 &&& 1 = 0)) (some (some (.int 0), I, L)) else bV (f_X6_make N v1 I L) (fun I2 L3 => gd (decide (1 &&& 1 = 1)) (some (some (.int 1), I2, L3))))
set_option maxRecDepth 100000 in
theorem E_X6_number_46 (N d : Nat) (v1 : Int32) (v2 : Int32) (I : PI) (L : PL) : EvW M_X6_number (d + 2) 46 [(0, .ref 6), (1, .int v1), (2, .int v2)] [] I L (F_X6_number_46 N v1 v2 I L) := by
  rw [F_X6_number_46]
  refine ev_iload_n (pc := 46) 2 dX6_number_46 rfl ?_
  refine ev_if_ne (pc := 47) 52 (by decide) dX6_number_47 ?_ ?_
  · refine ev_aload_n (pc := 52) 0 dX6_number_52 rfl ?_
    refine ev_iload_n (pc := 53) 1 dX6_number_53 rfl ?_
    refine ev_callVV (pc := 54) (d := d + 1) (As := [.int v1]) (st := []) cv_X6_make rfl w_74 rfl (Nat.le_of_ble_eq_true rfl) (ok_X6_make N (d + 1) v1 I L) dX6_number_54 (fun I2 L3 => ?_)
    refine ev_iconst (pc := 57) 1 k_iconst_1 dX6_number_57 ?_
    exact ev_zret (pc := 58) rfl dX6_number_58
  · refine ev_iconst (pc := 50) 0 k_iconst_0 dX6_number_50 ?_
    exact ev_zret (pc := 51) rfl dX6_number_51
def F_X6_number_4 (N : Nat) : Nat → Int32 → Int32 → PI → PL → RES
  | 0, _, _, _, _ => none
  | n + 1, v1, v2, I, L => (if 4 ≤ v2 then F_X6_number_46 N v1 v2 I L else bI (f_X10_digit N I L) (fun x4 I5 L6 => (if x4 = (-1 : Int32) then F_X6_number_46 N v1 v2 I5 L6 else bI (f_X10_digit N I5 L6) (fun x7 I8 L9 => nmI ((v1 * 10) + x7) (fun x10 => bV (f_X10_step N I8 L9) (fun I12 L13 => (F_X6_number_4 N n) x10 (v2 + 1) I12 L13))))))
set_option maxRecDepth 100000 in
theorem E_X6_number_4 (N d : Nat) : ∀ (n : Nat) (v1 : Int32) (v2 : Int32) (I : PI) (L : PL), EvW M_X6_number (d + 2) 4 [(0, .ref 6), (1, .int v1), (2, .int v2)] [] I L (F_X6_number_4 N n v1 v2 I L) := by
  intro n
  induction n with
  | zero =>
    intro v1 v2 I L
    exact EvW.none
  | succ n hr_4 =>
    intro v1 v2 I L
    rw [F_X6_number_4]
    refine ev_iload_n (pc := 4) 2 dX6_number_4 rfl ?_
    refine ev_iconst (pc := 5) 4 k_iconst_4 dX6_number_5 ?_
    refine ev_icmp_ge (pc := 6) 46 (by decide) dX6_number_6 ?_ ?_
    · exact E_X6_number_46 N d v1 v2 I L
    · refine ev_aload_n (pc := 9) 0 dX6_number_9 rfl ?_
      refine gf_X6_9 (pc := 10) rfl dX6_number_10 ?_
      refine ev_callVI (pc := 13) (d := d + 1) (As := []) (st := []) cv_X10_digit rfl w_79 rfl (Nat.le_of_ble_eq_true rfl) (ok_X10_digit N (d) I L) dX6_number_13 (fun x4 I5 L6 => ?_)
      refine ev_iconst (pc := 16) (-1 : Int32) k_iconst_m1 dX6_number_16 ?_
      refine ev_icmp_eq (pc := 17) 46 (by decide) dX6_number_17 ?_ ?_
      · exact E_X6_number_46 N d v1 v2 I5 L6
      · refine ev_iload_n (pc := 20) 1 dX6_number_20 rfl ?_
        refine ev_bipush (pc := 21) 10 k_bipush_10 dX6_number_21 ?_
        refine ev_imul (pc := 23) dX6_number_23 ?_
        refine ev_aload_n (pc := 24) 0 dX6_number_24 rfl ?_
        refine gf_X6_9 (pc := 25) rfl dX6_number_25 ?_
        refine ev_callVI (pc := 28) (d := d + 1) (As := []) (st := [.int (v1 * 10)]) cv_X10_digit rfl w_79 rfl (Nat.le_of_ble_eq_true rfl) (ok_X10_digit N (d) I5 L6) dX6_number_28 (fun x7 I8 L9 => ?_)
        refine ev_iadd (pc := 31) dX6_number_31 ?_
        refine ev_nmI (fun x10 => ?_)
        refine ev_istore_n (pc := 32) (lv' := [(1, .int x10), (0, .ref 6), (2, .int v2)]) dX6_number_32 rfl rfl rfl ?_
        refine ev_aload_n (pc := 33) 1 dX6_number_33 rfl ?_
        refine gf_X6_9 (pc := 34) rfl dX6_number_34 ?_
        refine ev_callVV (pc := 37) (d := d + 1) (As := []) (st := []) cv_X10_step rfl w_68 rfl (Nat.le_of_ble_eq_true rfl) (ok_X10_step N (d + 1) I8 L9) dX6_number_37 (fun I12 L13 => ?_)
        refine ev_iinc (pc := 40) (lv' := [(2, .int (v2 + 1)), (1, .int x10), (0, .ref 6)]) dX6_number_40 2 rfl rfl 1 k_iconst_1 rfl ?_
        refine ev_goto (pc := 43) 4 (by decide) dX6_number_43 ?_
        refine EvW.sub [2, 1, 0] rfl ?_
        exact hr_4 x10 (v2 + 1) I12 L13
def f_X6_number (N : Nat) (I : PI) (L : PL) : RES := F_X6_number_4 N N 0 0 I L
set_option maxRecDepth 100000 in
theorem ok_X6_number (N d : Nat) (I : PI) (L : PL) : MOk M_X6_number (d + 2) [.ref 6] I L (f_X6_number N I L) := by
  refine MOk.of (by decide +kernel) (Nat.le_of_ble_eq_true rfl) ?_
  show EvW _ _ 0 [(0, .ref 6)] [] I L _
  rw [f_X6_number]
  refine ev_iconst (pc := 0) 0 k_iconst_0 dX6_number_0 ?_
  refine ev_istore_n (pc := 1) (lv' := [(1, .int 0), (0, .ref 6)]) dX6_number_1 rfl rfl rfl ?_
  refine ev_iconst (pc := 2) 0 k_iconst_0 dX6_number_2 ?_
  refine ev_istore_n (pc := 3) (lv' := [(2, .int 0), (1, .int 0), (0, .ref 6)]) dX6_number_3 rfl rfl rfl ?_
  refine EvW.sub [2, 1, 0] rfl ?_
  exact E_X6_number_4 N d N 0 0 I L
def f_X6_goesDeeper (N : Nat) (a1 : Int32) (I : PI) (L : PL) : RES := (if a1 < 6 then bV (f_X10_step N I L) (fun I2 L3 => gd (decide (1 &&& 1 = 1)) (some (some (.int 1), I2, L3))) else gd (decide (0 &&& 1 = 0)) (some (some (.int 0), I, L)))
set_option maxRecDepth 100000 in
theorem ok_X6_goesDeeper (N d : Nat) (a1 : Int32) (I : PI) (L : PL) : MOk M_X6_goesDeeper (d + 1) [.ref 6, .int a1] I L (f_X6_goesDeeper N a1 I L) := by
  refine MOk.of (by decide +kernel) (Nat.le_of_ble_eq_true rfl) ?_
  show EvW _ _ 0 [(0, .ref 6), (1, .int a1)] [] I L _
  rw [f_X6_goesDeeper]
  refine ev_iload_n (pc := 0) 1 dX6_goesDeeper_0 rfl ?_
  refine ev_bipush (pc := 1) 6 k_bipush_6 dX6_goesDeeper_1 ?_
  refine ev_icmp_lt (pc := 3) 8 (by decide) dX6_goesDeeper_3 ?_ ?_
  · refine ev_aload_n (pc := 8) 0 dX6_goesDeeper_8 rfl ?_
    refine gf_X6_9 (pc := 9) rfl dX6_goesDeeper_9 ?_
    refine ev_callVV (pc := 12) (d := d) (As := []) (st := []) cv_X10_step rfl w_68 rfl (Nat.le_of_ble_eq_true rfl) (ok_X10_step N (d) I L) dX6_goesDeeper_12 (fun I2 L3 => ?_)
    refine ev_iconst (pc := 15) 1 k_iconst_1 dX6_goesDeeper_15 ?_
    exact ev_zret (pc := 16) rfl dX6_goesDeeper_16
  · refine ev_iconst (pc := 6) 0 k_iconst_0 dX6_goesDeeper_6 ?_
    exact ev_zret (pc := 7) rfl dX6_goesDeeper_7
def F_X6_atom_76 (N : Nat) (c_X6_atom : Int32 → PI → PL → RES) (c_X6_chain : Int32 → Int32 → Int32 → PI → PL → RES) (c_X6_part : Int32 → Int32 → Int32 → PI → PL → RES) (c_X6_unit : Int32 → Int32 → PI → PL → RES) (v2 : Int32) (I : PI) (L : PL) : RES := bV (f_X10_step N I L) (fun I5 L6 => bV (f_X6_makeSign N v2 I5 L6) (fun I8 L9 => gd (decide (1 &&& 1 = 1)) (some (some (.int 1), I8, L9))))
set_option maxRecDepth 100000 in
theorem E_X6_atom_76 (N d : Nat) (c_X6_atom : Int32 → PI → PL → RES) (c_X6_chain : Int32 → Int32 → Int32 → PI → PL → RES) (c_X6_part : Int32 → Int32 → Int32 → PI → PL → RES) (c_X6_unit : Int32 → Int32 → PI → PL → RES) (hc_X6_atom : ∀ (a1 : Int32) (I : PI) (L : PL), MOk M_X6_atom (d + 3) [.ref 6, .int a1] I L (c_X6_atom a1 I L)) (hc_X6_chain : ∀ (a1 : Int32) (a2 : Int32) (a3 : Int32) (I : PI) (L : PL), MOk M_X6_chain (d + 3) [.ref 6, .int a1, .int a2, .int a3] I L (c_X6_chain a1 a2 a3 I L)) (hc_X6_part : ∀ (a1 : Int32) (a2 : Int32) (a3 : Int32) (I : PI) (L : PL), MOk M_X6_part (d + 3) [.ref 6, .int a1, .int a2, .int a3] I L (c_X6_part a1 a2 a3 I L)) (hc_X6_unit : ∀ (a1 : Int32) (a2 : Int32) (I : PI) (L : PL), MOk M_X6_unit (d + 3) [.ref 6, .int a1, .int a2] I L (c_X6_unit a1 a2 I L)) (v2 : Int32) (I : PI) (L : PL) : EvW M_X6_atom (d + 4) 76 [(0, .ref 6), (2, .int v2)] [] I L (F_X6_atom_76 N c_X6_atom c_X6_chain c_X6_part c_X6_unit v2 I L) := by
  rw [F_X6_atom_76]
  refine ev_aload_n (pc := 76) 0 dX6_atom_76 rfl ?_
  refine gf_X6_9 (pc := 77) rfl dX6_atom_77 ?_
  refine ev_callVV (pc := 80) (d := d + 3) (As := []) (st := []) cv_X10_step rfl w_68 rfl (Nat.le_of_ble_eq_true rfl) (ok_X10_step N (d + 3) I L) dX6_atom_80 (fun I5 L6 => ?_)
  refine ev_aload_n (pc := 83) 0 dX6_atom_83 rfl ?_
  refine ev_iload_n (pc := 84) 1 dX6_atom_84 rfl ?_
  refine ev_callVV (pc := 85) (d := d + 3) (As := [.int v2]) (st := []) cv_X6_makeSign rfl w_78 rfl (Nat.le_of_ble_eq_true rfl) (ok_X6_makeSign N (d + 2) v2 I5 L6) dX6_atom_85 (fun I8 L9 => ?_)
  refine ev_iconst (pc := 88) 1 k_iconst_1 dX6_atom_88 ?_
  exact ev_zret (pc := 89) rfl dX6_atom_89
def fo_X6_atom (N : Nat) (c_X6_atom : Int32 → PI → PL → RES) (c_X6_chain : Int32 → Int32 → Int32 → PI → PL → RES) (c_X6_part : Int32 → Int32 → Int32 → PI → PL → RES) (c_X6_unit : Int32 → Int32 → PI → PL → RES) (a1 : Int32) (I : PI) (L : PL) : RES := bI (f_X10_next N I L) (fun x1 I2 L3 => (if x1 = 91 then bI (f_X6_goesDeeper N a1 I2 L3) (fun x13 I14 L15 => (if x13 = 0 then gd (decide (0 &&& 1 = 0)) (some (some (.int 0), I14, L15)) else bI (c_X6_chain 2 (a1 + 1) 0 I14 L15) (fun x16 I17 L18 => (if x16 = 0 then gd (decide (0 &&& 1 = 0)) (some (some (.int 0), I17, L18)) else bI (f_X10_take N 93 I17 L18) (fun x19 I20 L21 => (if x19 = 0 then gd (decide (0 &&& 1 = 0)) (some (some (.int 0), I20, L21)) else gd (decide (1 &&& 1 = 1)) (some (some (.int 1), I20, L21)))))))) else (if x1 = 107 then F_X6_atom_76 N c_X6_atom c_X6_chain c_X6_part c_X6_unit x1 I2 L3 else (if x1 = 110 then F_X6_atom_76 N c_X6_atom c_X6_chain c_X6_part c_X6_unit x1 I2 L3 else (if x1 = 97 then F_X6_atom_76 N c_X6_atom c_X6_chain c_X6_part c_X6_unit x1 I2 L3 else (if x1 = 98 then F_X6_atom_76 N c_X6_atom c_X6_chain c_X6_part c_X6_unit x1 I2 L3 else bI (f_X6_number N I2 L3) (fun x10 I11 L12 => gd (decide (x10 &&& 1 = x10)) (some (some (.int x10), I11, L12)))))))))
set_option maxRecDepth 100000 in
theorem oo_X6_atom (N d : Nat) (c_X6_atom : Int32 → PI → PL → RES) (c_X6_chain : Int32 → Int32 → Int32 → PI → PL → RES) (c_X6_part : Int32 → Int32 → Int32 → PI → PL → RES) (c_X6_unit : Int32 → Int32 → PI → PL → RES) (hc_X6_atom : ∀ (a1 : Int32) (I : PI) (L : PL), MOk M_X6_atom (d + 3) [.ref 6, .int a1] I L (c_X6_atom a1 I L)) (hc_X6_chain : ∀ (a1 : Int32) (a2 : Int32) (a3 : Int32) (I : PI) (L : PL), MOk M_X6_chain (d + 3) [.ref 6, .int a1, .int a2, .int a3] I L (c_X6_chain a1 a2 a3 I L)) (hc_X6_part : ∀ (a1 : Int32) (a2 : Int32) (a3 : Int32) (I : PI) (L : PL), MOk M_X6_part (d + 3) [.ref 6, .int a1, .int a2, .int a3] I L (c_X6_part a1 a2 a3 I L)) (hc_X6_unit : ∀ (a1 : Int32) (a2 : Int32) (I : PI) (L : PL), MOk M_X6_unit (d + 3) [.ref 6, .int a1, .int a2] I L (c_X6_unit a1 a2 I L)) (a1 : Int32) (I : PI) (L : PL) : MOk M_X6_atom (d + 4) [.ref 6, .int a1] I L (fo_X6_atom N c_X6_atom c_X6_chain c_X6_part c_X6_unit a1 I L) := by
  refine MOk.of (by decide +kernel) (Nat.le_of_ble_eq_true rfl) ?_
  show EvW _ _ 0 [(0, .ref 6), (1, .int a1)] [] I L _
  rw [fo_X6_atom]
  refine ev_aload_n (pc := 0) 0 dX6_atom_0 rfl ?_
  refine gf_X6_9 (pc := 1) rfl dX6_atom_1 ?_
  refine ev_callVI (pc := 4) (d := d + 3) (As := []) (st := []) cv_X10_next rfl w_66 rfl (Nat.le_of_ble_eq_true rfl) (ok_X10_next N (d + 2) I L) dX6_atom_4 (fun x1 I2 L3 => ?_)
  refine ev_istore_n (pc := 7) (lv' := [(2, .int x1), (0, .ref 6), (1, .int a1)]) dX6_atom_7 rfl rfl rfl ?_
  refine ev_iload_n (pc := 8) 0 dX6_atom_8 rfl ?_
  refine ev_bipush (pc := 9) 91 k_bipush_91 dX6_atom_9 ?_
  refine ev_icmp_ne (pc := 11) 52 (by decide) dX6_atom_11 ?_ ?_
  · refine ev_iload_n (pc := 52) 0 dX6_atom_52 rfl ?_
    refine ev_bipush (pc := 53) 107 k_bipush_107 dX6_atom_53 ?_
    refine ev_icmp_eq (pc := 55) 76 (by decide) dX6_atom_55 ?_ ?_
    · refine EvW.sub [1, 0] rfl ?_
      exact E_X6_atom_76 N d c_X6_atom c_X6_chain c_X6_part c_X6_unit hc_X6_atom hc_X6_chain hc_X6_part hc_X6_unit x1 I2 L3
    · refine ev_iload_n (pc := 58) 0 dX6_atom_58 rfl ?_
      refine ev_bipush (pc := 59) 110 k_bipush_110 dX6_atom_59 ?_
      refine ev_icmp_eq (pc := 61) 76 (by decide) dX6_atom_61 ?_ ?_
      · refine EvW.sub [1, 0] rfl ?_
        exact E_X6_atom_76 N d c_X6_atom c_X6_chain c_X6_part c_X6_unit hc_X6_atom hc_X6_chain hc_X6_part hc_X6_unit x1 I2 L3
      · refine ev_iload_n (pc := 64) 0 dX6_atom_64 rfl ?_
        refine ev_bipush (pc := 65) 97 k_bipush_97 dX6_atom_65 ?_
        refine ev_icmp_eq (pc := 67) 76 (by decide) dX6_atom_67 ?_ ?_
        · refine EvW.sub [1, 0] rfl ?_
          exact E_X6_atom_76 N d c_X6_atom c_X6_chain c_X6_part c_X6_unit hc_X6_atom hc_X6_chain hc_X6_part hc_X6_unit x1 I2 L3
        · refine ev_iload_n (pc := 70) 0 dX6_atom_70 rfl ?_
          refine ev_bipush (pc := 71) 98 k_bipush_98 dX6_atom_71 ?_
          refine ev_icmp_ne (pc := 73) 90 (by decide) dX6_atom_73 ?_ ?_
          · refine ev_aload_n (pc := 90) 1 dX6_atom_90 rfl ?_
            refine ev_callVI (pc := 91) (d := d + 3) (As := []) (st := []) cv_X6_number rfl w_83 rfl (Nat.le_of_ble_eq_true rfl) (ok_X6_number N (d + 1) I2 L3) dX6_atom_91 (fun x10 I11 L12 => ?_)
            exact ev_zret (pc := 94) rfl dX6_atom_94
          · refine EvW.sub [1, 0] rfl ?_
            exact E_X6_atom_76 N d c_X6_atom c_X6_chain c_X6_part c_X6_unit hc_X6_atom hc_X6_chain hc_X6_part hc_X6_unit x1 I2 L3
  · refine ev_aload_n (pc := 14) 1 dX6_atom_14 rfl ?_
    refine ev_iload_n (pc := 15) 2 dX6_atom_15 rfl ?_
    refine ev_callVI (pc := 16) (d := d + 3) (As := [.int a1]) (st := []) cv_X6_goesDeeper rfl w_87 rfl (Nat.le_of_ble_eq_true rfl) (ok_X6_goesDeeper N (d + 2) a1 I2 L3) dX6_atom_16 (fun x13 I14 L15 => ?_)
    refine ev_if_eq (pc := 19) 50 (by decide) dX6_atom_19 ?_ ?_
    · refine ev_iconst (pc := 50) 0 k_iconst_0 dX6_atom_50 ?_
      exact ev_zret (pc := 51) rfl dX6_atom_51
    · refine ev_aload_n (pc := 22) 1 dX6_atom_22 rfl ?_
      refine ev_iconst (pc := 23) 2 k_iconst_2 dX6_atom_23 ?_
      refine ev_iload_n (pc := 24) 2 dX6_atom_24 rfl ?_
      refine ev_iconst (pc := 25) 1 k_iconst_1 dX6_atom_25 ?_
      refine ev_iadd (pc := 26) dX6_atom_26 ?_
      refine ev_iconst (pc := 27) 0 k_iconst_0 dX6_atom_27 ?_
      refine ev_callVI (pc := 28) (d := d + 3) (As := [.int 2, .int (a1 + 1), .int 0]) (st := []) cv_X6_chain rfl w_91 rfl (Nat.le_of_ble_eq_true rfl) (hc_X6_chain 2 (a1 + 1) 0 I14 L15) dX6_atom_28 (fun x16 I17 L18 => ?_)
      refine ev_if_eq (pc := 31) 50 (by decide) dX6_atom_31 ?_ ?_
      · refine ev_iconst (pc := 50) 0 k_iconst_0 dX6_atom_50 ?_
        exact ev_zret (pc := 51) rfl dX6_atom_51
      · refine ev_aload_n (pc := 34) 1 dX6_atom_34 rfl ?_
        refine gf_X6_9 (pc := 35) rfl dX6_atom_35 ?_
        refine ev_bipush (pc := 38) 93 k_bipush_93 dX6_atom_38 ?_
        refine ev_callVI (pc := 40) (d := d + 3) (As := [.int 93]) (st := []) cv_X10_take rfl w_67 rfl (Nat.le_of_ble_eq_true rfl) (ok_X10_take N (d + 1) 93 I17 L18) dX6_atom_40 (fun x19 I20 L21 => ?_)
        refine ev_if_eq (pc := 43) 50 (by decide) dX6_atom_43 ?_ ?_
        · refine ev_iconst (pc := 50) 0 k_iconst_0 dX6_atom_50 ?_
          exact ev_zret (pc := 51) rfl dX6_atom_51
        · refine ev_iconst (pc := 46) 1 k_iconst_1 dX6_atom_46 ?_
          refine ev_goto (pc := 47) 51 (by decide) dX6_atom_47 ?_
          exact ev_zret (pc := 51) rfl dX6_atom_51
def F_X6_joins_82 (N : Nat) (I : PI) (L : PL) : RES := gd (decide (1 &&& 1 = 1)) (some (some (.int 1), I, L))
set_option maxRecDepth 100000 in
theorem E_X6_joins_82 (N d : Nat) (I : PI) (L : PL) : EvW M_X6_joins (d) 82 [] [] I L (F_X6_joins_82 N I L) := by
  rw [F_X6_joins_82]
  refine ev_iconst (pc := 82) 1 k_iconst_1 dX6_joins_82 ?_
  refine ev_goto (pc := 83) 87 (by decide) dX6_joins_83 ?_
  exact ev_zret (pc := 87) rfl dX6_joins_87
def F_X6_joins_64 (N : Nat) (I : PI) (L : PL) : RES := gd (decide (1 &&& 1 = 1)) (some (some (.int 1), I, L))
set_option maxRecDepth 100000 in
theorem E_X6_joins_64 (N d : Nat) (I : PI) (L : PL) : EvW M_X6_joins (d) 64 [] [] I L (F_X6_joins_64 N I L) := by
  rw [F_X6_joins_64]
  refine ev_iconst (pc := 64) 1 k_iconst_1 dX6_joins_64 ?_
  refine ev_goto (pc := 65) 69 (by decide) dX6_joins_65 ?_
  exact ev_zret (pc := 69) rfl dX6_joins_69
def f_X6_joins (N : Nat) (a1 : Int32) (a2 : Int32) (I : PI) (L : PL) : RES := swT 0 [(if a2 = 124 then gd (decide (1 &&& 1 = 1)) (some (some (.int 1), I, L)) else gd (decide (0 &&& 1 = 0)) (some (some (.int 0), I, L))), (if a2 = 38 then gd (decide (1 &&& 1 = 1)) (some (some (.int 1), I, L)) else gd (decide (0 &&& 1 = 0)) (some (some (.int 0), I, L))), (if a2 = 43 then F_X6_joins_64 N I L else (if a2 = 45 then F_X6_joins_64 N I L else gd (decide (0 &&& 1 = 0)) (some (some (.int 0), I, L))))] ((if a2 = 42 then F_X6_joins_82 N I L else (if a2 = 47 then F_X6_joins_82 N I L else gd (decide (0 &&& 1 = 0)) (some (some (.int 0), I, L))))) a1
set_option maxRecDepth 100000 in
theorem ok_X6_joins (N d : Nat) (a1 : Int32) (a2 : Int32) (I : PI) (L : PL) : MOk M_X6_joins (d) [.int a1, .int a2] I L (f_X6_joins N a1 a2 I L) := by
  refine MOk.of (by decide +kernel) (Nat.le_of_ble_eq_true rfl) ?_
  show EvW _ _ 0 [(0, .int a1), (1, .int a2)] [] I L _
  rw [f_X6_joins]
  refine ev_iload_n (pc := 0) 0 dX6_joins_0 rfl ?_
  refine ev_table (pc := 1) 70 (by decide) rfl dX6_joins_1 ⟨⟨28, by decide, ?_⟩, ⟨40, by decide, ?_⟩, ⟨52, by decide, ?_⟩, trivial⟩ ?_
  · refine ev_iload_n (pc := 28) 1 dX6_joins_28 rfl ?_
    refine ev_bipush (pc := 29) 124 k_bipush_124 dX6_joins_29 ?_
    refine ev_icmp_ne (pc := 31) 38 (by decide) dX6_joins_31 ?_ ?_
    · refine ev_iconst (pc := 38) 0 k_iconst_0 dX6_joins_38 ?_
      exact ev_zret (pc := 39) rfl dX6_joins_39
    · refine ev_iconst (pc := 34) 1 k_iconst_1 dX6_joins_34 ?_
      refine ev_goto (pc := 35) 39 (by decide) dX6_joins_35 ?_
      exact ev_zret (pc := 39) rfl dX6_joins_39
  · refine ev_iload_n (pc := 40) 1 dX6_joins_40 rfl ?_
    refine ev_bipush (pc := 41) 38 k_bipush_38 dX6_joins_41 ?_
    refine ev_icmp_ne (pc := 43) 50 (by decide) dX6_joins_43 ?_ ?_
    · refine ev_iconst (pc := 50) 0 k_iconst_0 dX6_joins_50 ?_
      exact ev_zret (pc := 51) rfl dX6_joins_51
    · refine ev_iconst (pc := 46) 1 k_iconst_1 dX6_joins_46 ?_
      refine ev_goto (pc := 47) 51 (by decide) dX6_joins_47 ?_
      exact ev_zret (pc := 51) rfl dX6_joins_51
  · refine ev_iload_n (pc := 52) 1 dX6_joins_52 rfl ?_
    refine ev_bipush (pc := 53) 43 k_bipush_43 dX6_joins_53 ?_
    refine ev_icmp_eq (pc := 55) 64 (by decide) dX6_joins_55 ?_ ?_
    · refine EvW.sub [] rfl ?_
      exact E_X6_joins_64 N d I L
    · refine ev_iload_n (pc := 58) 1 dX6_joins_58 rfl ?_
      refine ev_bipush (pc := 59) 45 k_bipush_45 dX6_joins_59 ?_
      refine ev_icmp_ne (pc := 61) 68 (by decide) dX6_joins_61 ?_ ?_
      · refine ev_iconst (pc := 68) 0 k_iconst_0 dX6_joins_68 ?_
        exact ev_zret (pc := 69) rfl dX6_joins_69
      · refine EvW.sub [] rfl ?_
        exact E_X6_joins_64 N d I L
  · refine ev_iload_n (pc := 70) 1 dX6_joins_70 rfl ?_
    refine ev_bipush (pc := 71) 42 k_bipush_42 dX6_joins_71 ?_
    refine ev_icmp_eq (pc := 73) 82 (by decide) dX6_joins_73 ?_ ?_
    · refine EvW.sub [] rfl ?_
      exact E_X6_joins_82 N d I L
    · refine ev_iload_n (pc := 76) 1 dX6_joins_76 rfl ?_
      refine ev_bipush (pc := 77) 47 k_bipush_47 dX6_joins_77 ?_
      refine ev_icmp_ne (pc := 79) 86 (by decide) dX6_joins_79 ?_ ?_
      · refine ev_iconst (pc := 86) 0 k_iconst_0 dX6_joins_86 ?_
        exact ev_zret (pc := 87) rfl dX6_joins_87
      · refine EvW.sub [] rfl ?_
        exact E_X6_joins_82 N d I L
def F_X6_chain_15 (N : Nat) (c_X6_atom : Int32 → PI → PL → RES) (c_X6_chain : Int32 → Int32 → Int32 → PI → PL → RES) (c_X6_part : Int32 → Int32 → Int32 → PI → PL → RES) (c_X6_unit : Int32 → Int32 → PI → PL → RES) : Nat → Int32 → Int32 → Int32 → PI → PL → RES
  | 0, _, _, _, _, _ => none
  | n + 1, v1, v2, v4, I, L => (if 120 ≤ v4 then gd (decide (1 &&& 1 = 1)) (some (some (.int 1), I, L)) else bI (f_X10_next N I L) (fun x4 I5 L6 => bI (f_X6_joins N v1 x4 I5 L6) (fun x7 I8 L9 => (if x7 = 0 then gd (decide (1 &&& 1 = 1)) (some (some (.int 1), I8, L9)) else bV (f_X10_step N I8 L9) (fun I11 L12 => bI (c_X6_part v1 v2 0 I11 L12) (fun x13 I14 L15 => (if x13 = 0 then gd (decide (0 &&& 1 = 0)) (some (some (.int 0), I14, L15)) else bV (f_X6_makeSign N x4 I14 L15) (fun I17 L18 => (F_X6_chain_15 N c_X6_atom c_X6_chain c_X6_part c_X6_unit n) v1 v2 (v4 + 1) I17 L18))))))))
set_option maxRecDepth 100000 in
theorem E_X6_chain_15 (N d : Nat) (c_X6_atom : Int32 → PI → PL → RES) (c_X6_chain : Int32 → Int32 → Int32 → PI → PL → RES) (c_X6_part : Int32 → Int32 → Int32 → PI → PL → RES) (c_X6_unit : Int32 → Int32 → PI → PL → RES) (hc_X6_atom : ∀ (a1 : Int32) (I : PI) (L : PL), MOk M_X6_atom (d + 3) [.ref 6, .int a1] I L (c_X6_atom a1 I L)) (hc_X6_chain : ∀ (a1 : Int32) (a2 : Int32) (a3 : Int32) (I : PI) (L : PL), MOk M_X6_chain (d + 3) [.ref 6, .int a1, .int a2, .int a3] I L (c_X6_chain a1 a2 a3 I L)) (hc_X6_part : ∀ (a1 : Int32) (a2 : Int32) (a3 : Int32) (I : PI) (L : PL), MOk M_X6_part (d + 3) [.ref 6, .int a1, .int a2, .int a3] I L (c_X6_part a1 a2 a3 I L)) (hc_X6_unit : ∀ (a1 : Int32) (a2 : Int32) (I : PI) (L : PL), MOk M_X6_unit (d + 3) [.ref 6, .int a1, .int a2] I L (c_X6_unit a1 a2 I L)) : ∀ (n : Nat) (v1 : Int32) (v2 : Int32) (v4 : Int32) (I : PI) (L : PL), EvW M_X6_chain (d + 4) 15 [(0, .ref 6), (1, .int v1), (2, .int v2), (4, .int v4)] [] I L (F_X6_chain_15 N c_X6_atom c_X6_chain c_X6_part c_X6_unit n v1 v2 v4 I L) := by
  intro n
  induction n with
  | zero =>
    intro v1 v2 v4 I L
    exact EvW.none
  | succ n hr_15 =>
    intro v1 v2 v4 I L
    rw [F_X6_chain_15]
    refine ev_iload (pc := 15) 3 dX6_chain_15 rfl ?_
    refine ev_bipush (pc := 17) 120 k_bipush_120 dX6_chain_17 ?_
    refine ev_icmp_ge (pc := 19) 73 (by decide) dX6_chain_19 ?_ ?_
    · refine ev_iconst (pc := 73) 1 k_iconst_1 dX6_chain_73 ?_
      exact ev_zret (pc := 74) rfl dX6_chain_74
    · refine ev_aload_n (pc := 22) 0 dX6_chain_22 rfl ?_
      refine gf_X6_9 (pc := 23) rfl dX6_chain_23 ?_
      refine ev_callVI (pc := 26) (d := d + 3) (As := []) (st := []) cv_X10_next rfl w_66 rfl (Nat.le_of_ble_eq_true rfl) (ok_X10_next N (d + 2) I L) dX6_chain_26 (fun x4 I5 L6 => ?_)
      refine ev_istore (pc := 29) (lv' := [(5, .int x4), (0, .ref 6), (1, .int v1), (2, .int v2), (4, .int v4)]) dX6_chain_29 rfl rfl ?_
      refine ev_iload_n (pc := 31) 2 dX6_chain_31 rfl ?_
      refine ev_iload (pc := 32) 0 dX6_chain_32 rfl ?_
      refine ev_callSI (pc := 34) (d := d + 3) (As := [.int v1, .int x4]) (st := []) cv_X6_joins rfl w_98 rfl (Nat.le_of_ble_eq_true rfl) (ok_X6_joins N (d + 3) v1 x4 I5 L6) dX6_chain_34 (fun x7 I8 L9 => ?_)
      refine ev_if_ne (pc := 37) 42 (by decide) dX6_chain_37 ?_ ?_
      · refine ev_aload_n (pc := 42) 1 dX6_chain_42 rfl ?_
        refine gf_X6_9 (pc := 43) rfl dX6_chain_43 ?_
        refine ev_callVV (pc := 46) (d := d + 3) (As := []) (st := []) cv_X10_step rfl w_68 rfl (Nat.le_of_ble_eq_true rfl) (ok_X10_step N (d + 3) I8 L9) dX6_chain_46 (fun I11 L12 => ?_)
        refine ev_aload_n (pc := 49) 1 dX6_chain_49 rfl ?_
        refine ev_iload_n (pc := 50) 2 dX6_chain_50 rfl ?_
        refine ev_iload_n (pc := 51) 3 dX6_chain_51 rfl ?_
        refine ev_iconst (pc := 52) 0 k_iconst_0 dX6_chain_52 ?_
        refine ev_callVI (pc := 53) (d := d + 3) (As := [.int v1, .int v2, .int 0]) (st := []) cv_X6_part rfl w_95 rfl (Nat.le_of_ble_eq_true rfl) (hc_X6_part v1 v2 0 I11 L12) dX6_chain_53 (fun x13 I14 L15 => ?_)
        refine ev_if_ne (pc := 56) 61 (by decide) dX6_chain_56 ?_ ?_
        · refine ev_aload_n (pc := 61) 1 dX6_chain_61 rfl ?_
          refine ev_iload (pc := 62) 0 dX6_chain_62 rfl ?_
          refine ev_callVV (pc := 64) (d := d + 3) (As := [.int x4]) (st := []) cv_X6_makeSign rfl w_78 rfl (Nat.le_of_ble_eq_true rfl) (ok_X6_makeSign N (d + 2) x4 I14 L15) dX6_chain_64 (fun I17 L18 => ?_)
          refine ev_iinc (pc := 67) (lv' := [(4, .int (v4 + 1)), (5, .int x4), (0, .ref 6), (1, .int v1), (2, .int v2)]) dX6_chain_67 4 rfl rfl 1 k_iconst_1 rfl ?_
          refine ev_goto (pc := 70) 15 (by decide) dX6_chain_70 ?_
          refine EvW.sub [2, 3, 4, 0] rfl ?_
          exact hr_15 v1 v2 (v4 + 1) I17 L18
        · refine ev_iconst (pc := 59) 0 k_iconst_0 dX6_chain_59 ?_
          exact ev_zret (pc := 60) rfl dX6_chain_60
      · refine ev_iconst (pc := 40) 1 k_iconst_1 dX6_chain_40 ?_
        exact ev_zret (pc := 41) rfl dX6_chain_41
def fo_X6_chain (N : Nat) (c_X6_atom : Int32 → PI → PL → RES) (c_X6_chain : Int32 → Int32 → Int32 → PI → PL → RES) (c_X6_part : Int32 → Int32 → Int32 → PI → PL → RES) (c_X6_unit : Int32 → Int32 → PI → PL → RES) (a1 : Int32) (a2 : Int32) (a3 : Int32) (I : PI) (L : PL) : RES := bI (c_X6_part a1 a2 a3 I L) (fun x1 I2 L3 => (if x1 = 0 then gd (decide (0 &&& 1 = 0)) (some (some (.int 0), I2, L3)) else F_X6_chain_15 N c_X6_atom c_X6_chain c_X6_part c_X6_unit N a1 a2 0 I2 L3))
set_option maxRecDepth 100000 in
theorem oo_X6_chain (N d : Nat) (c_X6_atom : Int32 → PI → PL → RES) (c_X6_chain : Int32 → Int32 → Int32 → PI → PL → RES) (c_X6_part : Int32 → Int32 → Int32 → PI → PL → RES) (c_X6_unit : Int32 → Int32 → PI → PL → RES) (hc_X6_atom : ∀ (a1 : Int32) (I : PI) (L : PL), MOk M_X6_atom (d + 3) [.ref 6, .int a1] I L (c_X6_atom a1 I L)) (hc_X6_chain : ∀ (a1 : Int32) (a2 : Int32) (a3 : Int32) (I : PI) (L : PL), MOk M_X6_chain (d + 3) [.ref 6, .int a1, .int a2, .int a3] I L (c_X6_chain a1 a2 a3 I L)) (hc_X6_part : ∀ (a1 : Int32) (a2 : Int32) (a3 : Int32) (I : PI) (L : PL), MOk M_X6_part (d + 3) [.ref 6, .int a1, .int a2, .int a3] I L (c_X6_part a1 a2 a3 I L)) (hc_X6_unit : ∀ (a1 : Int32) (a2 : Int32) (I : PI) (L : PL), MOk M_X6_unit (d + 3) [.ref 6, .int a1, .int a2] I L (c_X6_unit a1 a2 I L)) (a1 : Int32) (a2 : Int32) (a3 : Int32) (I : PI) (L : PL) : MOk M_X6_chain (d + 4) [.ref 6, .int a1, .int a2, .int a3] I L (fo_X6_chain N c_X6_atom c_X6_chain c_X6_part c_X6_unit a1 a2 a3 I L) := by
  refine MOk.of (by decide +kernel) (Nat.le_of_ble_eq_true rfl) ?_
  show EvW _ _ 0 [(0, .ref 6), (1, .int a1), (2, .int a2), (3, .int a3)] [] I L _
  rw [fo_X6_chain]
  refine ev_aload_n (pc := 0) 0 dX6_chain_0 rfl ?_
  refine ev_iload_n (pc := 1) 1 dX6_chain_1 rfl ?_
  refine ev_iload_n (pc := 2) 2 dX6_chain_2 rfl ?_
  refine ev_iload_n (pc := 3) 3 dX6_chain_3 rfl ?_
  refine ev_callVI (pc := 4) (d := d + 3) (As := [.int a1, .int a2, .int a3]) (st := []) cv_X6_part rfl w_95 rfl (Nat.le_of_ble_eq_true rfl) (hc_X6_part a1 a2 a3 I L) dX6_chain_4 (fun x1 I2 L3 => ?_)
  refine ev_if_ne (pc := 7) 12 (by decide) dX6_chain_7 ?_ ?_
  · refine ev_iconst (pc := 12) 0 k_iconst_0 dX6_chain_12 ?_
    refine ev_istore (pc := 13) (lv' := [(4, .int 0), (0, .ref 6), (1, .int a1), (2, .int a2), (3, .int a3)]) dX6_chain_13 rfl rfl ?_
    refine EvW.sub [1, 2, 3, 0] rfl ?_
    exact E_X6_chain_15 N d c_X6_atom c_X6_chain c_X6_part c_X6_unit hc_X6_atom hc_X6_chain hc_X6_part hc_X6_unit N a1 a2 0 I2 L3
  · refine ev_iconst (pc := 10) 0 k_iconst_0 dX6_chain_10 ?_
    exact ev_zret (pc := 11) rfl dX6_chain_11
def fo_X6_part (N : Nat) (c_X6_atom : Int32 → PI → PL → RES) (c_X6_chain : Int32 → Int32 → Int32 → PI → PL → RES) (c_X6_part : Int32 → Int32 → Int32 → PI → PL → RES) (c_X6_unit : Int32 → Int32 → PI → PL → RES) (a1 : Int32) (a2 : Int32) (a3 : Int32) (I : PI) (L : PL) : RES := swT 0 [bI (c_X6_chain 1 a2 a3 I L) (fun x4 I5 L6 => gd (decide (x4 &&& 1 = x4)) (some (some (.int x4), I5, L6))), bI (c_X6_unit a2 a3 I L) (fun x7 I8 L9 => gd (decide (x7 &&& 1 = x7)) (some (some (.int x7), I8, L9))), bI (c_X6_chain 3 a2 0 I L) (fun x10 I11 L12 => gd (decide (x10 &&& 1 = x10)) (some (some (.int x10), I11, L12)))] (bI (c_X6_atom a2 I L) (fun x1 I2 L3 => gd (decide (x1 &&& 1 = x1)) (some (some (.int x1), I2, L3)))) a1
set_option maxRecDepth 100000 in
theorem oo_X6_part (N d : Nat) (c_X6_atom : Int32 → PI → PL → RES) (c_X6_chain : Int32 → Int32 → Int32 → PI → PL → RES) (c_X6_part : Int32 → Int32 → Int32 → PI → PL → RES) (c_X6_unit : Int32 → Int32 → PI → PL → RES) (hc_X6_atom : ∀ (a1 : Int32) (I : PI) (L : PL), MOk M_X6_atom (d + 3) [.ref 6, .int a1] I L (c_X6_atom a1 I L)) (hc_X6_chain : ∀ (a1 : Int32) (a2 : Int32) (a3 : Int32) (I : PI) (L : PL), MOk M_X6_chain (d + 3) [.ref 6, .int a1, .int a2, .int a3] I L (c_X6_chain a1 a2 a3 I L)) (hc_X6_part : ∀ (a1 : Int32) (a2 : Int32) (a3 : Int32) (I : PI) (L : PL), MOk M_X6_part (d + 3) [.ref 6, .int a1, .int a2, .int a3] I L (c_X6_part a1 a2 a3 I L)) (hc_X6_unit : ∀ (a1 : Int32) (a2 : Int32) (I : PI) (L : PL), MOk M_X6_unit (d + 3) [.ref 6, .int a1, .int a2] I L (c_X6_unit a1 a2 I L)) (a1 : Int32) (a2 : Int32) (a3 : Int32) (I : PI) (L : PL) : MOk M_X6_part (d + 4) [.ref 6, .int a1, .int a2, .int a3] I L (fo_X6_part N c_X6_atom c_X6_chain c_X6_part c_X6_unit a1 a2 a3 I L) := by
  refine MOk.of (by decide +kernel) (Nat.le_of_ble_eq_true rfl) ?_
  show EvW _ _ 0 [(0, .ref 6), (1, .int a1), (2, .int a2), (3, .int a3)] [] I L _
  rw [fo_X6_part]
  refine ev_iload_n (pc := 0) 1 dX6_part_0 rfl ?_
  refine ev_table (pc := 1) 51 (by decide) rfl dX6_part_1 ⟨⟨28, by decide, ?_⟩, ⟨36, by decide, ?_⟩, ⟨43, by decide, ?_⟩, trivial⟩ ?_
  · refine ev_aload_n (pc := 28) 0 dX6_part_28 rfl ?_
    refine ev_iconst (pc := 29) 1 k_iconst_1 dX6_part_29 ?_
    refine ev_iload_n (pc := 30) 2 dX6_part_30 rfl ?_
    refine ev_iload_n (pc := 31) 3 dX6_part_31 rfl ?_
    refine ev_callVI (pc := 32) (d := d + 3) (As := [.int 1, .int a2, .int a3]) (st := []) cv_X6_chain rfl w_91 rfl (Nat.le_of_ble_eq_true rfl) (hc_X6_chain 1 a2 a3 I L) dX6_part_32 (fun x4 I5 L6 => ?_)
    exact ev_zret (pc := 35) rfl dX6_part_35
  · refine ev_aload_n (pc := 36) 0 dX6_part_36 rfl ?_
    refine ev_iload_n (pc := 37) 2 dX6_part_37 rfl ?_
    refine ev_iload_n (pc := 38) 3 dX6_part_38 rfl ?_
    refine ev_callVI (pc := 39) (d := d + 3) (As := [.int a2, .int a3]) (st := []) cv_X6_unit rfl w_106 rfl (Nat.le_of_ble_eq_true rfl) (hc_X6_unit a2 a3 I L) dX6_part_39 (fun x7 I8 L9 => ?_)
    exact ev_zret (pc := 42) rfl dX6_part_42
  · refine ev_aload_n (pc := 43) 0 dX6_part_43 rfl ?_
    refine ev_iconst (pc := 44) 3 k_iconst_3 dX6_part_44 ?_
    refine ev_iload_n (pc := 45) 2 dX6_part_45 rfl ?_
    refine ev_iconst (pc := 46) 0 k_iconst_0 dX6_part_46 ?_
    refine ev_callVI (pc := 47) (d := d + 3) (As := [.int 3, .int a2, .int 0]) (st := []) cv_X6_chain rfl w_91 rfl (Nat.le_of_ble_eq_true rfl) (hc_X6_chain 3 a2 0 I L) dX6_part_47 (fun x10 I11 L12 => ?_)
    exact ev_zret (pc := 50) rfl dX6_part_50
  · refine ev_aload_n (pc := 51) 0 dX6_part_51 rfl ?_
    refine ev_iload_n (pc := 52) 2 dX6_part_52 rfl ?_
    refine ev_callVI (pc := 53) (d := d + 3) (As := [.int a2]) (st := []) cv_X6_atom rfl w_102 rfl (Nat.le_of_ble_eq_true rfl) (hc_X6_atom a2 I L) dX6_part_53 (fun x1 I2 L3 => ?_)
    exact ev_zret (pc := 56) rfl dX6_part_56
def F_X6_compares_18 (N : Nat) (I : PI) (L : PL) : RES := gd (decide (1 &&& 1 = 1)) (some (some (.int 1), I, L))
set_option maxRecDepth 100000 in
theorem E_X6_compares_18 (N d : Nat) (I : PI) (L : PL) : EvW M_X6_compares (d) 18 [] [] I L (F_X6_compares_18 N I L) := by
  rw [F_X6_compares_18]
  refine ev_iconst (pc := 18) 1 k_iconst_1 dX6_compares_18 ?_
  refine ev_goto (pc := 19) 23 (by decide) dX6_compares_19 ?_
  exact ev_zret (pc := 23) rfl dX6_compares_23
def f_X6_compares (N : Nat) (a1 : Int32) (I : PI) (L : PL) : RES := (if a1 = 61 then F_X6_compares_18 N I L else (if a1 = 60 then F_X6_compares_18 N I L else (if a1 = 62 then F_X6_compares_18 N I L else gd (decide (0 &&& 1 = 0)) (some (some (.int 0), I, L)))))
set_option maxRecDepth 100000 in
theorem ok_X6_compares (N d : Nat) (a1 : Int32) (I : PI) (L : PL) : MOk M_X6_compares (d) [.int a1] I L (f_X6_compares N a1 I L) := by
  refine MOk.of (by decide +kernel) (Nat.le_of_ble_eq_true rfl) ?_
  show EvW _ _ 0 [(0, .int a1)] [] I L _
  rw [f_X6_compares]
  refine ev_iload_n (pc := 0) 0 dX6_compares_0 rfl ?_
  refine ev_bipush (pc := 1) 61 k_bipush_61 dX6_compares_1 ?_
  refine ev_icmp_eq (pc := 3) 18 (by decide) dX6_compares_3 ?_ ?_
  · refine EvW.sub [] rfl ?_
    exact E_X6_compares_18 N d I L
  · refine ev_iload_n (pc := 6) 0 dX6_compares_6 rfl ?_
    refine ev_bipush (pc := 7) 60 k_bipush_60 dX6_compares_7 ?_
    refine ev_icmp_eq (pc := 9) 18 (by decide) dX6_compares_9 ?_ ?_
    · refine EvW.sub [] rfl ?_
      exact E_X6_compares_18 N d I L
    · refine ev_iload_n (pc := 12) 0 dX6_compares_12 rfl ?_
      refine ev_bipush (pc := 13) 62 k_bipush_62 dX6_compares_13 ?_
      refine ev_icmp_ne (pc := 15) 22 (by decide) dX6_compares_15 ?_ ?_
      · refine ev_iconst (pc := 22) 0 k_iconst_0 dX6_compares_22 ?_
        exact ev_zret (pc := 23) rfl dX6_compares_23
      · refine EvW.sub [] rfl ?_
        exact E_X6_compares_18 N d I L
def F_X6_unit_111 (N : Nat) (c_X6_atom : Int32 → PI → PL → RES) (c_X6_chain : Int32 → Int32 → Int32 → PI → PL → RES) (c_X6_part : Int32 → Int32 → Int32 → PI → PL → RES) (c_X6_unit : Int32 → Int32 → PI → PL → RES) (v1 : Int32) (I : PI) (L : PL) : RES := bI (f_X10_next N I L) (fun x4 I5 L6 => bI (f_X6_compares N x4 I5 L6) (fun x7 I8 L9 => (if x7 = 0 then gd (decide (0 &&& 1 = 0)) (some (some (.int 0), I8, L9)) else bV (f_X10_step N I8 L9) (fun I11 L12 => bI (c_X6_chain 2 v1 0 I11 L12) (fun x13 I14 L15 => (if x13 = 0 then gd (decide (0 &&& 1 = 0)) (some (some (.int 0), I14, L15)) else bV (f_X6_makeSign N x4 I14 L15) (fun I17 L18 => gd (decide (1 &&& 1 = 1)) (some (some (.int 1), I17, L18)))))))))
set_option maxRecDepth 100000 in
theorem E_X6_unit_111 (N d : Nat) (c_X6_atom : Int32 → PI → PL → RES) (c_X6_chain : Int32 → Int32 → Int32 → PI → PL → RES) (c_X6_part : Int32 → Int32 → Int32 → PI → PL → RES) (c_X6_unit : Int32 → Int32 → PI → PL → RES) (hc_X6_atom : ∀ (a1 : Int32) (I : PI) (L : PL), MOk M_X6_atom (d + 3) [.ref 6, .int a1] I L (c_X6_atom a1 I L)) (hc_X6_chain : ∀ (a1 : Int32) (a2 : Int32) (a3 : Int32) (I : PI) (L : PL), MOk M_X6_chain (d + 3) [.ref 6, .int a1, .int a2, .int a3] I L (c_X6_chain a1 a2 a3 I L)) (hc_X6_part : ∀ (a1 : Int32) (a2 : Int32) (a3 : Int32) (I : PI) (L : PL), MOk M_X6_part (d + 3) [.ref 6, .int a1, .int a2, .int a3] I L (c_X6_part a1 a2 a3 I L)) (hc_X6_unit : ∀ (a1 : Int32) (a2 : Int32) (I : PI) (L : PL), MOk M_X6_unit (d + 3) [.ref 6, .int a1, .int a2] I L (c_X6_unit a1 a2 I L)) (v1 : Int32) (I : PI) (L : PL) : EvW M_X6_unit (d + 4) 111 [(0, .ref 6), (1, .int v1)] [] I L (F_X6_unit_111 N c_X6_atom c_X6_chain c_X6_part c_X6_unit v1 I L) := by
  rw [F_X6_unit_111]
  refine ev_aload_n (pc := 111) 0 dX6_unit_111 rfl ?_
  refine gf_X6_9 (pc := 112) rfl dX6_unit_112 ?_
  refine ev_callVI (pc := 115) (d := d + 3) (As := []) (st := []) cv_X10_next rfl w_66 rfl (Nat.le_of_ble_eq_true rfl) (ok_X10_next N (d + 2) I L) dX6_unit_115 (fun x4 I5 L6 => ?_)
  refine ev_istore (pc := 118) (lv' := [(4, .int x4), (0, .ref 6), (1, .int v1)]) dX6_unit_118 rfl rfl ?_
  refine ev_iload (pc := 120) 0 dX6_unit_120 rfl ?_
  refine ev_callSI (pc := 122) (d := d + 3) (As := [.int x4]) (st := []) cv_X6_compares rfl w_109 rfl (Nat.le_of_ble_eq_true rfl) (ok_X6_compares N (d + 3) x4 I5 L6) dX6_unit_122 (fun x7 I8 L9 => ?_)
  refine ev_if_ne (pc := 125) 130 (by decide) dX6_unit_125 ?_ ?_
  · refine ev_aload_n (pc := 130) 1 dX6_unit_130 rfl ?_
    refine gf_X6_9 (pc := 131) rfl dX6_unit_131 ?_
    refine ev_callVV (pc := 134) (d := d + 3) (As := []) (st := []) cv_X10_step rfl w_68 rfl (Nat.le_of_ble_eq_true rfl) (ok_X10_step N (d + 3) I8 L9) dX6_unit_134 (fun I11 L12 => ?_)
    refine ev_aload_n (pc := 137) 1 dX6_unit_137 rfl ?_
    refine ev_iconst (pc := 138) 2 k_iconst_2 dX6_unit_138 ?_
    refine ev_iload_n (pc := 139) 2 dX6_unit_139 rfl ?_
    refine ev_iconst (pc := 140) 0 k_iconst_0 dX6_unit_140 ?_
    refine ev_callVI (pc := 141) (d := d + 3) (As := [.int 2, .int v1, .int 0]) (st := []) cv_X6_chain rfl w_91 rfl (Nat.le_of_ble_eq_true rfl) (hc_X6_chain 2 v1 0 I11 L12) dX6_unit_141 (fun x13 I14 L15 => ?_)
    refine ev_if_ne (pc := 144) 149 (by decide) dX6_unit_144 ?_ ?_
    · refine ev_aload_n (pc := 149) 1 dX6_unit_149 rfl ?_
      refine ev_iload (pc := 150) 0 dX6_unit_150 rfl ?_
      refine ev_callVV (pc := 152) (d := d + 3) (As := [.int x4]) (st := []) cv_X6_makeSign rfl w_78 rfl (Nat.le_of_ble_eq_true rfl) (ok_X6_makeSign N (d + 2) x4 I14 L15) dX6_unit_152 (fun I17 L18 => ?_)
      refine ev_iconst (pc := 155) 1 k_iconst_1 dX6_unit_155 ?_
      exact ev_zret (pc := 156) rfl dX6_unit_156
    · refine ev_iconst (pc := 147) 0 k_iconst_0 dX6_unit_147 ?_
      exact ev_zret (pc := 148) rfl dX6_unit_148
  · refine ev_iconst (pc := 128) 0 k_iconst_0 dX6_unit_128 ?_
    exact ev_zret (pc := 129) rfl dX6_unit_129
def F_X6_unit_95 (N : Nat) (c_X6_atom : Int32 → PI → PL → RES) (c_X6_chain : Int32 → Int32 → Int32 → PI → PL → RES) (c_X6_part : Int32 → Int32 → Int32 → PI → PL → RES) (c_X6_unit : Int32 → Int32 → PI → PL → RES) (v1 : Int32) (v2 : Int32) (I : PI) (L : PL) : RES := (if v2 = 0 then bI (c_X6_chain 2 v1 0 I L) (fun x19 I20 L21 => (if x19 = 0 then gd (decide (0 &&& 1 = 0)) (some (some (.int 0), I20, L21)) else F_X6_unit_111 N c_X6_atom c_X6_chain c_X6_part c_X6_unit v1 I20 L21)) else F_X6_unit_111 N c_X6_atom c_X6_chain c_X6_part c_X6_unit v1 I L)
set_option maxRecDepth 100000 in
theorem E_X6_unit_95 (N d : Nat) (c_X6_atom : Int32 → PI → PL → RES) (c_X6_chain : Int32 → Int32 → Int32 → PI → PL → RES) (c_X6_part : Int32 → Int32 → Int32 → PI → PL → RES) (c_X6_unit : Int32 → Int32 → PI → PL → RES) (hc_X6_atom : ∀ (a1 : Int32) (I : PI) (L : PL), MOk M_X6_atom (d + 3) [.ref 6, .int a1] I L (c_X6_atom a1 I L)) (hc_X6_chain : ∀ (a1 : Int32) (a2 : Int32) (a3 : Int32) (I : PI) (L : PL), MOk M_X6_chain (d + 3) [.ref 6, .int a1, .int a2, .int a3] I L (c_X6_chain a1 a2 a3 I L)) (hc_X6_part : ∀ (a1 : Int32) (a2 : Int32) (a3 : Int32) (I : PI) (L : PL), MOk M_X6_part (d + 3) [.ref 6, .int a1, .int a2, .int a3] I L (c_X6_part a1 a2 a3 I L)) (hc_X6_unit : ∀ (a1 : Int32) (a2 : Int32) (I : PI) (L : PL), MOk M_X6_unit (d + 3) [.ref 6, .int a1, .int a2] I L (c_X6_unit a1 a2 I L)) (v1 : Int32) (v2 : Int32) (I : PI) (L : PL) : EvW M_X6_unit (d + 4) 95 [(0, .ref 6), (1, .int v1), (2, .int v2)] [] I L (F_X6_unit_95 N c_X6_atom c_X6_chain c_X6_part c_X6_unit v1 v2 I L) := by
  rw [F_X6_unit_95]
  refine ev_iload_n (pc := 95) 2 dX6_unit_95 rfl ?_
  refine ev_if_ne (pc := 96) 111 (by decide) dX6_unit_96 ?_ ?_
  · refine EvW.sub [0, 1] rfl ?_
    exact E_X6_unit_111 N d c_X6_atom c_X6_chain c_X6_part c_X6_unit hc_X6_atom hc_X6_chain hc_X6_part hc_X6_unit v1 I L
  · refine ev_aload_n (pc := 99) 0 dX6_unit_99 rfl ?_
    refine ev_iconst (pc := 100) 2 k_iconst_2 dX6_unit_100 ?_
    refine ev_iload_n (pc := 101) 1 dX6_unit_101 rfl ?_
    refine ev_iconst (pc := 102) 0 k_iconst_0 dX6_unit_102 ?_
    refine ev_callVI (pc := 103) (d := d + 3) (As := [.int 2, .int v1, .int 0]) (st := []) cv_X6_chain rfl w_91 rfl (Nat.le_of_ble_eq_true rfl) (hc_X6_chain 2 v1 0 I L) dX6_unit_103 (fun x19 I20 L21 => ?_)
    refine ev_if_ne (pc := 106) 111 (by decide) dX6_unit_106 ?_ ?_
    · refine EvW.sub [0, 1] rfl ?_
      exact E_X6_unit_111 N d c_X6_atom c_X6_chain c_X6_part c_X6_unit hc_X6_atom hc_X6_chain hc_X6_part hc_X6_unit v1 I20 L21
    · refine ev_iconst (pc := 109) 0 k_iconst_0 dX6_unit_109 ?_
      exact ev_zret (pc := 110) rfl dX6_unit_110
def F_X6_unit_47 (N : Nat) (c_X6_atom : Int32 → PI → PL → RES) (c_X6_chain : Int32 → Int32 → Int32 → PI → PL → RES) (c_X6_part : Int32 → Int32 → Int32 → PI → PL → RES) (c_X6_unit : Int32 → Int32 → PI → PL → RES) (v1 : Int32) (v2 : Int32) (v3 : Int32) (I : PI) (L : PL) : RES := (if v2 = 0 then (if v3 = 40 then bI (f_X6_goesDeeper N v1 I L) (fun x22 I23 L24 => (if x22 = 0 then gd (decide (0 &&& 1 = 0)) (some (some (.int 0), I23, L24)) else bI (c_X6_chain 0 (v1 + 1) 0 I23 L24) (fun x25 I26 L27 => (if x25 = 0 then gd (decide (0 &&& 1 = 0)) (some (some (.int 0), I26, L27)) else bI (f_X10_take N 41 I26 L27) (fun x28 I29 L30 => (if x28 = 0 then gd (decide (0 &&& 1 = 0)) (some (some (.int 0), I29, L30)) else gd (decide (1 &&& 1 = 1)) (some (some (.int 1), I29, L30)))))))) else F_X6_unit_95 N c_X6_atom c_X6_chain c_X6_part c_X6_unit v1 v2 I L) else F_X6_unit_95 N c_X6_atom c_X6_chain c_X6_part c_X6_unit v1 v2 I L)
set_option maxRecDepth 100000 in
theorem E_X6_unit_47 (N d : Nat) (c_X6_atom : Int32 → PI → PL → RES) (c_X6_chain : Int32 → Int32 → Int32 → PI → PL → RES) (c_X6_part : Int32 → Int32 → Int32 → PI → PL → RES) (c_X6_unit : Int32 → Int32 → PI → PL → RES) (hc_X6_atom : ∀ (a1 : Int32) (I : PI) (L : PL), MOk M_X6_atom (d + 3) [.ref 6, .int a1] I L (c_X6_atom a1 I L)) (hc_X6_chain : ∀ (a1 : Int32) (a2 : Int32) (a3 : Int32) (I : PI) (L : PL), MOk M_X6_chain (d + 3) [.ref 6, .int a1, .int a2, .int a3] I L (c_X6_chain a1 a2 a3 I L)) (hc_X6_part : ∀ (a1 : Int32) (a2 : Int32) (a3 : Int32) (I : PI) (L : PL), MOk M_X6_part (d + 3) [.ref 6, .int a1, .int a2, .int a3] I L (c_X6_part a1 a2 a3 I L)) (hc_X6_unit : ∀ (a1 : Int32) (a2 : Int32) (I : PI) (L : PL), MOk M_X6_unit (d + 3) [.ref 6, .int a1, .int a2] I L (c_X6_unit a1 a2 I L)) (v1 : Int32) (v2 : Int32) (v3 : Int32) (I : PI) (L : PL) : EvW M_X6_unit (d + 4) 47 [(0, .ref 6), (1, .int v1), (2, .int v2), (3, .int v3)] [] I L (F_X6_unit_47 N c_X6_atom c_X6_chain c_X6_part c_X6_unit v1 v2 v3 I L) := by
  rw [F_X6_unit_47]
  refine ev_iload_n (pc := 47) 2 dX6_unit_47 rfl ?_
  refine ev_if_ne (pc := 48) 95 (by decide) dX6_unit_48 ?_ ?_
  · refine EvW.sub [0, 1, 2] rfl ?_
    exact E_X6_unit_95 N d c_X6_atom c_X6_chain c_X6_part c_X6_unit hc_X6_atom hc_X6_chain hc_X6_part hc_X6_unit v1 v2 I L
  · refine ev_iload_n (pc := 51) 3 dX6_unit_51 rfl ?_
    refine ev_bipush (pc := 52) 40 k_bipush_40 dX6_unit_52 ?_
    refine ev_icmp_ne (pc := 54) 95 (by decide) dX6_unit_54 ?_ ?_
    · refine EvW.sub [0, 1, 2] rfl ?_
      exact E_X6_unit_95 N d c_X6_atom c_X6_chain c_X6_part c_X6_unit hc_X6_atom hc_X6_chain hc_X6_part hc_X6_unit v1 v2 I L
    · refine ev_aload_n (pc := 57) 0 dX6_unit_57 rfl ?_
      refine ev_iload_n (pc := 58) 1 dX6_unit_58 rfl ?_
      refine ev_callVI (pc := 59) (d := d + 3) (As := [.int v1]) (st := []) cv_X6_goesDeeper rfl w_87 rfl (Nat.le_of_ble_eq_true rfl) (ok_X6_goesDeeper N (d + 2) v1 I L) dX6_unit_59 (fun x22 I23 L24 => ?_)
      refine ev_if_eq (pc := 62) 93 (by decide) dX6_unit_62 ?_ ?_
      · refine ev_iconst (pc := 93) 0 k_iconst_0 dX6_unit_93 ?_
        exact ev_zret (pc := 94) rfl dX6_unit_94
      · refine ev_aload_n (pc := 65) 0 dX6_unit_65 rfl ?_
        refine ev_iconst (pc := 66) 0 k_iconst_0 dX6_unit_66 ?_
        refine ev_iload_n (pc := 67) 1 dX6_unit_67 rfl ?_
        refine ev_iconst (pc := 68) 1 k_iconst_1 dX6_unit_68 ?_
        refine ev_iadd (pc := 69) dX6_unit_69 ?_
        refine ev_iconst (pc := 70) 0 k_iconst_0 dX6_unit_70 ?_
        refine ev_callVI (pc := 71) (d := d + 3) (As := [.int 0, .int (v1 + 1), .int 0]) (st := []) cv_X6_chain rfl w_91 rfl (Nat.le_of_ble_eq_true rfl) (hc_X6_chain 0 (v1 + 1) 0 I23 L24) dX6_unit_71 (fun x25 I26 L27 => ?_)
        refine ev_if_eq (pc := 74) 93 (by decide) dX6_unit_74 ?_ ?_
        · refine ev_iconst (pc := 93) 0 k_iconst_0 dX6_unit_93 ?_
          exact ev_zret (pc := 94) rfl dX6_unit_94
        · refine ev_aload_n (pc := 77) 0 dX6_unit_77 rfl ?_
          refine gf_X6_9 (pc := 78) rfl dX6_unit_78 ?_
          refine ev_bipush (pc := 81) 41 k_bipush_41 dX6_unit_81 ?_
          refine ev_callVI (pc := 83) (d := d + 3) (As := [.int 41]) (st := []) cv_X10_take rfl w_67 rfl (Nat.le_of_ble_eq_true rfl) (ok_X10_take N (d + 1) 41 I26 L27) dX6_unit_83 (fun x28 I29 L30 => ?_)
          refine ev_if_eq (pc := 86) 93 (by decide) dX6_unit_86 ?_ ?_
          · refine ev_iconst (pc := 93) 0 k_iconst_0 dX6_unit_93 ?_
            exact ev_zret (pc := 94) rfl dX6_unit_94
          · refine ev_iconst (pc := 89) 1 k_iconst_1 dX6_unit_89 ?_
            refine ev_goto (pc := 90) 94 (by decide) dX6_unit_90 ?_
            exact ev_zret (pc := 94) rfl dX6_unit_94
def fo_X6_unit (N : Nat) (c_X6_atom : Int32 → PI → PL → RES) (c_X6_chain : Int32 → Int32 → Int32 → PI → PL → RES) (c_X6_part : Int32 → Int32 → Int32 → PI → PL → RES) (c_X6_unit : Int32 → Int32 → PI → PL → RES) (a1 : Int32) (a2 : Int32) (I : PI) (L : PL) : RES := bI (f_X10_next N I L) (fun x1 I2 L3 => (if a2 = 0 then (if x1 = 33 then bI (f_X6_goesDeeper N a1 I2 L3) (fun x31 I32 L33 => (if x31 = 0 then gd (decide (0 &&& 1 = 0)) (some (some (.int 0), I32, L33)) else bI (c_X6_unit (a1 + 1) 0 I32 L33) (fun x34 I35 L36 => (if x34 = 0 then gd (decide (0 &&& 1 = 0)) (some (some (.int 0), I35, L36)) else bV (f_X6_makeSign N 33 I35 L36) (fun I38 L39 => gd (decide (1 &&& 1 = 1)) (some (some (.int 1), I38, L39))))))) else F_X6_unit_47 N c_X6_atom c_X6_chain c_X6_part c_X6_unit a1 a2 x1 I2 L3) else F_X6_unit_47 N c_X6_atom c_X6_chain c_X6_part c_X6_unit a1 a2 x1 I2 L3))
set_option maxRecDepth 100000 in
theorem oo_X6_unit (N d : Nat) (c_X6_atom : Int32 → PI → PL → RES) (c_X6_chain : Int32 → Int32 → Int32 → PI → PL → RES) (c_X6_part : Int32 → Int32 → Int32 → PI → PL → RES) (c_X6_unit : Int32 → Int32 → PI → PL → RES) (hc_X6_atom : ∀ (a1 : Int32) (I : PI) (L : PL), MOk M_X6_atom (d + 3) [.ref 6, .int a1] I L (c_X6_atom a1 I L)) (hc_X6_chain : ∀ (a1 : Int32) (a2 : Int32) (a3 : Int32) (I : PI) (L : PL), MOk M_X6_chain (d + 3) [.ref 6, .int a1, .int a2, .int a3] I L (c_X6_chain a1 a2 a3 I L)) (hc_X6_part : ∀ (a1 : Int32) (a2 : Int32) (a3 : Int32) (I : PI) (L : PL), MOk M_X6_part (d + 3) [.ref 6, .int a1, .int a2, .int a3] I L (c_X6_part a1 a2 a3 I L)) (hc_X6_unit : ∀ (a1 : Int32) (a2 : Int32) (I : PI) (L : PL), MOk M_X6_unit (d + 3) [.ref 6, .int a1, .int a2] I L (c_X6_unit a1 a2 I L)) (a1 : Int32) (a2 : Int32) (I : PI) (L : PL) : MOk M_X6_unit (d + 4) [.ref 6, .int a1, .int a2] I L (fo_X6_unit N c_X6_atom c_X6_chain c_X6_part c_X6_unit a1 a2 I L) := by
  refine MOk.of (by decide +kernel) (Nat.le_of_ble_eq_true rfl) ?_
  show EvW _ _ 0 [(0, .ref 6), (1, .int a1), (2, .int a2)] [] I L _
  rw [fo_X6_unit]
  refine ev_aload_n (pc := 0) 0 dX6_unit_0 rfl ?_
  refine gf_X6_9 (pc := 1) rfl dX6_unit_1 ?_
  refine ev_callVI (pc := 4) (d := d + 3) (As := []) (st := []) cv_X10_next rfl w_66 rfl (Nat.le_of_ble_eq_true rfl) (ok_X10_next N (d + 2) I L) dX6_unit_4 (fun x1 I2 L3 => ?_)
  refine ev_istore_n (pc := 7) (lv' := [(3, .int x1), (0, .ref 6), (1, .int a1), (2, .int a2)]) dX6_unit_7 rfl rfl rfl ?_
  refine ev_iload_n (pc := 8) 3 dX6_unit_8 rfl ?_
  refine ev_if_ne (pc := 9) 47 (by decide) dX6_unit_9 ?_ ?_
  · refine EvW.sub [1, 2, 3, 0] rfl ?_
    exact E_X6_unit_47 N d c_X6_atom c_X6_chain c_X6_part c_X6_unit hc_X6_atom hc_X6_chain hc_X6_part hc_X6_unit a1 a2 x1 I2 L3
  · refine ev_iload_n (pc := 12) 0 dX6_unit_12 rfl ?_
    refine ev_bipush (pc := 13) 33 k_bipush_33 dX6_unit_13 ?_
    refine ev_icmp_ne (pc := 15) 47 (by decide) dX6_unit_15 ?_ ?_
    · refine EvW.sub [1, 2, 3, 0] rfl ?_
      exact E_X6_unit_47 N d c_X6_atom c_X6_chain c_X6_part c_X6_unit hc_X6_atom hc_X6_chain hc_X6_part hc_X6_unit a1 a2 x1 I2 L3
    · refine ev_aload_n (pc := 18) 1 dX6_unit_18 rfl ?_
      refine ev_iload_n (pc := 19) 2 dX6_unit_19 rfl ?_
      refine ev_callVI (pc := 20) (d := d + 3) (As := [.int a1]) (st := []) cv_X6_goesDeeper rfl w_87 rfl (Nat.le_of_ble_eq_true rfl) (ok_X6_goesDeeper N (d + 2) a1 I2 L3) dX6_unit_20 (fun x31 I32 L33 => ?_)
      refine ev_if_eq (pc := 23) 37 (by decide) dX6_unit_23 ?_ ?_
      · refine ev_iconst (pc := 37) 0 k_iconst_0 dX6_unit_37 ?_
        exact ev_zret (pc := 38) rfl dX6_unit_38
      · refine ev_aload_n (pc := 26) 1 dX6_unit_26 rfl ?_
        refine ev_iload_n (pc := 27) 2 dX6_unit_27 rfl ?_
        refine ev_iconst (pc := 28) 1 k_iconst_1 dX6_unit_28 ?_
        refine ev_iadd (pc := 29) dX6_unit_29 ?_
        refine ev_iconst (pc := 30) 0 k_iconst_0 dX6_unit_30 ?_
        refine ev_callVI (pc := 31) (d := d + 3) (As := [.int (a1 + 1), .int 0]) (st := []) cv_X6_unit rfl w_106 rfl (Nat.le_of_ble_eq_true rfl) (hc_X6_unit (a1 + 1) 0 I32 L33) dX6_unit_31 (fun x34 I35 L36 => ?_)
        refine ev_if_ne (pc := 34) 39 (by decide) dX6_unit_34 ?_ ?_
        · refine ev_aload_n (pc := 39) 1 dX6_unit_39 rfl ?_
          refine ev_bipush (pc := 40) 33 k_bipush_33 dX6_unit_40 ?_
          refine ev_callVV (pc := 42) (d := d + 3) (As := [.int 33]) (st := []) cv_X6_makeSign rfl w_78 rfl (Nat.le_of_ble_eq_true rfl) (ok_X6_makeSign N (d + 2) 33 I35 L36) dX6_unit_42 (fun I38 L39 => ?_)
          refine ev_iconst (pc := 45) 1 k_iconst_1 dX6_unit_45 ?_
          exact ev_zret (pc := 46) rfl dX6_unit_46
        · refine ev_iconst (pc := 37) 0 k_iconst_0 dX6_unit_37 ?_
          exact ev_zret (pc := 38) rfl dX6_unit_38
def grp_X6_atom (N : Nat) : Nat → (Int32 → PI → PL → RES) × (Int32 → Int32 → Int32 → PI → PL → RES) × (Int32 → Int32 → Int32 → PI → PL → RES) × (Int32 → Int32 → PI → PL → RES)
  | 0 => (fun _ _ _ => none, fun _ _ _ _ _ => none, fun _ _ _ _ _ => none, fun _ _ _ _ => none)
  | n + 1 => (fo_X6_atom N ((grp_X6_atom N n).1) ((grp_X6_atom N n).2.1) ((grp_X6_atom N n).2.2.1) ((grp_X6_atom N n).2.2.2), fo_X6_chain N ((grp_X6_atom N n).1) ((grp_X6_atom N n).2.1) ((grp_X6_atom N n).2.2.1) ((grp_X6_atom N n).2.2.2), fo_X6_part N ((grp_X6_atom N n).1) ((grp_X6_atom N n).2.1) ((grp_X6_atom N n).2.2.1) ((grp_X6_atom N n).2.2.2), fo_X6_unit N ((grp_X6_atom N n).1) ((grp_X6_atom N n).2.1) ((grp_X6_atom N n).2.2.1) ((grp_X6_atom N n).2.2.2))
theorem MOk_none_grp_X6_atom {μ : MI} {d : Nat} {As : List Value} {I : PI} {L : PL} : MOk μ d As I L none := by
  intro v I9 L9 h
  cases h
theorem ok_grp_X6_atom (N d : Nat) : ∀ n : Nat, (∀ (a1 : Int32) (I : PI) (L : PL), MOk M_X6_atom (d + n + 3) [.ref 6, .int a1] I L (((grp_X6_atom N n).1) a1 I L)) ∧ (∀ (a1 : Int32) (a2 : Int32) (a3 : Int32) (I : PI) (L : PL), MOk M_X6_chain (d + n + 3) [.ref 6, .int a1, .int a2, .int a3] I L (((grp_X6_atom N n).2.1) a1 a2 a3 I L)) ∧ (∀ (a1 : Int32) (a2 : Int32) (a3 : Int32) (I : PI) (L : PL), MOk M_X6_part (d + n + 3) [.ref 6, .int a1, .int a2, .int a3] I L (((grp_X6_atom N n).2.2.1) a1 a2 a3 I L)) ∧ (∀ (a1 : Int32) (a2 : Int32) (I : PI) (L : PL), MOk M_X6_unit (d + n + 3) [.ref 6, .int a1, .int a2] I L (((grp_X6_atom N n).2.2.2) a1 a2 I L))
  | 0 => ⟨fun _ _ _ => MOk_none_grp_X6_atom, fun _ _ _ _ _ => MOk_none_grp_X6_atom, fun _ _ _ _ _ => MOk_none_grp_X6_atom, fun _ _ _ _ => MOk_none_grp_X6_atom⟩
  | n + 1 => by
    obtain ⟨h0, h1, h2, h3⟩ := ok_grp_X6_atom N d n
    exact ⟨oo_X6_atom N (d + n) ((grp_X6_atom N n).1) ((grp_X6_atom N n).2.1) ((grp_X6_atom N n).2.2.1) ((grp_X6_atom N n).2.2.2) h0 h1 h2 h3, oo_X6_chain N (d + n) ((grp_X6_atom N n).1) ((grp_X6_atom N n).2.1) ((grp_X6_atom N n).2.2.1) ((grp_X6_atom N n).2.2.2) h0 h1 h2 h3, oo_X6_part N (d + n) ((grp_X6_atom N n).1) ((grp_X6_atom N n).2.1) ((grp_X6_atom N n).2.2.1) ((grp_X6_atom N n).2.2.2) h0 h1 h2 h3, oo_X6_unit N (d + n) ((grp_X6_atom N n).1) ((grp_X6_atom N n).2.1) ((grp_X6_atom N n).2.2.1) ((grp_X6_atom N n).2.2.2) h0 h1 h2 h3⟩
def f_X6_atom (N : Nat) (a1 : Int32) (I : PI) (L : PL) : RES := ((grp_X6_atom N 100).1) a1 I L
theorem ok_X6_atom (N d : Nat) (a1 : Int32) (I : PI) (L : PL) : MOk M_X6_atom (d + 103) [.ref 6, .int a1] I L (f_X6_atom N a1 I L) := ((ok_grp_X6_atom N d 100).1) a1 I L
def f_X6_chain (N : Nat) (a1 : Int32) (a2 : Int32) (a3 : Int32) (I : PI) (L : PL) : RES := ((grp_X6_atom N 100).2.1) a1 a2 a3 I L
theorem ok_X6_chain (N d : Nat) (a1 : Int32) (a2 : Int32) (a3 : Int32) (I : PI) (L : PL) : MOk M_X6_chain (d + 103) [.ref 6, .int a1, .int a2, .int a3] I L (f_X6_chain N a1 a2 a3 I L) := ((ok_grp_X6_atom N d 100).2.1) a1 a2 a3 I L
def f_X6_part (N : Nat) (a1 : Int32) (a2 : Int32) (a3 : Int32) (I : PI) (L : PL) : RES := ((grp_X6_atom N 100).2.2.1) a1 a2 a3 I L
theorem ok_X6_part (N d : Nat) (a1 : Int32) (a2 : Int32) (a3 : Int32) (I : PI) (L : PL) : MOk M_X6_part (d + 103) [.ref 6, .int a1, .int a2, .int a3] I L (f_X6_part N a1 a2 a3 I L) := ((ok_grp_X6_atom N d 100).2.2.1) a1 a2 a3 I L
def f_X6_unit (N : Nat) (a1 : Int32) (a2 : Int32) (I : PI) (L : PL) : RES := ((grp_X6_atom N 100).2.2.2) a1 a2 I L
theorem ok_X6_unit (N d : Nat) (a1 : Int32) (a2 : Int32) (I : PI) (L : PL) : MOk M_X6_unit (d + 103) [.ref 6, .int a1, .int a2] I L (f_X6_unit N a1 a2 I L) := ((ok_grp_X6_atom N d 100).2.2.2) a1 a2 I L
def F_X6_clause_105 (N : Nat) (s0 : Int32) (s1 : Int32) (s2 : Int32) (I : PI) (L : PL) : RES := bI (f_X6_chain N s2 s1 s0 I L) (fun x10 I11 L12 => (if x10 = 0 then gd (decide (0 &&& 1 = 0)) (some (some (.int 0), I11, L12)) else bI (f_X10_take N 63 I11 L12) (fun x13 I14 L15 => (if x13 = 0 then gd (decide (0 &&& 1 = 0)) (some (some (.int 0), I14, L15)) else bI (f_X6_chain N 2 0 0 I14 L15) (fun x16 I17 L18 => (if x16 = 0 then gd (decide (0 &&& 1 = 0)) (some (some (.int 0), I17, L18)) else bV (f_X6_makeSign N 63 I17 L18) (fun I20 L21 => gd (decide (1 &&& 1 = 1)) (some (some (.int 1), I20, L21)))))))))
set_option maxRecDepth 100000 in
theorem E_X6_clause_105 (N d : Nat) (s0 : Int32) (s1 : Int32) (s2 : Int32) (I : PI) (L : PL) : EvW M_X6_clause (d + 104) 105 [(0, .ref 6)] [.int s0, .int s1, .int s2, .ref 6] I L (F_X6_clause_105 N s0 s1 s2 I L) := by
  rw [F_X6_clause_105]
  refine ev_callVI (pc := 105) (d := d + 103) (As := [.int s2, .int s1, .int s0]) (st := []) cv_X6_chain rfl w_91 rfl (Nat.le_of_ble_eq_true rfl) (ok_X6_chain N (d) s2 s1 s0 I L) dX6_clause_105 (fun x10 I11 L12 => ?_)
  refine ev_if_eq (pc := 108) 133 (by decide) dX6_clause_108 ?_ ?_
  · refine ev_iconst (pc := 133) 0 k_iconst_0 dX6_clause_133 ?_
    exact ev_zret (pc := 134) rfl dX6_clause_134
  · refine ev_aload_n (pc := 111) 0 dX6_clause_111 rfl ?_
    refine gf_X6_9 (pc := 112) rfl dX6_clause_112 ?_
    refine ev_bipush (pc := 115) 63 k_bipush_63 dX6_clause_115 ?_
    refine ev_callVI (pc := 117) (d := d + 103) (As := [.int 63]) (st := []) cv_X10_take rfl w_67 rfl (Nat.le_of_ble_eq_true rfl) (ok_X10_take N (d + 101) 63 I11 L12) dX6_clause_117 (fun x13 I14 L15 => ?_)
    refine ev_if_eq (pc := 120) 133 (by decide) dX6_clause_120 ?_ ?_
    · refine ev_iconst (pc := 133) 0 k_iconst_0 dX6_clause_133 ?_
      exact ev_zret (pc := 134) rfl dX6_clause_134
    · refine ev_aload_n (pc := 123) 0 dX6_clause_123 rfl ?_
      refine ev_iconst (pc := 124) 2 k_iconst_2 dX6_clause_124 ?_
      refine ev_iconst (pc := 125) 0 k_iconst_0 dX6_clause_125 ?_
      refine ev_iconst (pc := 126) 0 k_iconst_0 dX6_clause_126 ?_
      refine ev_callVI (pc := 127) (d := d + 103) (As := [.int 2, .int 0, .int 0]) (st := []) cv_X6_chain rfl w_91 rfl (Nat.le_of_ble_eq_true rfl) (ok_X6_chain N (d) 2 0 0 I14 L15) dX6_clause_127 (fun x16 I17 L18 => ?_)
      refine ev_if_ne (pc := 130) 135 (by decide) dX6_clause_130 ?_ ?_
      · refine ev_aload_n (pc := 135) 0 dX6_clause_135 rfl ?_
        refine ev_bipush (pc := 136) 63 k_bipush_63 dX6_clause_136 ?_
        refine ev_callVV (pc := 138) (d := d + 103) (As := [.int 63]) (st := []) cv_X6_makeSign rfl w_78 rfl (Nat.le_of_ble_eq_true rfl) (ok_X6_makeSign N (d + 102) 63 I17 L18) dX6_clause_138 (fun I20 L21 => ?_)
        refine ev_iconst (pc := 141) 1 k_iconst_1 dX6_clause_141 ?_
        exact ev_zret (pc := 142) rfl dX6_clause_142
      · refine ev_iconst (pc := 133) 0 k_iconst_0 dX6_clause_133 ?_
        exact ev_zret (pc := 134) rfl dX6_clause_134
def F_X6_clause_93 (N : Nat) (v1 : Int32) (I : PI) (L : PL) : RES := (if v1 = 0 then F_X6_clause_105 N 1 0 0 I L else F_X6_clause_105 N 0 0 0 I L)
set_option maxRecDepth 100000 in
theorem E_X6_clause_93 (N d : Nat) (v1 : Int32) (I : PI) (L : PL) : EvW M_X6_clause (d + 104) 93 [(0, .ref 6), (1, .int v1)] [] I L (F_X6_clause_93 N v1 I L) := by
  rw [F_X6_clause_93]
  refine ev_aload_n (pc := 93) 0 dX6_clause_93 rfl ?_
  refine ev_iconst (pc := 94) 0 k_iconst_0 dX6_clause_94 ?_
  refine ev_iconst (pc := 95) 0 k_iconst_0 dX6_clause_95 ?_
  refine ev_iload_n (pc := 96) 1 dX6_clause_96 rfl ?_
  refine ev_if_ne (pc := 97) 104 (by decide) dX6_clause_97 ?_ ?_
  · refine ev_iconst (pc := 104) 0 k_iconst_0 dX6_clause_104 ?_
    refine EvW.sub [0] rfl ?_
    exact E_X6_clause_105 N d 0 0 0 I L
  · refine ev_iconst (pc := 100) 1 k_iconst_1 dX6_clause_100 ?_
    refine ev_goto (pc := 101) 105 (by decide) dX6_clause_101 ?_
    refine EvW.sub [0] rfl ?_
    exact E_X6_clause_105 N d 1 0 0 I L
def F_X6_clause_55 (N : Nat) (s0 : Int32) (I : PI) (L : PL) : RES := (if s0 = 0 then bI (f_X6_chain N 2 0 0 I L) (fun x22 I23 L24 => (if x22 = 0 then gd (decide (0 &&& 1 = 0)) (some (some (.int 0), I23, L24)) else bI (f_X10_next N I23 L24) (fun x25 I26 L27 => bI (f_X6_compares N x25 I26 L27) (fun x28 I29 L30 => (if x28 = 0 then bV (f_X6_makeSign N 121 I29 L30) (fun I32 L33 => gd (decide (1 &&& 1 = 1)) (some (some (.int 1), I32, L33))) else F_X6_clause_93 N s0 I29 L30))))) else F_X6_clause_93 N s0 I L)
set_option maxRecDepth 100000 in
theorem E_X6_clause_55 (N d : Nat) (s0 : Int32) (I : PI) (L : PL) : EvW M_X6_clause (d + 104) 55 [(0, .ref 6)] [.int s0] I L (F_X6_clause_55 N s0 I L) := by
  rw [F_X6_clause_55]
  refine ev_istore_n (pc := 55) (lv' := [(1, .int s0), (0, .ref 6)]) dX6_clause_55 rfl rfl rfl ?_
  refine ev_iload_n (pc := 56) 0 dX6_clause_56 rfl ?_
  refine ev_if_ne (pc := 57) 93 (by decide) dX6_clause_57 ?_ ?_
  · refine EvW.sub [1, 0] rfl ?_
    exact E_X6_clause_93 N d s0 I L
  · refine ev_aload_n (pc := 60) 1 dX6_clause_60 rfl ?_
    refine ev_iconst (pc := 61) 2 k_iconst_2 dX6_clause_61 ?_
    refine ev_iconst (pc := 62) 0 k_iconst_0 dX6_clause_62 ?_
    refine ev_iconst (pc := 63) 0 k_iconst_0 dX6_clause_63 ?_
    refine ev_callVI (pc := 64) (d := d + 103) (As := [.int 2, .int 0, .int 0]) (st := []) cv_X6_chain rfl w_91 rfl (Nat.le_of_ble_eq_true rfl) (ok_X6_chain N (d) 2 0 0 I L) dX6_clause_64 (fun x22 I23 L24 => ?_)
    refine ev_if_ne (pc := 67) 72 (by decide) dX6_clause_67 ?_ ?_
    · refine ev_aload_n (pc := 72) 1 dX6_clause_72 rfl ?_
      refine gf_X6_9 (pc := 73) rfl dX6_clause_73 ?_
      refine ev_callVI (pc := 76) (d := d + 103) (As := []) (st := []) cv_X10_next rfl w_66 rfl (Nat.le_of_ble_eq_true rfl) (ok_X10_next N (d + 102) I23 L24) dX6_clause_76 (fun x25 I26 L27 => ?_)
      refine ev_callSI (pc := 79) (d := d + 103) (As := [.int x25]) (st := []) cv_X6_compares rfl w_109 rfl (Nat.le_of_ble_eq_true rfl) (ok_X6_compares N (d + 103) x25 I26 L27) dX6_clause_79 (fun x28 I29 L30 => ?_)
      refine ev_if_ne (pc := 82) 93 (by decide) dX6_clause_82 ?_ ?_
      · refine EvW.sub [1, 0] rfl ?_
        exact E_X6_clause_93 N d s0 I29 L30
      · refine ev_aload_n (pc := 85) 1 dX6_clause_85 rfl ?_
        refine ev_bipush (pc := 86) 121 k_bipush_121 dX6_clause_86 ?_
        refine ev_callVV (pc := 88) (d := d + 103) (As := [.int 121]) (st := []) cv_X6_makeSign rfl w_78 rfl (Nat.le_of_ble_eq_true rfl) (ok_X6_makeSign N (d + 102) 121 I29 L30) dX6_clause_88 (fun I32 L33 => ?_)
        refine ev_iconst (pc := 91) 1 k_iconst_1 dX6_clause_91 ?_
        exact ev_zret (pc := 92) rfl dX6_clause_92
    · refine ev_iconst (pc := 70) 0 k_iconst_0 dX6_clause_70 ?_
      exact ev_zret (pc := 71) rfl dX6_clause_71
def F_X6_clause_50 (N : Nat) (I : PI) (L : PL) : RES := F_X6_clause_55 N 1 I L
set_option maxRecDepth 100000 in
theorem E_X6_clause_50 (N d : Nat) (I : PI) (L : PL) : EvW M_X6_clause (d + 104) 50 [(0, .ref 6)] [] I L (F_X6_clause_50 N I L) := by
  rw [F_X6_clause_50]
  refine ev_iconst (pc := 50) 1 k_iconst_1 dX6_clause_50 ?_
  refine ev_goto (pc := 51) 55 (by decide) dX6_clause_51 ?_
  exact E_X6_clause_55 N d 1 I L
def f_X6_clause (N : Nat) (I : PI) (L : PL) : RES := bI (f_X10_take N 121 I L) (fun x1 I2 L3 => (if x1 = 0 then gd (decide (0 &&& 1 = 0)) (some (some (.int 0), I2, L3)) else bI (f_X10_take N 58 I2 L3) (fun x4 I5 L6 => (if x4 = 0 then gd (decide (0 &&& 1 = 0)) (some (some (.int 0), I5, L6)) else bI (f_X10_next N I5 L6) (fun x7 I8 L9 => (if x7 = 33 then F_X6_clause_50 N I8 L9 else bI (f_X10_next N I8 L9) (fun x34 I35 L36 => (if x34 = 40 then F_X6_clause_50 N I35 L36 else F_X6_clause_55 N 0 I35 L36))))))))
set_option maxRecDepth 100000 in
theorem ok_X6_clause (N d : Nat) (I : PI) (L : PL) : MOk M_X6_clause (d + 104) [.ref 6] I L (f_X6_clause N I L) := by
  refine MOk.of (by decide +kernel) (Nat.le_of_ble_eq_true rfl) ?_
  show EvW _ _ 0 [(0, .ref 6)] [] I L _
  rw [f_X6_clause]
  refine ev_aload_n (pc := 0) 0 dX6_clause_0 rfl ?_
  refine gf_X6_9 (pc := 1) rfl dX6_clause_1 ?_
  refine ev_bipush (pc := 4) 121 k_bipush_121 dX6_clause_4 ?_
  refine ev_callVI (pc := 6) (d := d + 103) (As := [.int 121]) (st := []) cv_X10_take rfl w_67 rfl (Nat.le_of_ble_eq_true rfl) (ok_X10_take N (d + 101) 121 I L) dX6_clause_6 (fun x1 I2 L3 => ?_)
  refine ev_if_eq (pc := 9) 24 (by decide) dX6_clause_9 ?_ ?_
  · refine ev_iconst (pc := 24) 0 k_iconst_0 dX6_clause_24 ?_
    exact ev_zret (pc := 25) rfl dX6_clause_25
  · refine ev_aload_n (pc := 12) 0 dX6_clause_12 rfl ?_
    refine gf_X6_9 (pc := 13) rfl dX6_clause_13 ?_
    refine ev_bipush (pc := 16) 58 k_bipush_58 dX6_clause_16 ?_
    refine ev_callVI (pc := 18) (d := d + 103) (As := [.int 58]) (st := []) cv_X10_take rfl w_67 rfl (Nat.le_of_ble_eq_true rfl) (ok_X10_take N (d + 101) 58 I2 L3) dX6_clause_18 (fun x4 I5 L6 => ?_)
    refine ev_if_ne (pc := 21) 26 (by decide) dX6_clause_21 ?_ ?_
    · refine ev_aload_n (pc := 26) 0 dX6_clause_26 rfl ?_
      refine gf_X6_9 (pc := 27) rfl dX6_clause_27 ?_
      refine ev_callVI (pc := 30) (d := d + 103) (As := []) (st := []) cv_X10_next rfl w_66 rfl (Nat.le_of_ble_eq_true rfl) (ok_X10_next N (d + 102) I5 L6) dX6_clause_30 (fun x7 I8 L9 => ?_)
      refine ev_bipush (pc := 33) 33 k_bipush_33 dX6_clause_33 ?_
      refine ev_icmp_eq (pc := 35) 50 (by decide) dX6_clause_35 ?_ ?_
      · exact E_X6_clause_50 N d I8 L9
      · refine ev_aload_n (pc := 38) 0 dX6_clause_38 rfl ?_
        refine gf_X6_9 (pc := 39) rfl dX6_clause_39 ?_
        refine ev_callVI (pc := 42) (d := d + 103) (As := []) (st := []) cv_X10_next rfl w_66 rfl (Nat.le_of_ble_eq_true rfl) (ok_X10_next N (d + 102) I8 L9) dX6_clause_42 (fun x34 I35 L36 => ?_)
        refine ev_bipush (pc := 45) 40 k_bipush_40 dX6_clause_45 ?_
        refine ev_icmp_ne (pc := 47) 54 (by decide) dX6_clause_47 ?_ ?_
        · refine ev_iconst (pc := 54) 0 k_iconst_0 dX6_clause_54 ?_
          exact E_X6_clause_55 N d 0 I35 L36
        · exact E_X6_clause_50 N d I35 L36
    · refine ev_iconst (pc := 24) 0 k_iconst_0 dX6_clause_24 ?_
      exact ev_zret (pc := 25) rfl dX6_clause_25
def F_X6_readLaw_56 (N : Nat) (I : PI) (L : PL) : RES := bI (f_X10_next N I L) (fun x5 I6 L7 => (if x5 = 0 then some (some (.int (-1 : Int32)), I6, L7) else some (some (.int (I6 10 2)), I6, L7)))
set_option maxRecDepth 100000 in
theorem E_X6_readLaw_56 (N d : Nat) (I : PI) (L : PL) : EvW M_X6_readLaw (d + 105) 56 [(0, .ref 6)] [] I L (F_X6_readLaw_56 N I L) := by
  rw [F_X6_readLaw_56]
  refine ev_aload_n (pc := 56) 0 dX6_readLaw_56 rfl ?_
  refine gf_X6_9 (pc := 57) rfl dX6_readLaw_57 ?_
  refine ev_callVI (pc := 60) (d := d + 104) (As := []) (st := []) cv_X10_next rfl w_66 rfl (Nat.le_of_ble_eq_true rfl) (ok_X10_next N (d + 103) I L) dX6_readLaw_60 (fun x5 I6 L7 => ?_)
  refine ev_if_ne (pc := 63) 70 (by decide) dX6_readLaw_63 ?_ ?_
  · refine ev_aload_n (pc := 70) 0 dX6_readLaw_70 rfl ?_
    refine gf_X6_9 (pc := 71) rfl dX6_readLaw_71 ?_
    refine gf_X6_32 (pc := 74) rfl dX6_readLaw_74 ?_
    exact ev_iret (pc := 77) rfl dX6_readLaw_77
  · refine ev_iconst (pc := 66) (-1 : Int32) k_iconst_m1 dX6_readLaw_66 ?_
    refine ev_goto (pc := 67) 77 (by decide) dX6_readLaw_67 ?_
    exact ev_iret (pc := 77) rfl dX6_readLaw_77
def F_X6_readLaw_14 (N : Nat) : Nat → Int32 → PI → PL → RES
  | 0, _, _, _ => none
  | n + 1, v1, I, L => (if 120 ≤ v1 then F_X6_readLaw_56 N I L else bI (f_X6_clause N I L) (fun x8 I9 L10 => (if x8 = 0 then some (some (.int (I9 10 2)), I9, L10) else bI (f_X10_take N 59 I9 L10) (fun x11 I12 L13 => (if x11 = 0 then F_X6_readLaw_56 N I12 L13 else (F_X6_readLaw_14 N n) (v1 + 1) I12 L13)))))
set_option maxRecDepth 100000 in
theorem E_X6_readLaw_14 (N d : Nat) : ∀ (n : Nat) (v1 : Int32) (I : PI) (L : PL), EvW M_X6_readLaw (d + 105) 14 [(0, .ref 6), (1, .int v1)] [] I L (F_X6_readLaw_14 N n v1 I L) := by
  intro n
  induction n with
  | zero =>
    intro v1 I L
    exact EvW.none
  | succ n hr_14 =>
    intro v1 I L
    rw [F_X6_readLaw_14]
    refine ev_iload_n (pc := 14) 1 dX6_readLaw_14 rfl ?_
    refine ev_bipush (pc := 15) 120 k_bipush_120 dX6_readLaw_15 ?_
    refine ev_icmp_ge (pc := 17) 56 (by decide) dX6_readLaw_17 ?_ ?_
    · refine EvW.sub [0] rfl ?_
      exact E_X6_readLaw_56 N d I L
    · refine ev_aload_n (pc := 20) 0 dX6_readLaw_20 rfl ?_
      refine ev_callVI (pc := 21) (d := d + 104) (As := []) (st := []) cv_X6_clause rfl w_113 rfl (Nat.le_of_ble_eq_true rfl) (ok_X6_clause N (d) I L) dX6_readLaw_21 (fun x8 I9 L10 => ?_)
      refine ev_if_ne (pc := 24) 35 (by decide) dX6_readLaw_24 ?_ ?_
      · refine ev_aload_n (pc := 35) 0 dX6_readLaw_35 rfl ?_
        refine gf_X6_9 (pc := 36) rfl dX6_readLaw_36 ?_
        refine ev_bipush (pc := 39) 59 k_bipush_59 dX6_readLaw_39 ?_
        refine ev_callVI (pc := 41) (d := d + 104) (As := [.int 59]) (st := []) cv_X10_take rfl w_67 rfl (Nat.le_of_ble_eq_true rfl) (ok_X10_take N (d + 102) 59 I9 L10) dX6_readLaw_41 (fun x11 I12 L13 => ?_)
        refine ev_if_ne (pc := 44) 50 (by decide) dX6_readLaw_44 ?_ ?_
        · refine ev_iinc (pc := 50) (lv' := [(1, .int (v1 + 1)), (0, .ref 6)]) dX6_readLaw_50 1 rfl rfl 1 k_iconst_1 rfl ?_
          refine ev_goto (pc := 53) 14 (by decide) dX6_readLaw_53 ?_
          refine EvW.sub [1, 0] rfl ?_
          exact hr_14 (v1 + 1) I12 L13
        · refine ev_goto (pc := 47) 56 (by decide) dX6_readLaw_47 ?_
          refine EvW.sub [0] rfl ?_
          exact E_X6_readLaw_56 N d I12 L13
      · refine ev_aload_n (pc := 27) 0 dX6_readLaw_27 rfl ?_
        refine gf_X6_9 (pc := 28) rfl dX6_readLaw_28 ?_
        refine gf_X6_32 (pc := 31) rfl dX6_readLaw_31 ?_
        exact ev_iret (pc := 34) rfl dX6_readLaw_34
def f_X6_readLaw (N : Nat) (I : PI) (L : PL) : RES := nmW (uI I 6 2 0) (fun I1 => bV (f_X10_start N I1 L) (fun I3 L4 => F_X6_readLaw_14 N N 0 I3 L4))
set_option maxRecDepth 100000 in
theorem ok_X6_readLaw (N d : Nat) (I : PI) (L : PL) : MOk M_X6_readLaw (d + 105) [.ref 6] I L (f_X6_readLaw N I L) := by
  refine MOk.of (by decide +kernel) (Nat.le_of_ble_eq_true rfl) ?_
  show EvW _ _ 0 [(0, .ref 6)] [] I L _
  rw [f_X6_readLaw]
  refine ev_aload_n (pc := 0) 0 dX6_readLaw_0 rfl ?_
  refine ev_iconst (pc := 1) 0 k_iconst_0 dX6_readLaw_1 ?_
  refine pf_X6_21 (pc := 2) rfl dX6_readLaw_2 ?_
  refine ev_nmW (fun I1 => ?_)
  refine ev_aload_n (pc := 5) 0 dX6_readLaw_5 rfl ?_
  refine gf_X6_9 (pc := 6) rfl dX6_readLaw_6 ?_
  refine ev_callVV (pc := 9) (d := d + 104) (As := []) (st := []) cv_X10_start rfl w_65 rfl (Nat.le_of_ble_eq_true rfl) (ok_X10_start N (d + 104) I1 L) dX6_readLaw_9 (fun I3 L4 => ?_)
  refine ev_iconst (pc := 12) 0 k_iconst_0 dX6_readLaw_12 ?_
  refine ev_istore_n (pc := 13) (lv' := [(1, .int 0), (0, .ref 6)]) dX6_readLaw_13 rfl rfl rfl ?_
  refine EvW.sub [1, 0] rfl ?_
  exact E_X6_readLaw_14 N d N 0 I3 L4
def f_X3_turnOf (N : Nat) (a1 : Int32) (I : PI) (L : PL) : RES := swL [(43, some (some (.int 0), I, L)), (45, some (some (.int 2), I, L)), (105, some (some (.int 1), I, L)), (106, some (some (.int 3), I, L))] (some (some (.int (-1 : Int32)), I, L)) a1
set_option maxRecDepth 100000 in
theorem ok_X3_turnOf (N d : Nat) (a1 : Int32) (I : PI) (L : PL) : MOk M_X3_turnOf (d) [.int a1] I L (f_X3_turnOf N a1 I L) := by
  refine MOk.of (by decide +kernel) (Nat.le_of_ble_eq_true rfl) ?_
  show EvW _ _ 0 [(0, .int a1)] [] I L _
  rw [f_X3_turnOf]
  refine ev_iload_n (pc := 0) 0 dX3_turnOf_0 rfl ?_
  refine ev_lookup (pc := 1) 52 (by decide) (by decide) dX3_turnOf_1 ⟨rfl, ⟨44, by decide, ?_⟩, rfl, ⟨48, by decide, ?_⟩, rfl, ⟨46, by decide, ?_⟩, rfl, ⟨50, by decide, ?_⟩, trivial⟩ ?_
  · refine ev_iconst (pc := 44) 0 k_iconst_0 dX3_turnOf_44 ?_
    exact ev_iret (pc := 45) rfl dX3_turnOf_45
  · refine ev_iconst (pc := 48) 2 k_iconst_2 dX3_turnOf_48 ?_
    exact ev_iret (pc := 49) rfl dX3_turnOf_49
  · refine ev_iconst (pc := 46) 1 k_iconst_1 dX3_turnOf_46 ?_
    exact ev_iret (pc := 47) rfl dX3_turnOf_47
  · refine ev_iconst (pc := 50) 3 k_iconst_3 dX3_turnOf_50 ?_
    exact ev_iret (pc := 51) rfl dX3_turnOf_51
  · refine ev_iconst (pc := 52) (-1 : Int32) k_iconst_m1 dX3_turnOf_52 ?_
    exact ev_iret (pc := 53) rfl dX3_turnOf_53
def F_X3_putRun_13 (N : Nat) : Nat → Int32 → Int32 → Int32 → PI → PL → RES
  | 0, _, _, _, _, _ => none
  | n + 1, v1, v4, v5, I, L => (if v4 ≤ v5 then some (some (.int v4), I, L) else nmI (((I 3 2) * 24) + v5) (fun x2 => (if x2 < 0 then (F_X3_putRun_13 N n) v1 v4 (v5 + 1) I L else (if 216 ≤ x2 then (F_X3_putRun_13 N n) v1 v4 (v5 + 1) I L else gd (inb x2 216) (nmW (uI I 15 (Int32.toNatClampNeg x2) v1) (fun I3 => (F_X3_putRun_13 N n) v1 v4 (v5 + 1) I3 L))))))
set_option maxRecDepth 100000 in
theorem E_X3_putRun_13 (N d : Nat) : ∀ (n : Nat) (v1 : Int32) (v4 : Int32) (v5 : Int32) (I : PI) (L : PL), EvW M_X3_putRun (d + 1) 13 [(0, .ref 3), (1, .int v1), (4, .int v4), (5, .int v5)] [] I L (F_X3_putRun_13 N n v1 v4 v5 I L) := by
  intro n
  induction n with
  | zero =>
    intro v1 v4 v5 I L
    exact EvW.none
  | succ n hr_13 =>
    intro v1 v4 v5 I L
    rw [F_X3_putRun_13]
    refine ev_iload (pc := 13) 3 dX3_putRun_13 rfl ?_
    refine ev_iload (pc := 15) 2 dX3_putRun_15 rfl ?_
    refine ev_icmp_ge (pc := 17) 61 (by decide) dX3_putRun_17 ?_ ?_
    · refine ev_iload (pc := 61) 2 dX3_putRun_61 rfl ?_
      exact ev_iret (pc := 63) rfl dX3_putRun_63
    · refine ev_aload_n (pc := 20) 0 dX3_putRun_20 rfl ?_
      refine gf_X3_18 (pc := 21) rfl dX3_putRun_21 ?_
      refine ev_bipush (pc := 24) 24 k_bipush_24 dX3_putRun_24 ?_
      refine ev_imul (pc := 26) dX3_putRun_26 ?_
      refine ev_iload (pc := 27) 3 dX3_putRun_27 rfl ?_
      refine ev_iadd (pc := 29) dX3_putRun_29 ?_
      refine ev_nmI (fun x2 => ?_)
      refine ev_istore (pc := 30) (lv' := [(6, .int x2), (0, .ref 3), (1, .int v1), (4, .int v4), (5, .int v5)]) dX3_putRun_30 rfl rfl ?_
      refine ev_iload (pc := 32) 0 dX3_putRun_32 rfl ?_
      refine ev_if_lt (pc := 34) 55 (by decide) dX3_putRun_34 ?_ ?_
      · refine ev_iinc (pc := 55) (lv' := [(5, .int (v5 + 1)), (6, .int x2), (0, .ref 3), (1, .int v1), (4, .int v4)]) dX3_putRun_55 4 rfl rfl 1 k_iconst_1 rfl ?_
        refine ev_goto (pc := 58) 13 (by decide) dX3_putRun_58 ?_
        refine EvW.sub [2, 3, 4, 0] rfl ?_
        exact hr_13 v1 v4 (v5 + 1) I L
      · refine ev_iload (pc := 37) 0 dX3_putRun_37 rfl ?_
        refine ev_aload_n (pc := 39) 1 dX3_putRun_39 rfl ?_
        refine gf_X3_11 (pc := 40) rfl dX3_putRun_40 ?_
        refine ev_alenI (pc := 43) 216 (by decide +kernel) kK_15 dX3_putRun_43 ?_
        refine ev_icmp_ge (pc := 44) 55 (by decide) dX3_putRun_44 ?_ ?_
        · refine ev_iinc (pc := 55) (lv' := [(5, .int (v5 + 1)), (6, .int x2), (0, .ref 3), (1, .int v1), (4, .int v4)]) dX3_putRun_55 4 rfl rfl 1 k_iconst_1 rfl ?_
          refine ev_goto (pc := 58) 13 (by decide) dX3_putRun_58 ?_
          refine EvW.sub [2, 3, 4, 0] rfl ?_
          exact hr_13 v1 v4 (v5 + 1) I L
        · refine ev_aload_n (pc := 47) 1 dX3_putRun_47 rfl ?_
          refine gf_X3_11 (pc := 48) rfl dX3_putRun_48 ?_
          refine ev_iload (pc := 51) 0 dX3_putRun_51 rfl ?_
          refine ev_iload_n (pc := 53) 2 dX3_putRun_53 rfl ?_
          refine ev_iast (pc := 54) kK_15 dX3_putRun_54 ?_
          refine ev_nmW (fun I3 => ?_)
          refine ev_iinc (pc := 55) (lv' := [(5, .int (v5 + 1)), (6, .int x2), (0, .ref 3), (1, .int v1), (4, .int v4)]) dX3_putRun_55 4 rfl rfl 1 k_iconst_1 rfl ?_
          refine ev_goto (pc := 58) 13 (by decide) dX3_putRun_58 ?_
          refine EvW.sub [2, 3, 4, 0] rfl ?_
          exact hr_13 v1 v4 (v5 + 1) I3 L
def f_X3_putRun (N : Nat) (a1 : Int32) (a2 : Int32) (a3 : Int32) (I : PI) (L : PL) : RES := nmI (jmin (a2 + a3) 24) (fun x1 => F_X3_putRun_13 N N a1 x1 a2 I L)
set_option maxRecDepth 100000 in
theorem ok_X3_putRun (N d : Nat) (a1 : Int32) (a2 : Int32) (a3 : Int32) (I : PI) (L : PL) : MOk M_X3_putRun (d + 1) [.ref 3, .int a1, .int a2, .int a3] I L (f_X3_putRun N a1 a2 a3 I L) := by
  refine MOk.of (by decide +kernel) (Nat.le_of_ble_eq_true rfl) ?_
  show EvW _ _ 0 [(0, .ref 3), (1, .int a1), (2, .int a2), (3, .int a3)] [] I L _
  rw [f_X3_putRun]
  refine ev_iload_n (pc := 0) 2 dX3_putRun_0 rfl ?_
  refine ev_iload_n (pc := 1) 3 dX3_putRun_1 rfl ?_
  refine ev_iadd (pc := 2) dX3_putRun_2 ?_
  refine ev_bipush (pc := 3) 24 k_bipush_24 dX3_putRun_3 ?_
  refine ev_mmin (pc := 5) (d := d) w_133 w_134 w_131 w_135 (Nat.le_of_ble_eq_true rfl) dX3_putRun_5 ?_
  refine ev_nmI (fun x1 => ?_)
  refine ev_istore (pc := 8) (lv' := [(4, .int x1), (0, .ref 3), (1, .int a1), (2, .int a2), (3, .int a3)]) dX3_putRun_8 rfl rfl ?_
  refine ev_iload_n (pc := 10) 3 dX3_putRun_10 rfl ?_
  refine ev_istore (pc := 11) (lv' := [(5, .int a2), (4, .int x1), (0, .ref 3), (1, .int a1), (2, .int a2), (3, .int a3)]) dX3_putRun_11 rfl rfl ?_
  refine EvW.sub [2, 3, 1, 0] rfl ?_
  exact E_X3_putRun_13 N d N a1 x1 a2 I L
def F_X3_readFrom_132 (N : Nat) (v2 : Int32) (I : PI) (L : PL) : RES := (if v2 = 0 then some (some (.int (I 10 2)), I, L) else some (some (.int (-1 : Int32)), I, L))
set_option maxRecDepth 100000 in
theorem E_X3_readFrom_132 (N d : Nat) (v2 : Int32) (I : PI) (L : PL) : EvW M_X3_readFrom (d + 2) 132 [(1, .ref 10), (2, .int v2)] [] I L (F_X3_readFrom_132 N v2 I L) := by
  rw [F_X3_readFrom_132]
  refine ev_iload_n (pc := 132) 1 dX3_readFrom_132 rfl ?_
  refine ev_if_ne (pc := 133) 143 (by decide) dX3_readFrom_133 ?_ ?_
  · refine ev_iconst (pc := 143) (-1 : Int32) k_iconst_m1 dX3_readFrom_143 ?_
    exact ev_iret (pc := 144) rfl dX3_readFrom_144
  · refine ev_aload_n (pc := 136) 0 dX3_readFrom_136 rfl ?_
    refine gf_X3_39 (pc := 137) rfl dX3_readFrom_137 ?_
    refine ev_goto (pc := 140) 144 (by decide) dX3_readFrom_140 ?_
    exact ev_iret (pc := 144) rfl dX3_readFrom_144
def F_X3_readFrom_110 (N : Nat) (v2 : Int32) (I : PI) (L : PL) : RES := (if 9 ≤ (I 3 2) then F_X3_readFrom_132 N v2 I L else gd (inb (I 3 2) 9) (nmW (uI I 16 (Int32.toNatClampNeg (I 3 2)) v2) (fun I4 => F_X3_readFrom_132 N v2 I4 L)))
set_option maxRecDepth 100000 in
theorem E_X3_readFrom_110 (N d : Nat) (v2 : Int32) (I : PI) (L : PL) : EvW M_X3_readFrom (d + 2) 110 [(0, .ref 3), (1, .ref 10), (2, .int v2)] [] I L (F_X3_readFrom_110 N v2 I L) := by
  rw [F_X3_readFrom_110]
  refine ev_aload_n (pc := 110) 0 dX3_readFrom_110 rfl ?_
  refine gf_X3_18 (pc := 111) rfl dX3_readFrom_111 ?_
  refine ev_aload_n (pc := 114) 0 dX3_readFrom_114 rfl ?_
  refine gf_X3_15 (pc := 115) rfl dX3_readFrom_115 ?_
  refine ev_alenI (pc := 118) 9 (by decide +kernel) kK_16 dX3_readFrom_118 ?_
  refine ev_icmp_ge (pc := 119) 132 (by decide) dX3_readFrom_119 ?_ ?_
  · refine EvW.sub [1, 2] rfl ?_
    exact E_X3_readFrom_132 N d v2 I L
  · refine ev_aload_n (pc := 122) 0 dX3_readFrom_122 rfl ?_
    refine gf_X3_15 (pc := 123) rfl dX3_readFrom_123 ?_
    refine ev_aload_n (pc := 126) 0 dX3_readFrom_126 rfl ?_
    refine gf_X3_18 (pc := 127) rfl dX3_readFrom_127 ?_
    refine ev_iload_n (pc := 130) 2 dX3_readFrom_130 rfl ?_
    refine ev_iast (pc := 131) kK_16 dX3_readFrom_131 ?_
    refine ev_nmW (fun I4 => ?_)
    refine EvW.sub [1, 2] rfl ?_
    exact E_X3_readFrom_132 N d v2 I4 L
def F_X3_readFrom_90 (N : Nat) (r_8 : Int32 → Int32 → PI → PL → RES) (v2 : Int32) (v3 : Int32) (v4 : Int32) (v5 : Int32) (I : PI) (L : PL) : RES := bI (f_X3_putRun N v4 v2 (jmax v5 1) I L) (fun x23 I24 L25 => r_8 x23 (v3 + 1) I24 L25)
set_option maxRecDepth 100000 in
theorem E_X3_readFrom_90 (N d : Nat) (r_8 : Int32 → Int32 → PI → PL → RES) (hr_8 : ∀ (v2 : Int32) (v3 : Int32) (I : PI) (L : PL), EvW M_X3_readFrom (d + 2) 8 [(0, .ref 3), (1, .ref 10), (2, .int v2), (3, .int v3)] [] I L (r_8 v2 v3 I L)) (v2 : Int32) (v3 : Int32) (v4 : Int32) (v5 : Int32) (I : PI) (L : PL) : EvW M_X3_readFrom (d + 2) 90 [(0, .ref 3), (1, .ref 10), (2, .int v2), (3, .int v3), (4, .int v4), (5, .int v5)] [] I L (F_X3_readFrom_90 N r_8 v2 v3 v4 v5 I L) := by
  rw [F_X3_readFrom_90]
  refine ev_aload_n (pc := 90) 0 dX3_readFrom_90 rfl ?_
  refine ev_iload (pc := 91) 4 dX3_readFrom_91 rfl ?_
  refine ev_iload_n (pc := 93) 2 dX3_readFrom_93 rfl ?_
  refine ev_iload (pc := 94) 5 dX3_readFrom_94 rfl ?_
  refine ev_iconst (pc := 96) 1 k_iconst_1 dX3_readFrom_96 ?_
  refine ev_mmax (pc := 97) (d := d + 1) w_129 w_130 w_131 w_132 (Nat.le_of_ble_eq_true rfl) dX3_readFrom_97 ?_
  refine ev_callVI (pc := 100) (d := d + 1) (As := [.int v4, .int v2, .int (jmax v5 1)]) (st := []) cv_X3_putRun rfl w_140 rfl (Nat.le_of_ble_eq_true rfl) (ok_X3_putRun N (d) v4 v2 (jmax v5 1) I L) dX3_readFrom_100 (fun x23 I24 L25 => ?_)
  refine ev_istore_n (pc := 103) (lv' := [(2, .int x23), (0, .ref 3), (1, .ref 10), (3, .int v3), (4, .int v4), (5, .int v5)]) dX3_readFrom_103 rfl rfl rfl ?_
  refine ev_iinc (pc := 104) (lv' := [(3, .int (v3 + 1)), (2, .int x23), (0, .ref 3), (1, .ref 10), (4, .int v4), (5, .int v5)]) dX3_readFrom_104 3 rfl rfl 1 k_iconst_1 rfl ?_
  refine ev_goto (pc := 107) 8 (by decide) dX3_readFrom_107 ?_
  refine EvW.sub [2, 3, 1, 0] rfl ?_
  exact hr_8 x23 (v3 + 1) I24 L25
def F_X3_readFrom_8 (N : Nat) : Nat → Int32 → Int32 → PI → PL → RES
  | 0, _, _, _, _ => none
  | n + 1, v2, v3, I, L => (if 24 < v3 then F_X3_readFrom_110 N v2 I L else bI (f_X10_next N I L) (fun x5 I6 L7 => (if x5 = 0 then F_X3_readFrom_110 N v2 I6 L7 else bI (f_X10_next N I6 L7) (fun x8 I9 L10 => bI (f_X3_turnOf N x8 I9 L10) (fun x11 I12 L13 => (if x11 = (-1 : Int32) then some (some (.int (I12 10 2)), I12, L13) else (if v2 < 24 then bV (f_X10_step N I12 L13) (fun I15 L16 => bI (f_X10_next N I15 L16) (fun x17 I18 L19 => bI (f_X10_digit N I18 L19) (fun x20 I21 L22 => (if x20 = 0 then some (some (.int (I21 10 2)), I21, L22) else (if (v2 + x20) ≤ 24 then (if x20 ≤ 0 then F_X3_readFrom_90 N (F_X3_readFrom_8 N n) v2 v3 x11 x20 I21 L22 else bV (f_X10_step N I21 L22) (fun I27 L28 => F_X3_readFrom_90 N (F_X3_readFrom_8 N n) v2 v3 x11 x20 I27 L28)) else some (some (.int (I21 10 2)), I21, L22)))))) else some (some (.int (I12 10 2)), I12, L13))))))))
set_option maxRecDepth 100000 in
theorem E_X3_readFrom_8 (N d : Nat) : ∀ (n : Nat) (v2 : Int32) (v3 : Int32) (I : PI) (L : PL), EvW M_X3_readFrom (d + 2) 8 [(0, .ref 3), (1, .ref 10), (2, .int v2), (3, .int v3)] [] I L (F_X3_readFrom_8 N n v2 v3 I L) := by
  intro n
  induction n with
  | zero =>
    intro v2 v3 I L
    exact EvW.none
  | succ n hr_8 =>
    intro v2 v3 I L
    rw [F_X3_readFrom_8]
    refine ev_iload_n (pc := 8) 3 dX3_readFrom_8 rfl ?_
    refine ev_bipush (pc := 9) 24 k_bipush_24 dX3_readFrom_9 ?_
    refine ev_icmp_gt (pc := 11) 110 (by decide) dX3_readFrom_11 ?_ ?_
    · refine EvW.sub [0, 1, 2] rfl ?_
      exact E_X3_readFrom_110 N d v2 I L
    · refine ev_aload_n (pc := 14) 1 dX3_readFrom_14 rfl ?_
      refine ev_callVI (pc := 15) (d := d + 1) (As := []) (st := []) cv_X10_next rfl w_122 rfl (Nat.le_of_ble_eq_true rfl) (ok_X10_next N (d) I L) dX3_readFrom_15 (fun x5 I6 L7 => ?_)
      refine ev_if_eq (pc := 18) 110 (by decide) dX3_readFrom_18 ?_ ?_
      · refine EvW.sub [0, 1, 2] rfl ?_
        exact E_X3_readFrom_110 N d v2 I6 L7
      · refine ev_aload_n (pc := 21) 1 dX3_readFrom_21 rfl ?_
        refine ev_callVI (pc := 22) (d := d + 1) (As := []) (st := []) cv_X10_next rfl w_122 rfl (Nat.le_of_ble_eq_true rfl) (ok_X10_next N (d) I6 L7) dX3_readFrom_22 (fun x8 I9 L10 => ?_)
        refine ev_callSI (pc := 25) (d := d + 1) (As := [.int x8]) (st := []) cv_X3_turnOf rfl w_126 rfl (Nat.le_of_ble_eq_true rfl) (ok_X3_turnOf N (d + 1) x8 I9 L10) dX3_readFrom_25 (fun x11 I12 L13 => ?_)
        refine ev_istore (pc := 28) (lv' := [(4, .int x11), (0, .ref 3), (1, .ref 10), (2, .int v2), (3, .int v3)]) dX3_readFrom_28 rfl rfl ?_
        refine ev_iload (pc := 30) 0 dX3_readFrom_30 rfl ?_
        refine ev_iconst (pc := 32) (-1 : Int32) k_iconst_m1 dX3_readFrom_32 ?_
        refine ev_icmp_eq (pc := 33) 42 (by decide) dX3_readFrom_33 ?_ ?_
        · refine ev_aload_n (pc := 42) 2 dX3_readFrom_42 rfl ?_
          refine gf_X3_39 (pc := 43) rfl dX3_readFrom_43 ?_
          exact ev_iret (pc := 46) rfl dX3_readFrom_46
        · refine ev_iload_n (pc := 36) 3 dX3_readFrom_36 rfl ?_
          refine ev_bipush (pc := 37) 24 k_bipush_24 dX3_readFrom_37 ?_
          refine ev_icmp_lt (pc := 39) 47 (by decide) dX3_readFrom_39 ?_ ?_
          · refine ev_aload_n (pc := 47) 2 dX3_readFrom_47 rfl ?_
            refine ev_callVV (pc := 48) (d := d + 1) (As := []) (st := []) cv_X10_step rfl w_127 rfl (Nat.le_of_ble_eq_true rfl) (ok_X10_step N (d + 1) I12 L13) dX3_readFrom_48 (fun I15 L16 => ?_)
            refine ev_aload_n (pc := 51) 2 dX3_readFrom_51 rfl ?_
            refine ev_callVI (pc := 52) (d := d + 1) (As := []) (st := []) cv_X10_next rfl w_122 rfl (Nat.le_of_ble_eq_true rfl) (ok_X10_next N (d) I15 L16) dX3_readFrom_52 (fun x17 I18 L19 => ?_)
            refine ev_pop (pc := 55) rfl dX3_readFrom_55 ?_
            refine ev_aload_n (pc := 56) 2 dX3_readFrom_56 rfl ?_
            refine ev_callVI (pc := 57) (d := d + 1) (As := []) (st := []) cv_X10_digit rfl w_128 rfl (Nat.le_of_ble_eq_true rfl) (ok_X10_digit N (d) I18 L19) dX3_readFrom_57 (fun x20 I21 L22 => ?_)
            refine ev_istore (pc := 60) (lv' := [(5, .int x20), (4, .int x11), (0, .ref 3), (1, .ref 10), (2, .int v2), (3, .int v3)]) dX3_readFrom_60 rfl rfl ?_
            refine ev_iload (pc := 62) 0 dX3_readFrom_62 rfl ?_
            refine ev_if_eq (pc := 64) 76 (by decide) dX3_readFrom_64 ?_ ?_
            · refine ev_aload_n (pc := 76) 3 dX3_readFrom_76 rfl ?_
              refine gf_X3_39 (pc := 77) rfl dX3_readFrom_77 ?_
              exact ev_iret (pc := 80) rfl dX3_readFrom_80
            · refine ev_iload_n (pc := 67) 4 dX3_readFrom_67 rfl ?_
              refine ev_iload (pc := 68) 0 dX3_readFrom_68 rfl ?_
              refine ev_iadd (pc := 70) dX3_readFrom_70 ?_
              refine ev_bipush (pc := 71) 24 k_bipush_24 dX3_readFrom_71 ?_
              refine ev_icmp_le (pc := 73) 81 (by decide) dX3_readFrom_73 ?_ ?_
              · refine ev_iload (pc := 81) 0 dX3_readFrom_81 rfl ?_
                refine ev_if_le (pc := 83) 90 (by decide) dX3_readFrom_83 ?_ ?_
                · refine EvW.sub [2, 3, 4, 5, 1, 0] rfl ?_
                  exact E_X3_readFrom_90 N d (F_X3_readFrom_8 N n) hr_8 v2 v3 x11 x20 I21 L22
                · refine ev_aload_n (pc := 86) 3 dX3_readFrom_86 rfl ?_
                  refine ev_callVV (pc := 87) (d := d + 1) (As := []) (st := []) cv_X10_step rfl w_127 rfl (Nat.le_of_ble_eq_true rfl) (ok_X10_step N (d + 1) I21 L22) dX3_readFrom_87 (fun I27 L28 => ?_)
                  refine EvW.sub [2, 3, 4, 5, 1, 0] rfl ?_
                  exact E_X3_readFrom_90 N d (F_X3_readFrom_8 N n) hr_8 v2 v3 x11 x20 I27 L28
              · refine ev_aload_n (pc := 76) 3 dX3_readFrom_76 rfl ?_
                refine gf_X3_39 (pc := 77) rfl dX3_readFrom_77 ?_
                exact ev_iret (pc := 80) rfl dX3_readFrom_80
          · refine ev_aload_n (pc := 42) 2 dX3_readFrom_42 rfl ?_
            refine gf_X3_39 (pc := 43) rfl dX3_readFrom_43 ?_
            exact ev_iret (pc := 46) rfl dX3_readFrom_46
def f_X3_readFrom (N : Nat) (I : PI) (L : PL) : RES := bV (f_X10_start N I L) (fun I2 L3 => F_X3_readFrom_8 N N 0 0 I2 L3)
set_option maxRecDepth 100000 in
theorem ok_X3_readFrom (N d : Nat) (I : PI) (L : PL) : MOk M_X3_readFrom (d + 2) [.ref 3, .ref 10] I L (f_X3_readFrom N I L) := by
  refine MOk.of (by decide +kernel) (Nat.le_of_ble_eq_true rfl) ?_
  show EvW _ _ 0 [(0, .ref 3), (1, .ref 10)] [] I L _
  rw [f_X3_readFrom]
  refine ev_iconst (pc := 0) 0 k_iconst_0 dX3_readFrom_0 ?_
  refine ev_istore_n (pc := 1) (lv' := [(2, .int 0), (0, .ref 3), (1, .ref 10)]) dX3_readFrom_1 rfl rfl rfl ?_
  refine ev_aload_n (pc := 2) 2 dX3_readFrom_2 rfl ?_
  refine ev_callVV (pc := 3) (d := d + 1) (As := []) (st := []) cv_X10_start rfl w_119 rfl (Nat.le_of_ble_eq_true rfl) (ok_X10_start N (d + 1) I L) dX3_readFrom_3 (fun I2 L3 => ?_)
  refine ev_iconst (pc := 6) 0 k_iconst_0 dX3_readFrom_6 ?_
  refine ev_istore_n (pc := 7) (lv' := [(3, .int 0), (2, .int 0), (0, .ref 3), (1, .ref 10)]) dX3_readFrom_7 rfl rfl rfl ?_
  refine EvW.sub [2, 3, 1, 0] rfl ?_
  exact E_X3_readFrom_8 N d N 0 0 I2 L3
def f_X11_faultOf (N : Nat) (a1 : Int32) (I : PI) (L : PL) : RES := (if a1 = 0 then bI (f_X3_readFrom N I L) (fun x7 I8 L9 => some (some (.int x7), I8, L9)) else (if a1 = 1 then bI (f_X6_readLaw N I L) (fun x4 I5 L6 => some (some (.int x4), I5, L6)) else bI (f_X8_readFrom N I L) (fun x1 I2 L3 => some (some (.int x1), I2, L3))))
set_option maxRecDepth 100000 in
theorem ok_X11_faultOf (N d : Nat) (a1 : Int32) (I : PI) (L : PL) : MOk M_X11_faultOf (d + 106) [.ref 11, .int a1] I L (f_X11_faultOf N a1 I L) := by
  refine MOk.of (by decide +kernel) (Nat.le_of_ble_eq_true rfl) ?_
  show EvW _ _ 0 [(0, .ref 11), (1, .int a1)] [] I L _
  rw [f_X11_faultOf]
  refine ev_iload_n (pc := 0) 1 dX11_faultOf_0 rfl ?_
  refine ev_if_ne (pc := 1) 16 (by decide) dX11_faultOf_1 ?_ ?_
  · refine ev_iload_n (pc := 16) 1 dX11_faultOf_16 rfl ?_
    refine ev_iconst (pc := 17) 1 k_iconst_1 dX11_faultOf_17 ?_
    refine ev_icmp_ne (pc := 18) 31 (by decide) dX11_faultOf_18 ?_ ?_
    · refine ev_aload_n (pc := 31) 0 dX11_faultOf_31 rfl ?_
      refine gf_X11_66 (pc := 32) rfl dX11_faultOf_32 ?_
      refine ev_aload_n (pc := 35) 0 dX11_faultOf_35 rfl ?_
      refine gf_X11_16 (pc := 36) rfl dX11_faultOf_36 ?_
      refine ev_callVI (pc := 39) (d := d + 105) (As := [.ref 10]) (st := []) cv_X8_readFrom rfl w_61 rfl (Nat.le_of_ble_eq_true rfl) (ok_X8_readFrom N (d + 102) I L) dX11_faultOf_39 (fun x1 I2 L3 => ?_)
      exact ev_iret (pc := 42) rfl dX11_faultOf_42
    · refine ev_aload_n (pc := 21) 0 dX11_faultOf_21 rfl ?_
      refine gf_X11_32 (pc := 22) rfl dX11_faultOf_22 ?_
      refine ev_callVI (pc := 25) (d := d + 105) (As := []) (st := []) cv_X6_readLaw rfl w_117 rfl (Nat.le_of_ble_eq_true rfl) (ok_X6_readLaw N (d) I L) dX11_faultOf_25 (fun x4 I5 L6 => ?_)
      refine ev_goto (pc := 28) 42 (by decide) dX11_faultOf_28 ?_
      exact ev_iret (pc := 42) rfl dX11_faultOf_42
  · refine ev_aload_n (pc := 4) 0 dX11_faultOf_4 rfl ?_
    refine gf_X11_23 (pc := 5) rfl dX11_faultOf_5 ?_
    refine ev_aload_n (pc := 8) 0 dX11_faultOf_8 rfl ?_
    refine gf_X11_16 (pc := 9) rfl dX11_faultOf_9 ?_
    refine ev_callVI (pc := 12) (d := d + 105) (As := [.ref 10]) (st := []) cv_X3_readFrom rfl w_144 rfl (Nat.le_of_ble_eq_true rfl) (ok_X3_readFrom N (d + 103) I L) dX11_faultOf_12 (fun x7 I8 L9 => ?_)
    exact ev_iret (pc := 15) rfl dX11_faultOf_15
def f_X11_fault (N : Nat) (a1 : Int32) (I : PI) (L : PL) : RES := bI (f_X11_isSort N a1 I L) (fun x1 I2 L3 => (if x1 = 0 then some (some (.int (-2 : Int32)), I2, L3) else bI (f_X11_faultOf N a1 I2 L3) (fun x4 I5 L6 => some (some (.int x4), I5, L6))))
set_option maxRecDepth 100000 in
theorem ok_X11_fault (N d : Nat) (a1 : Int32) (I : PI) (L : PL) : MOk M_X11_fault (d + 107) [.ref 11, .int a1] I L (f_X11_fault N a1 I L) := by
  refine MOk.of (by decide +kernel) (Nat.le_of_ble_eq_true rfl) ?_
  show EvW _ _ 0 [(0, .ref 11), (1, .int a1)] [] I L _
  rw [f_X11_fault]
  refine ev_iload_n (pc := 0) 1 dX11_fault_0 rfl ?_
  refine ev_callSI (pc := 1) (d := d + 106) (As := [.int a1]) (st := []) cv_X11_isSort rfl w_21 rfl (Nat.le_of_ble_eq_true rfl) (ok_X11_isSort N (d + 105) a1 I L) dX11_fault_1 (fun x1 I2 L3 => ?_)
  refine ev_if_eq (pc := 4) 15 (by decide) dX11_fault_4 ?_ ?_
  · refine ev_bipush (pc := 15) (-2 : Int32) k_bipush_m2 dX11_fault_15 ?_
    exact ev_iret (pc := 17) rfl dX11_fault_17
  · refine ev_aload_n (pc := 7) 0 dX11_fault_7 rfl ?_
    refine ev_iload_n (pc := 8) 1 dX11_fault_8 rfl ?_
    refine ev_callVI (pc := 9) (d := d + 106) (As := [.int a1]) (st := []) cv_X11_faultOf rfl w_148 rfl (Nat.le_of_ble_eq_true rfl) (ok_X11_faultOf N (d) a1 I2 L3) dX11_fault_9 (fun x4 I5 L6 => ?_)
    refine ev_goto (pc := 12) 17 (by decide) dX11_fault_12 ?_
    exact ev_iret (pc := 17) rfl dX11_fault_17
def f_X3_keep (N : Nat) (I : PI) (L : PL) : RES := (if (I 3 2) < 8 then nmW (uI I 3 2 ((I 3 2) + 1)) (fun I1 => some (some (.int ((I1 3 2) - 1)), I1, L)) else some (some (.int (-1 : Int32)), I, L))
set_option maxRecDepth 100000 in
theorem ok_X3_keep (N d : Nat) (I : PI) (L : PL) : MOk M_X3_keep (d) [.ref 3] I L (f_X3_keep N I L) := by
  refine MOk.of (by decide +kernel) (Nat.le_of_ble_eq_true rfl) ?_
  show EvW _ _ 0 [(0, .ref 3)] [] I L _
  rw [f_X3_keep]
  refine ev_aload_n (pc := 0) 0 dX3_keep_0 rfl ?_
  refine gf_X3_18 (pc := 1) rfl dX3_keep_1 ?_
  refine ev_bipush (pc := 4) 8 k_bipush_8 dX3_keep_4 ?_
  refine ev_icmp_lt (pc := 6) 11 (by decide) dX3_keep_6 ?_ ?_
  · refine ev_aload_n (pc := 11) 0 dX3_keep_11 rfl ?_
    refine ev_dup (pc := 12) rfl dX3_keep_12 ?_
    refine gf_X3_18 (pc := 13) rfl dX3_keep_13 ?_
    refine ev_iconst (pc := 16) 1 k_iconst_1 dX3_keep_16 ?_
    refine ev_iadd (pc := 17) dX3_keep_17 ?_
    refine pf_X3_18 (pc := 18) rfl dX3_keep_18 ?_
    refine ev_nmW (fun I1 => ?_)
    refine ev_aload_n (pc := 21) 0 dX3_keep_21 rfl ?_
    refine gf_X3_18 (pc := 22) rfl dX3_keep_22 ?_
    refine ev_iconst (pc := 25) 1 k_iconst_1 dX3_keep_25 ?_
    refine ev_isub (pc := 26) dX3_keep_26 ?_
    exact ev_iret (pc := 27) rfl dX3_keep_27
  · refine ev_iconst (pc := 9) (-1 : Int32) k_iconst_m1 dX3_keep_9 ?_
    exact ev_iret (pc := 10) rfl dX3_keep_10
