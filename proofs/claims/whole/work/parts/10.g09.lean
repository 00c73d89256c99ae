def F_X12_alarms_4 (N : Nat) : Nat → Int32 → Int32 → PI → PL → RES
  | 0, _, _, _, _ => none
  | n + 1, v1, v2, I, L => gd (inb 0 41) ((if (I 55 (Int32.toNatClampNeg 0)) ≤ v2 then some (some (.int v1), I, L) else bI (f_X12_found N v2 I L) (fun x1 I2 L3 => (if x1 = 1 then nmI (v1 + 1) (fun x5 => (F_X12_alarms_4 N n) x5 (v2 + 1) I2 L3) else nmI (v1 + 0) (fun x4 => (F_X12_alarms_4 N n) x4 (v2 + 1) I2 L3)))))
set_option maxRecDepth 100000 in
theorem E_X12_alarms_4 (N d : Nat) : ∀ (n : Nat) (v1 : Int32) (v2 : Int32) (I : PI) (L : PL), EvW M_X12_alarms (d + 3) 4 [(0, .ref 12), (1, .int v1), (2, .int v2)] [] I L (F_X12_alarms_4 N n v1 v2 I L) := by
  intro n
  induction n with
  | zero =>
    intro v1 v2 I L
    exact EvW.none
  | succ n hr_4 =>
    intro v1 v2 I L
    rw [F_X12_alarms_4]
    refine ev_iload_n (pc := 4) 2 dX12_alarms_4 rfl ?_
    refine ev_aload_n (pc := 5) 0 dX12_alarms_5 rfl ?_
    refine gf_X12_77 (pc := 6) rfl dX12_alarms_6 ?_
    refine ev_iconst (pc := 9) 0 k_iconst_0 dX12_alarms_9 ?_
    refine ev_iald (pc := 10) kK_55 dX12_alarms_10 ?_
    refine ev_icmp_ge (pc := 11) 37 (by decide) dX12_alarms_11 ?_ ?_
    · refine ev_iload_n (pc := 37) 1 dX12_alarms_37 rfl ?_
      exact ev_iret (pc := 38) rfl dX12_alarms_38
    · refine ev_iload_n (pc := 14) 1 dX12_alarms_14 rfl ?_
      refine ev_aload_n (pc := 15) 0 dX12_alarms_15 rfl ?_
      refine ev_iload_n (pc := 16) 2 dX12_alarms_16 rfl ?_
      refine ev_callVI (pc := 17) (d := d + 2) (As := [.int v2]) (st := [.int v1]) cv_X12_found rfl w_938 rfl (Nat.le_of_ble_eq_true rfl) (ok_X12_found N (d) v2 I L) dX12_alarms_17 (fun x1 I2 L3 => ?_)
      refine ev_iconst (pc := 20) 1 k_iconst_1 dX12_alarms_20 ?_
      refine ev_icmp_ne (pc := 21) 28 (by decide) dX12_alarms_21 ?_ ?_
      · refine ev_iconst (pc := 28) 0 k_iconst_0 dX12_alarms_28 ?_
        refine ev_iadd (pc := 29) dX12_alarms_29 ?_
        refine ev_nmI (fun x4 => ?_)
        refine ev_istore_n (pc := 30) (lv' := [(1, .int x4), (0, .ref 12), (2, .int v2)]) dX12_alarms_30 rfl rfl rfl ?_
        refine ev_iinc (pc := 31) (lv' := [(2, .int (v2 + 1)), (1, .int x4), (0, .ref 12)]) dX12_alarms_31 2 rfl rfl 1 k_iconst_1 rfl ?_
        refine ev_goto (pc := 34) 4 (by decide) dX12_alarms_34 ?_
        refine EvW.sub [2, 1, 0] rfl ?_
        exact hr_4 x4 (v2 + 1) I2 L3
      · refine ev_iconst (pc := 24) 1 k_iconst_1 dX12_alarms_24 ?_
        refine ev_goto (pc := 25) 29 (by decide) dX12_alarms_25 ?_
        refine ev_iadd (pc := 29) dX12_alarms_29 ?_
        refine ev_nmI (fun x5 => ?_)
        refine ev_istore_n (pc := 30) (lv' := [(1, .int x5), (0, .ref 12), (2, .int v2)]) dX12_alarms_30 rfl rfl rfl ?_
        refine ev_iinc (pc := 31) (lv' := [(2, .int (v2 + 1)), (1, .int x5), (0, .ref 12)]) dX12_alarms_31 2 rfl rfl 1 k_iconst_1 rfl ?_
        refine ev_goto (pc := 34) 4 (by decide) dX12_alarms_34 ?_
        refine EvW.sub [2, 1, 0] rfl ?_
        exact hr_4 x5 (v2 + 1) I2 L3
def f_X12_alarms (N : Nat) (I : PI) (L : PL) : RES := F_X12_alarms_4 N N 0 0 I L
set_option maxRecDepth 100000 in
theorem ok_X12_alarms (N d : Nat) (I : PI) (L : PL) : MOk M_X12_alarms (d + 3) [.ref 12] I L (f_X12_alarms N I L) := by
  refine MOk.of (by decide +kernel) (Nat.le_of_ble_eq_true rfl) ?_
  show EvW _ _ 0 [(0, .ref 12)] [] I L _
  rw [f_X12_alarms]
  refine ev_iconst (pc := 0) 0 k_iconst_0 dX12_alarms_0 ?_
  refine ev_istore_n (pc := 1) (lv' := [(1, .int 0), (0, .ref 12)]) dX12_alarms_1 rfl rfl rfl ?_
  refine ev_iconst (pc := 2) 0 k_iconst_0 dX12_alarms_2 ?_
  refine ev_istore_n (pc := 3) (lv' := [(2, .int 0), (1, .int 0), (0, .ref 12)]) dX12_alarms_3 rfl rfl rfl ?_
  refine EvW.sub [2, 1, 0] rfl ?_
  exact E_X12_alarms_4 N d N 0 0 I L
def F_X12_power_5 (N : Nat) : Nat → Int64 → Int32 → Int64 → Int32 → PI → PL → RES
  | 0, _, _, _, _, _, _ => none
  | n + 1, v0, v2, v3, v5, I, L => (if v2 ≤ v5 then some (some (.long v3), I, L) else nmJ (v3 * v0) (fun x1 => (F_X12_power_5 N n) v0 v2 x1 (v5 + 1) I L))
set_option maxRecDepth 100000 in
theorem E_X12_power_5 (N d : Nat) : ∀ (n : Nat) (v0 : Int64) (v2 : Int32) (v3 : Int64) (v5 : Int32) (I : PI) (L : PL), EvW M_X12_power (d) 5 [(0, .long v0), (2, .int v2), (3, .long v3), (5, .int v5)] [] I L (F_X12_power_5 N n v0 v2 v3 v5 I L) := by
  intro n
  induction n with
  | zero =>
    intro v0 v2 v3 v5 I L
    exact EvW.none
  | succ n hr_5 =>
    intro v0 v2 v3 v5 I L
    rw [F_X12_power_5]
    refine ev_iload (pc := 5) 3 dX12_power_5 rfl ?_
    refine ev_iload_n (pc := 7) 1 dX12_power_7 rfl ?_
    refine ev_icmp_ge (pc := 8) 21 (by decide) dX12_power_8 ?_ ?_
    · refine ev_lload_n (pc := 21) 2 dX12_power_21 rfl ?_
      exact ev_lret (pc := 22) rfl dX12_power_22
    · refine ev_lload_n (pc := 11) 2 dX12_power_11 rfl ?_
      refine ev_lload_n (pc := 12) 0 dX12_power_12 rfl ?_
      refine ev_lmul (pc := 13) dX12_power_13 ?_
      refine ev_nmJ (fun x1 => ?_)
      refine ev_lstore_n (pc := 14) (lv' := [(3, .long x1), (0, .long v0), (2, .int v2), (5, .int v5)]) dX12_power_14 rfl rfl rfl ?_
      refine ev_iinc (pc := 15) (lv' := [(5, .int (v5 + 1)), (3, .long x1), (0, .long v0), (2, .int v2)]) dX12_power_15 3 rfl rfl 1 k_iconst_1 rfl ?_
      refine ev_goto (pc := 18) 5 (by decide) dX12_power_18 ?_
      refine EvW.sub [2, 3, 1, 0] rfl ?_
      exact hr_5 v0 v2 x1 (v5 + 1) I L
def f_X12_power (N : Nat) (a1 : Int64) (a2 : Int32) (I : PI) (L : PL) : RES := F_X12_power_5 N N a1 a2 1 0 I L
set_option maxRecDepth 100000 in
theorem ok_X12_power (N d : Nat) (a1 : Int64) (a2 : Int32) (I : PI) (L : PL) : MOk M_X12_power (d) [.long a1, .int a2] I L (f_X12_power N a1 a2 I L) := by
  refine MOk.of (by decide +kernel) (Nat.le_of_ble_eq_true rfl) ?_
  show EvW _ _ 0 [(0, .long a1), (2, .int a2)] [] I L _
  rw [f_X12_power]
  refine ev_lconst (pc := 0) 1 rfl dX12_power_0 ?_
  refine ev_lstore_n (pc := 1) (lv' := [(3, .long 1), (0, .long a1), (2, .int a2)]) dX12_power_1 rfl rfl rfl ?_
  refine ev_iconst (pc := 2) 0 k_iconst_0 dX12_power_2 ?_
  refine ev_istore (pc := 3) (lv' := [(5, .int 0), (3, .long 1), (0, .long a1), (2, .int a2)]) dX12_power_3 rfl rfl ?_
  refine EvW.sub [2, 3, 1, 0] rfl ?_
  exact E_X12_power_5 N d N a1 a2 1 0 I L
def F_X12_choose_5 (N : Nat) : Nat → Int32 → Int32 → Int64 → Int32 → PI → PL → RES
  | 0, _, _, _, _, _, _ => none
  | n + 1, v0, v1, v2, v4, I, L => (if v1 < v4 then some (some (.long v2), I, L) else gd (decide (¬ (Int32.toInt64 v4) = 0)) (nmJ ((v2 * (Int32.toInt64 ((v0 - v1) + v4))) / (Int32.toInt64 v4)) (fun x1 => (F_X12_choose_5 N n) v0 v1 x1 (v4 + 1) I L)))
set_option maxRecDepth 100000 in
theorem E_X12_choose_5 (N d : Nat) : ∀ (n : Nat) (v0 : Int32) (v1 : Int32) (v2 : Int64) (v4 : Int32) (I : PI) (L : PL), EvW M_X12_choose (d) 5 [(0, .int v0), (1, .int v1), (2, .long v2), (4, .int v4)] [] I L (F_X12_choose_5 N n v0 v1 v2 v4 I L) := by
  intro n
  induction n with
  | zero =>
    intro v0 v1 v2 v4 I L
    exact EvW.none
  | succ n hr_5 =>
    intro v0 v1 v2 v4 I L
    rw [F_X12_choose_5]
    refine ev_iload (pc := 5) 3 dX12_choose_5 rfl ?_
    refine ev_iload_n (pc := 7) 1 dX12_choose_7 rfl ?_
    refine ev_icmp_gt (pc := 8) 31 (by decide) dX12_choose_8 ?_ ?_
    · refine ev_lload_n (pc := 31) 2 dX12_choose_31 rfl ?_
      exact ev_lret (pc := 32) rfl dX12_choose_32
    · refine ev_lload_n (pc := 11) 2 dX12_choose_11 rfl ?_
      refine ev_iload_n (pc := 12) 0 dX12_choose_12 rfl ?_
      refine ev_iload_n (pc := 13) 1 dX12_choose_13 rfl ?_
      refine ev_isub (pc := 14) dX12_choose_14 ?_
      refine ev_iload (pc := 15) 3 dX12_choose_15 rfl ?_
      refine ev_iadd (pc := 17) dX12_choose_17 ?_
      refine ev_i2l (pc := 18) dX12_choose_18 ?_
      refine ev_lmul (pc := 19) dX12_choose_19 ?_
      refine ev_iload (pc := 20) 3 dX12_choose_20 rfl ?_
      refine ev_i2l (pc := 22) dX12_choose_22 ?_
      refine ev_ldiv (pc := 23) dX12_choose_23 ?_
      refine ev_nmJ (fun x1 => ?_)
      refine ev_lstore_n (pc := 24) (lv' := [(2, .long x1), (0, .int v0), (1, .int v1), (4, .int v4)]) dX12_choose_24 rfl rfl rfl ?_
      refine ev_iinc (pc := 25) (lv' := [(4, .int (v4 + 1)), (2, .long x1), (0, .int v0), (1, .int v1)]) dX12_choose_25 3 rfl rfl 1 k_iconst_1 rfl ?_
      refine ev_goto (pc := 28) 5 (by decide) dX12_choose_28 ?_
      refine EvW.sub [2, 3, 1, 0] rfl ?_
      exact hr_5 v0 v1 x1 (v4 + 1) I L
def f_X12_choose (N : Nat) (a1 : Int32) (a2 : Int32) (I : PI) (L : PL) : RES := F_X12_choose_5 N N a1 a2 1 1 I L
set_option maxRecDepth 100000 in
theorem ok_X12_choose (N d : Nat) (a1 : Int32) (a2 : Int32) (I : PI) (L : PL) : MOk M_X12_choose (d) [.int a1, .int a2] I L (f_X12_choose N a1 a2 I L) := by
  refine MOk.of (by decide +kernel) (Nat.le_of_ble_eq_true rfl) ?_
  show EvW _ _ 0 [(0, .int a1), (1, .int a2)] [] I L _
  rw [f_X12_choose]
  refine ev_lconst (pc := 0) 1 rfl dX12_choose_0 ?_
  refine ev_lstore_n (pc := 1) (lv' := [(2, .long 1), (0, .int a1), (1, .int a2)]) dX12_choose_1 rfl rfl rfl ?_
  refine ev_iconst (pc := 2) 1 k_iconst_1 dX12_choose_2 ?_
  refine ev_istore (pc := 3) (lv' := [(4, .int 1), (2, .long 1), (0, .int a1), (1, .int a2)]) dX12_choose_3 rfl rfl ?_
  refine EvW.sub [2, 3, 1, 0] rfl ?_
  exact E_X12_choose_5 N d N a1 a2 1 1 I L
def F_X12_upTo_6 (N : Nat) : Nat → Int32 → Int32 → Int32 → Int64 → Int32 → PI → PL → RES
  | 0, _, _, _, _, _, _, _ => none
  | n + 1, v0, v1, v3, v4, v6, I, L => (if v0 < v6 then some (some (.long v4), I, L) else bJ (f_X12_choose N v0 v6 I L) (fun x1 I2 L3 => bJ (f_X12_power N (Int32.toInt64 (v3 + 1)) v6 I2 L3) (fun x4 I5 L6 => bJ (f_X12_power N (Int32.toInt64 ((v1 - v3) - 1)) (v0 - v6) I5 L6) (fun x7 I8 L9 => nmJ (v4 + ((x1 * x4) * x7)) (fun x10 => (F_X12_upTo_6 N n) v0 v1 v3 x10 (v6 + 1) I8 L9)))))
set_option maxRecDepth 100000 in
theorem E_X12_upTo_6 (N d : Nat) : ∀ (n : Nat) (v0 : Int32) (v1 : Int32) (v3 : Int32) (v4 : Int64) (v6 : Int32) (I : PI) (L : PL), EvW M_X12_upTo (d + 1) 6 [(0, .int v0), (1, .int v1), (3, .int v3), (4, .long v4), (6, .int v6)] [] I L (F_X12_upTo_6 N n v0 v1 v3 v4 v6 I L) := by
  intro n
  induction n with
  | zero =>
    intro v0 v1 v3 v4 v6 I L
    exact EvW.none
  | succ n hr_6 =>
    intro v0 v1 v3 v4 v6 I L
    rw [F_X12_upTo_6]
    refine ev_iload (pc := 6) 4 dX12_upTo_6 rfl ?_
    refine ev_iload_n (pc := 8) 0 dX12_upTo_8 rfl ?_
    refine ev_icmp_gt (pc := 9) 53 (by decide) dX12_upTo_9 ?_ ?_
    · refine ev_lload (pc := 53) 3 dX12_upTo_53 rfl ?_
      exact ev_lret (pc := 55) rfl dX12_upTo_55
    · refine ev_lload (pc := 12) 3 dX12_upTo_12 rfl ?_
      refine ev_iload_n (pc := 14) 0 dX12_upTo_14 rfl ?_
      refine ev_iload (pc := 15) 4 dX12_upTo_15 rfl ?_
      refine ev_callSJ (pc := 17) (d := d) (As := [.int v0, .int v6]) (st := [.long v4]) cv_X12_choose rfl w_945 rfl (Nat.le_of_ble_eq_true rfl) (ok_X12_choose N (d) v0 v6 I L) dX12_upTo_17 (fun x1 I2 L3 => ?_)
      refine ev_iload_n (pc := 20) 2 dX12_upTo_20 rfl ?_
      refine ev_iconst (pc := 21) 1 k_iconst_1 dX12_upTo_21 ?_
      refine ev_iadd (pc := 22) dX12_upTo_22 ?_
      refine ev_i2l (pc := 23) dX12_upTo_23 ?_
      refine ev_iload (pc := 24) 4 dX12_upTo_24 rfl ?_
      refine ev_callSJ (pc := 26) (d := d) (As := [.long (Int32.toInt64 (v3 + 1)), .int v6]) (st := [.long x1, .long v4]) cv_X12_power rfl w_942 rfl (Nat.le_of_ble_eq_true rfl) (ok_X12_power N (d) (Int32.toInt64 (v3 + 1)) v6 I2 L3) dX12_upTo_26 (fun x4 I5 L6 => ?_)
      refine ev_lmul (pc := 29) dX12_upTo_29 ?_
      refine ev_iload_n (pc := 30) 1 dX12_upTo_30 rfl ?_
      refine ev_iload_n (pc := 31) 2 dX12_upTo_31 rfl ?_
      refine ev_isub (pc := 32) dX12_upTo_32 ?_
      refine ev_iconst (pc := 33) 1 k_iconst_1 dX12_upTo_33 ?_
      refine ev_isub (pc := 34) dX12_upTo_34 ?_
      refine ev_i2l (pc := 35) dX12_upTo_35 ?_
      refine ev_iload_n (pc := 36) 0 dX12_upTo_36 rfl ?_
      refine ev_iload (pc := 37) 4 dX12_upTo_37 rfl ?_
      refine ev_isub (pc := 39) dX12_upTo_39 ?_
      refine ev_callSJ (pc := 40) (d := d) (As := [.long (Int32.toInt64 ((v1 - v3) - 1)), .int (v0 - v6)]) (st := [.long (x1 * x4), .long v4]) cv_X12_power rfl w_942 rfl (Nat.le_of_ble_eq_true rfl) (ok_X12_power N (d) (Int32.toInt64 ((v1 - v3) - 1)) (v0 - v6) I5 L6) dX12_upTo_40 (fun x7 I8 L9 => ?_)
      refine ev_lmul (pc := 43) dX12_upTo_43 ?_
      refine ev_ladd (pc := 44) dX12_upTo_44 ?_
      refine ev_nmJ (fun x10 => ?_)
      refine ev_lstore (pc := 45) (lv' := [(4, .long x10), (0, .int v0), (1, .int v1), (3, .int v3), (6, .int v6)]) dX12_upTo_45 rfl rfl ?_
      refine ev_iinc (pc := 47) (lv' := [(6, .int (v6 + 1)), (4, .long x10), (0, .int v0), (1, .int v1), (3, .int v3)]) dX12_upTo_47 4 rfl rfl 1 k_iconst_1 rfl ?_
      refine ev_goto (pc := 50) 6 (by decide) dX12_upTo_50 ?_
      refine EvW.sub [2, 3, 4, 1, 0] rfl ?_
      exact hr_6 v0 v1 v3 x10 (v6 + 1) I8 L9
def f_X12_upTo (N : Nat) (a1 : Int32) (a2 : Int32) (a3 : Int32) (a4 : Int32) (I : PI) (L : PL) : RES := F_X12_upTo_6 N N a1 a2 a4 0 a3 I L
set_option maxRecDepth 100000 in
theorem ok_X12_upTo (N d : Nat) (a1 : Int32) (a2 : Int32) (a3 : Int32) (a4 : Int32) (I : PI) (L : PL) : MOk M_X12_upTo (d + 1) [.int a1, .int a2, .int a3, .int a4] I L (f_X12_upTo N a1 a2 a3 a4 I L) := by
  refine MOk.of (by decide +kernel) (Nat.le_of_ble_eq_true rfl) ?_
  show EvW _ _ 0 [(0, .int a1), (1, .int a2), (2, .int a3), (3, .int a4)] [] I L _
  rw [f_X12_upTo]
  refine ev_lconst (pc := 0) 0 rfl dX12_upTo_0 ?_
  refine ev_lstore (pc := 1) (lv' := [(4, .long 0), (0, .int a1), (1, .int a2), (2, .int a3), (3, .int a4)]) dX12_upTo_1 rfl rfl ?_
  refine ev_iload_n (pc := 3) 3 dX12_upTo_3 rfl ?_
  refine ev_istore (pc := 4) (lv' := [(6, .int a3), (4, .long 0), (0, .int a1), (1, .int a2), (2, .int a3), (3, .int a4)]) dX12_upTo_4 rfl rfl ?_
  refine EvW.sub [2, 3, 5, 1, 0] rfl ?_
  exact E_X12_upTo_6 N d N a1 a2 a4 0 a3 I L
def F_X12_share_139 (N : Nat) (r_60 : Int32 → Int32 → Int32 → Int32 → Int32 → Int64 → Int32 → PI → PL → RES) (v1 : Int32) (v2 : Int32) (v3 : Int32) (v4 : Int32) (v5 : Int32) (v8 : Int32) (s0 : Int64) (s1 : Int64) (s2 : Int64) (s3 : Int64) (I : PI) (L : PL) : RES := nmJ (s3 + (s2 * (s1 - s0))) (fun x25 => r_60 v1 v2 v3 v4 v5 x25 (v8 + 1) I L)
set_option maxRecDepth 100000 in
theorem E_X12_share_139 (N d : Nat) (r_60 : Int32 → Int32 → Int32 → Int32 → Int32 → Int64 → Int32 → PI → PL → RES) (hr_60 : ∀ (v1 : Int32) (v2 : Int32) (v3 : Int32) (v4 : Int32) (v5 : Int32) (v6 : Int64) (v8 : Int32) (I : PI) (L : PL), EvW M_X12_share (d + 2) 60 [(1, .int v1), (2, .int v2), (3, .int v3), (4, .int v4), (5, .int v5), (6, .long v6), (8, .int v8)] [] I L (r_60 v1 v2 v3 v4 v5 v6 v8 I L)) (v1 : Int32) (v2 : Int32) (v3 : Int32) (v4 : Int32) (v5 : Int32) (v8 : Int32) (s0 : Int64) (s1 : Int64) (s2 : Int64) (s3 : Int64) (I : PI) (L : PL) : EvW M_X12_share (d + 2) 139 [(1, .int v1), (2, .int v2), (3, .int v3), (4, .int v4), (5, .int v5), (8, .int v8)] [.long s0, .long s1, .long s2, .long s3] I L (F_X12_share_139 N r_60 v1 v2 v3 v4 v5 v8 s0 s1 s2 s3 I L) := by
  rw [F_X12_share_139]
  refine ev_lsub (pc := 139) dX12_share_139 ?_
  refine ev_lmul (pc := 140) dX12_share_140 ?_
  refine ev_ladd (pc := 141) dX12_share_141 ?_
  refine ev_nmJ (fun x25 => ?_)
  refine ev_lstore (pc := 142) (lv' := [(6, .long x25), (1, .int v1), (2, .int v2), (3, .int v3), (4, .int v4), (5, .int v5), (8, .int v8)]) dX12_share_142 rfl rfl ?_
  refine ev_iinc (pc := 144) (lv' := [(8, .int (v8 + 1)), (6, .long x25), (1, .int v1), (2, .int v2), (3, .int v3), (4, .int v4), (5, .int v5)]) dX12_share_144 6 rfl rfl 1 k_iconst_1 rfl ?_
  refine ev_goto (pc := 147) 60 (by decide) dX12_share_147 ?_
  refine EvW.sub [2, 3, 4, 5, 6, 1, 0] rfl ?_
  exact hr_60 v1 v2 v3 v4 v5 x25 (v8 + 1) I L
def F_X12_share_72 (N : Nat) (r_60 : Int32 → Int32 → Int32 → Int32 → Int32 → Int64 → Int32 → PI → PL → RES) : Nat → Int32 → Int32 → Int32 → Int32 → Int32 → Int64 → Int32 → Int32 → Int32 → PI → PL → RES
  | 0, _, _, _, _, _, _, _, _, _, _, _ => none
  | n + 1, v1, v2, v3, v4, v5, v6, v8, v9, v10, I, L => (if v2 ≤ v10 then bJ (f_X12_upTo N v1 v2 v3 v8 I L) (fun x19 I20 L21 => (if v8 = 0 then F_X12_share_139 N r_60 v1 v2 v3 v4 v5 v8 0 x19 (Int32.toInt64 v9) v6 I20 L21 else bJ (f_X12_upTo N v1 v2 v3 (v8 - 1) I20 L21) (fun x22 I23 L24 => F_X12_share_139 N r_60 v1 v2 v3 v4 v5 v8 x22 x19 (Int32.toInt64 v9) v6 I23 L24))) else (if (10 * v10) ≤ (v4 * v8) then nmI (v9 + 0) (fun x26 => (F_X12_share_72 N r_60 n) v1 v2 v3 v4 v5 v6 v8 x26 (v10 + 1) I L) else nmI (v9 + 1) (fun x27 => (F_X12_share_72 N r_60 n) v1 v2 v3 v4 v5 v6 v8 x27 (v10 + 1) I L)))
set_option maxRecDepth 100000 in
theorem E_X12_share_72 (N d : Nat) (r_60 : Int32 → Int32 → Int32 → Int32 → Int32 → Int64 → Int32 → PI → PL → RES) (hr_60 : ∀ (v1 : Int32) (v2 : Int32) (v3 : Int32) (v4 : Int32) (v5 : Int32) (v6 : Int64) (v8 : Int32) (I : PI) (L : PL), EvW M_X12_share (d + 2) 60 [(1, .int v1), (2, .int v2), (3, .int v3), (4, .int v4), (5, .int v5), (6, .long v6), (8, .int v8)] [] I L (r_60 v1 v2 v3 v4 v5 v6 v8 I L)) : ∀ (n : Nat) (v1 : Int32) (v2 : Int32) (v3 : Int32) (v4 : Int32) (v5 : Int32) (v6 : Int64) (v8 : Int32) (v9 : Int32) (v10 : Int32) (I : PI) (L : PL), EvW M_X12_share (d + 2) 72 [(1, .int v1), (2, .int v2), (3, .int v3), (4, .int v4), (5, .int v5), (6, .long v6), (8, .int v8), (9, .int v9), (10, .int v10)] [] I L (F_X12_share_72 N r_60 n v1 v2 v3 v4 v5 v6 v8 v9 v10 I L) := by
  intro n
  induction n with
  | zero =>
    intro v1 v2 v3 v4 v5 v6 v8 v9 v10 I L
    exact EvW.none
  | succ n hr_72 =>
    intro v1 v2 v3 v4 v5 v6 v8 v9 v10 I L
    rw [F_X12_share_72]
    refine ev_iload (pc := 72) 8 dX12_share_72 rfl ?_
    refine ev_iload_n (pc := 74) 1 dX12_share_74 rfl ?_
    refine ev_icmp_ge (pc := 75) 107 (by decide) dX12_share_75 ?_ ?_
    · refine ev_lload (pc := 107) 5 dX12_share_107 rfl ?_
      refine ev_iload (pc := 109) 7 dX12_share_109 rfl ?_
      refine ev_i2l (pc := 111) dX12_share_111 ?_
      refine ev_iload_n (pc := 112) 0 dX12_share_112 rfl ?_
      refine ev_iload_n (pc := 113) 1 dX12_share_113 rfl ?_
      refine ev_iload_n (pc := 114) 2 dX12_share_114 rfl ?_
      refine ev_iload (pc := 115) 6 dX12_share_115 rfl ?_
      refine ev_callSJ (pc := 117) (d := d + 1) (As := [.int v1, .int v2, .int v3, .int v8]) (st := [.long (Int32.toInt64 v9), .long v6]) cv_X12_upTo rfl w_948 rfl (Nat.le_of_ble_eq_true rfl) (ok_X12_upTo N (d) v1 v2 v3 v8 I L) dX12_share_117 (fun x19 I20 L21 => ?_)
      refine ev_iload (pc := 120) 6 dX12_share_120 rfl ?_
      refine ev_if_ne (pc := 122) 129 (by decide) dX12_share_122 ?_ ?_
      · refine ev_iload_n (pc := 129) 0 dX12_share_129 rfl ?_
        refine ev_iload_n (pc := 130) 1 dX12_share_130 rfl ?_
        refine ev_iload_n (pc := 131) 2 dX12_share_131 rfl ?_
        refine ev_iload (pc := 132) 6 dX12_share_132 rfl ?_
        refine ev_iconst (pc := 134) 1 k_iconst_1 dX12_share_134 ?_
        refine ev_isub (pc := 135) dX12_share_135 ?_
        refine ev_callSJ (pc := 136) (d := d + 1) (As := [.int v1, .int v2, .int v3, .int (v8 - 1)]) (st := [.long x19, .long (Int32.toInt64 v9), .long v6]) cv_X12_upTo rfl w_948 rfl (Nat.le_of_ble_eq_true rfl) (ok_X12_upTo N (d) v1 v2 v3 (v8 - 1) I20 L21) dX12_share_136 (fun x22 I23 L24 => ?_)
        refine EvW.sub [0, 1, 2, 3, 4, 6] rfl ?_
        exact E_X12_share_139 N d r_60 hr_60 v1 v2 v3 v4 v5 v8 x22 x19 (Int32.toInt64 v9) v6 I23 L24
      · refine ev_lconst (pc := 125) 0 rfl dX12_share_125 ?_
        refine ev_goto (pc := 126) 139 (by decide) dX12_share_126 ?_
        refine EvW.sub [0, 1, 2, 3, 4, 6] rfl ?_
        exact E_X12_share_139 N d r_60 hr_60 v1 v2 v3 v4 v5 v8 0 x19 (Int32.toInt64 v9) v6 I20 L21
    · refine ev_iload (pc := 78) 7 dX12_share_78 rfl ?_
      refine ev_bipush (pc := 80) 10 k_bipush_10 dX12_share_80 ?_
      refine ev_iload (pc := 82) 8 dX12_share_82 rfl ?_
      refine ev_imul (pc := 84) dX12_share_84 ?_
      refine ev_iload (pc := 85) 3 dX12_share_85 rfl ?_
      refine ev_iload (pc := 87) 6 dX12_share_87 rfl ?_
      refine ev_imul (pc := 89) dX12_share_89 ?_
      refine ev_icmp_le (pc := 90) 97 (by decide) dX12_share_90 ?_ ?_
      · refine ev_iconst (pc := 97) 0 k_iconst_0 dX12_share_97 ?_
        refine ev_iadd (pc := 98) dX12_share_98 ?_
        refine ev_nmI (fun x26 => ?_)
        refine ev_istore (pc := 99) (lv' := [(9, .int x26), (1, .int v1), (2, .int v2), (3, .int v3), (4, .int v4), (5, .int v5), (6, .long v6), (8, .int v8), (10, .int v10)]) dX12_share_99 rfl rfl ?_
        refine ev_iinc (pc := 101) (lv' := [(10, .int (v10 + 1)), (9, .int x26), (1, .int v1), (2, .int v2), (3, .int v3), (4, .int v4), (5, .int v5), (6, .long v6), (8, .int v8)]) dX12_share_101 8 rfl rfl 1 k_iconst_1 rfl ?_
        refine ev_goto (pc := 104) 72 (by decide) dX12_share_104 ?_
        refine EvW.sub [2, 3, 4, 5, 6, 7, 8, 1, 0] rfl ?_
        exact hr_72 v1 v2 v3 v4 v5 v6 v8 x26 (v10 + 1) I L
      · refine ev_iconst (pc := 93) 1 k_iconst_1 dX12_share_93 ?_
        refine ev_goto (pc := 94) 98 (by decide) dX12_share_94 ?_
        refine ev_iadd (pc := 98) dX12_share_98 ?_
        refine ev_nmI (fun x27 => ?_)
        refine ev_istore (pc := 99) (lv' := [(9, .int x27), (1, .int v1), (2, .int v2), (3, .int v3), (4, .int v4), (5, .int v5), (6, .long v6), (8, .int v8), (10, .int v10)]) dX12_share_99 rfl rfl ?_
        refine ev_iinc (pc := 101) (lv' := [(10, .int (v10 + 1)), (9, .int x27), (1, .int v1), (2, .int v2), (3, .int v3), (4, .int v4), (5, .int v5), (6, .long v6), (8, .int v8)]) dX12_share_101 8 rfl rfl 1 k_iconst_1 rfl ?_
        refine ev_goto (pc := 104) 72 (by decide) dX12_share_104 ?_
        refine EvW.sub [2, 3, 4, 5, 6, 7, 8, 1, 0] rfl ?_
        exact hr_72 v1 v2 v3 v4 v5 v6 v8 x27 (v10 + 1) I L
def F_X12_share_60 (N : Nat) : Nat → Int32 → Int32 → Int32 → Int32 → Int32 → Int64 → Int32 → PI → PL → RES
  | 0, _, _, _, _, _, _, _, _, _ => none
  | n + 1, v1, v2, v3, v4, v5, v6, v8, I, L => (if v2 ≤ v8 then (if v5 = 0 then some (some (.long v6), I, L) else bJ (f_X12_power N (Int32.toInt64 v2) (v1 + 1) I L) (fun x16 I17 L18 => gd (decide (¬ x16 = 0)) (some (some (.long ((v6 * 1000000) / x16)), I17, L18)))) else F_X12_share_72 N (F_X12_share_60 N n) N v1 v2 v3 v4 v5 v6 v8 0 0 I L)
set_option maxRecDepth 100000 in
theorem E_X12_share_60 (N d : Nat) : ∀ (n : Nat) (v1 : Int32) (v2 : Int32) (v3 : Int32) (v4 : Int32) (v5 : Int32) (v6 : Int64) (v8 : Int32) (I : PI) (L : PL), EvW M_X12_share (d + 2) 60 [(1, .int v1), (2, .int v2), (3, .int v3), (4, .int v4), (5, .int v5), (6, .long v6), (8, .int v8)] [] I L (F_X12_share_60 N n v1 v2 v3 v4 v5 v6 v8 I L) := by
  intro n
  induction n with
  | zero =>
    intro v1 v2 v3 v4 v5 v6 v8 I L
    exact EvW.none
  | succ n hr_60 =>
    intro v1 v2 v3 v4 v5 v6 v8 I L
    rw [F_X12_share_60]
    refine ev_iload (pc := 60) 6 dX12_share_60 rfl ?_
    refine ev_iload_n (pc := 62) 1 dX12_share_62 rfl ?_
    refine ev_icmp_ge (pc := 63) 150 (by decide) dX12_share_63 ?_ ?_
    · refine ev_iload (pc := 150) 4 dX12_share_150 rfl ?_
      refine ev_if_ne (pc := 152) 160 (by decide) dX12_share_152 ?_ ?_
      · refine ev_lload (pc := 160) 5 dX12_share_160 rfl ?_
        refine ev_ldc2 (pc := 162) w_818 dX12_share_162 ?_
        refine ev_lmul (pc := 165) dX12_share_165 ?_
        refine ev_iload_n (pc := 166) 1 dX12_share_166 rfl ?_
        refine ev_i2l (pc := 167) dX12_share_167 ?_
        refine ev_iload_n (pc := 168) 0 dX12_share_168 rfl ?_
        refine ev_iconst (pc := 169) 1 k_iconst_1 dX12_share_169 ?_
        refine ev_iadd (pc := 170) dX12_share_170 ?_
        refine ev_callSJ (pc := 171) (d := d + 1) (As := [.long (Int32.toInt64 v2), .int (v1 + 1)]) (st := [.long (v6 * 1000000)]) cv_X12_power rfl w_942 rfl (Nat.le_of_ble_eq_true rfl) (ok_X12_power N (d + 1) (Int32.toInt64 v2) (v1 + 1) I L) dX12_share_171 (fun x16 I17 L18 => ?_)
        refine ev_ldiv (pc := 174) dX12_share_174 ?_
        exact ev_lret (pc := 175) rfl dX12_share_175
      · refine ev_lload (pc := 155) 5 dX12_share_155 rfl ?_
        refine ev_goto (pc := 157) 175 (by decide) dX12_share_157 ?_
        exact ev_lret (pc := 175) rfl dX12_share_175
    · refine ev_iconst (pc := 66) 0 k_iconst_0 dX12_share_66 ?_
      refine ev_istore (pc := 67) (lv' := [(9, .int 0), (1, .int v1), (2, .int v2), (3, .int v3), (4, .int v4), (5, .int v5), (6, .long v6), (8, .int v8)]) dX12_share_67 rfl rfl ?_
      refine ev_iconst (pc := 69) 0 k_iconst_0 dX12_share_69 ?_
      refine ev_istore (pc := 70) (lv' := [(10, .int 0), (9, .int 0), (1, .int v1), (2, .int v2), (3, .int v3), (4, .int v4), (5, .int v5), (6, .long v6), (8, .int v8)]) dX12_share_70 rfl rfl ?_
      refine EvW.sub [2, 3, 4, 5, 6, 7, 8, 1, 0] rfl ?_
      exact E_X12_share_72 N d (F_X12_share_60 N n) hr_60 N v1 v2 v3 v4 v5 v6 v8 0 0 I L
def f_X12_share (N : Nat) (a1 : Int32) (a2 : Int32) (a3 : Int32) (a4 : Int32) (a5 : Int32) (I : PI) (L : PL) : RES := bI (f_X12_in N a1 1 8 I L) (fun x1 I2 L3 => (if x1 = 0 then some (some (.long (-1 : Int64)), I2, L3) else bI (f_X12_in N a2 1 9 I2 L3) (fun x4 I5 L6 => (if x4 = 0 then some (some (.long (-1 : Int64)), I5, L6) else bI (f_X12_in N a3 1 a1 I5 L6) (fun x7 I8 L9 => (if x7 = 0 then some (some (.long (-1 : Int64)), I8, L9) else bI (f_X12_in N a4 0 99 I8 L9) (fun x10 I11 L12 => (if x10 = 0 then some (some (.long (-1 : Int64)), I11, L12) else bI (f_X12_in N a5 0 1 I11 L12) (fun x13 I14 L15 => (if x13 = 0 then some (some (.long (-1 : Int64)), I14, L15) else F_X12_share_60 N N a1 a2 a3 a4 a5 0 0 I14 L15))))))))))
set_option maxRecDepth 100000 in
theorem ok_X12_share (N d : Nat) (a1 : Int32) (a2 : Int32) (a3 : Int32) (a4 : Int32) (a5 : Int32) (I : PI) (L : PL) : MOk M_X12_share (d + 2) [.ref 12, .int a1, .int a2, .int a3, .int a4, .int a5] I L (f_X12_share N a1 a2 a3 a4 a5 I L) := by
  refine MOk.of (by decide +kernel) (Nat.le_of_ble_eq_true rfl) ?_
  show EvW _ _ 0 [(0, .ref 12), (1, .int a1), (2, .int a2), (3, .int a3), (4, .int a4), (5, .int a5)] [] I L _
  rw [f_X12_share]
  refine ev_iload_n (pc := 0) 1 dX12_share_0 rfl ?_
  refine ev_iconst (pc := 1) 1 k_iconst_1 dX12_share_1 ?_
  refine ev_bipush (pc := 2) 8 k_bipush_8 dX12_share_2 ?_
  refine ev_callSI (pc := 4) (d := d + 1) (As := [.int a1, .int 1, .int 8]) (st := []) cv_X12_in rfl w_790 rfl (Nat.le_of_ble_eq_true rfl) (ok_X12_in N (d + 1) a1 1 8 I L) dX12_share_4 (fun x1 I2 L3 => ?_)
  refine ev_if_eq (pc := 7) 50 (by decide) dX12_share_7 ?_ ?_
  · refine ev_ldc2 (pc := 50) w_939 dX12_share_50 ?_
    exact ev_lret (pc := 53) rfl dX12_share_53
  · refine ev_iload_n (pc := 10) 2 dX12_share_10 rfl ?_
    refine ev_iconst (pc := 11) 1 k_iconst_1 dX12_share_11 ?_
    refine ev_bipush (pc := 12) 9 k_bipush_9 dX12_share_12 ?_
    refine ev_callSI (pc := 14) (d := d + 1) (As := [.int a2, .int 1, .int 9]) (st := []) cv_X12_in rfl w_790 rfl (Nat.le_of_ble_eq_true rfl) (ok_X12_in N (d + 1) a2 1 9 I2 L3) dX12_share_14 (fun x4 I5 L6 => ?_)
    refine ev_if_eq (pc := 17) 50 (by decide) dX12_share_17 ?_ ?_
    · refine ev_ldc2 (pc := 50) w_939 dX12_share_50 ?_
      exact ev_lret (pc := 53) rfl dX12_share_53
    · refine ev_iload_n (pc := 20) 3 dX12_share_20 rfl ?_
      refine ev_iconst (pc := 21) 1 k_iconst_1 dX12_share_21 ?_
      refine ev_iload_n (pc := 22) 1 dX12_share_22 rfl ?_
      refine ev_callSI (pc := 23) (d := d + 1) (As := [.int a3, .int 1, .int a1]) (st := []) cv_X12_in rfl w_790 rfl (Nat.le_of_ble_eq_true rfl) (ok_X12_in N (d + 1) a3 1 a1 I5 L6) dX12_share_23 (fun x7 I8 L9 => ?_)
      refine ev_if_eq (pc := 26) 50 (by decide) dX12_share_26 ?_ ?_
      · refine ev_ldc2 (pc := 50) w_939 dX12_share_50 ?_
        exact ev_lret (pc := 53) rfl dX12_share_53
      · refine ev_iload (pc := 29) 4 dX12_share_29 rfl ?_
        refine ev_iconst (pc := 31) 0 k_iconst_0 dX12_share_31 ?_
        refine ev_bipush (pc := 32) 99 k_bipush_99 dX12_share_32 ?_
        refine ev_callSI (pc := 34) (d := d + 1) (As := [.int a4, .int 0, .int 99]) (st := []) cv_X12_in rfl w_790 rfl (Nat.le_of_ble_eq_true rfl) (ok_X12_in N (d + 1) a4 0 99 I8 L9) dX12_share_34 (fun x10 I11 L12 => ?_)
        refine ev_if_eq (pc := 37) 50 (by decide) dX12_share_37 ?_ ?_
        · refine ev_ldc2 (pc := 50) w_939 dX12_share_50 ?_
          exact ev_lret (pc := 53) rfl dX12_share_53
        · refine ev_iload (pc := 40) 5 dX12_share_40 rfl ?_
          refine ev_iconst (pc := 42) 0 k_iconst_0 dX12_share_42 ?_
          refine ev_iconst (pc := 43) 1 k_iconst_1 dX12_share_43 ?_
          refine ev_callSI (pc := 44) (d := d + 1) (As := [.int a5, .int 0, .int 1]) (st := []) cv_X12_in rfl w_790 rfl (Nat.le_of_ble_eq_true rfl) (ok_X12_in N (d + 1) a5 0 1 I11 L12) dX12_share_44 (fun x13 I14 L15 => ?_)
          refine ev_if_ne (pc := 47) 54 (by decide) dX12_share_47 ?_ ?_
          · refine ev_lconst (pc := 54) 0 rfl dX12_share_54 ?_
            refine ev_lstore (pc := 55) (lv' := [(6, .long 0), (0, .ref 12), (1, .int a1), (2, .int a2), (3, .int a3), (4, .int a4), (5, .int a5)]) dX12_share_55 rfl rfl ?_
            refine ev_iconst (pc := 57) 0 k_iconst_0 dX12_share_57 ?_
            refine ev_istore (pc := 58) (lv' := [(8, .int 0), (6, .long 0), (0, .ref 12), (1, .int a1), (2, .int a2), (3, .int a3), (4, .int a4), (5, .int a5)]) dX12_share_58 rfl rfl ?_
            refine EvW.sub [3, 4, 5, 6, 7, 1, 0] rfl ?_
            exact E_X12_share_60 N d N a1 a2 a3 a4 a5 0 0 I14 L15
          · refine ev_ldc2 (pc := 50) w_939 dX12_share_50 ?_
            exact ev_lret (pc := 53) rfl dX12_share_53
def f_X12_beam (N : Nat) (a1 : Int32) (a2 : Int32) (a3 : Int32) (I : PI) (L : PL) : RES := bI (f_X12_in N a1 1 20 I L) (fun x1 I2 L3 => (if x1 = 0 then some (some (.int (-1 : Int32)), I2, L3) else bI (f_X12_in N a2 1 99 I2 L3) (fun x4 I5 L6 => (if x4 = 0 then some (some (.int (-1 : Int32)), I5, L6) else bI (f_X12_in N a3 0 99 I5 L6) (fun x7 I8 L9 => (if x7 = 0 then some (some (.int (-1 : Int32)), I8, L9) else (if (I8 12 50) = 8 then some (some (.int (-1 : Int32)), I8, L9) else gd (inb (I8 12 50) 8) (nmW (uI I8 60 (Int32.toNatClampNeg (I8 12 50)) a1) (fun I10 => gd (inb (I10 12 50) 8) (nmW (uI I10 61 (Int32.toNatClampNeg (I10 12 50)) a2) (fun I11 => gd (inb (I11 12 50) 8) (nmW (uI I11 62 (Int32.toNatClampNeg (I11 12 50)) a3) (fun I12 => nmW (uI I12 12 50 ((I12 12 50) + 1)) (fun I13 => some (some (.int ((I13 12 50) - 1)), I13, L9)))))))))))))))
set_option maxRecDepth 100000 in
theorem ok_X12_beam (N d : Nat) (a1 : Int32) (a2 : Int32) (a3 : Int32) (I : PI) (L : PL) : MOk M_X12_beam (d + 1) [.ref 12, .int a1, .int a2, .int a3] I L (f_X12_beam N a1 a2 a3 I L) := by
  refine MOk.of (by decide +kernel) (Nat.le_of_ble_eq_true rfl) ?_
  show EvW _ _ 0 [(0, .ref 12), (1, .int a1), (2, .int a2), (3, .int a3)] [] I L _
  rw [f_X12_beam]
  refine ev_iload_n (pc := 0) 1 dX12_beam_0 rfl ?_
  refine ev_iconst (pc := 1) 1 k_iconst_1 dX12_beam_1 ?_
  refine ev_bipush (pc := 2) 20 k_bipush_20 dX12_beam_2 ?_
  refine ev_callSI (pc := 4) (d := d) (As := [.int a1, .int 1, .int 20]) (st := []) cv_X12_in rfl w_790 rfl (Nat.le_of_ble_eq_true rfl) (ok_X12_in N (d) a1 1 20 I L) dX12_beam_4 (fun x1 I2 L3 => ?_)
  refine ev_if_eq (pc := 7) 39 (by decide) dX12_beam_7 ?_ ?_
  · refine ev_iconst (pc := 39) (-1 : Int32) k_iconst_m1 dX12_beam_39 ?_
    exact ev_iret (pc := 40) rfl dX12_beam_40
  · refine ev_iload_n (pc := 10) 2 dX12_beam_10 rfl ?_
    refine ev_iconst (pc := 11) 1 k_iconst_1 dX12_beam_11 ?_
    refine ev_bipush (pc := 12) 99 k_bipush_99 dX12_beam_12 ?_
    refine ev_callSI (pc := 14) (d := d) (As := [.int a2, .int 1, .int 99]) (st := []) cv_X12_in rfl w_790 rfl (Nat.le_of_ble_eq_true rfl) (ok_X12_in N (d) a2 1 99 I2 L3) dX12_beam_14 (fun x4 I5 L6 => ?_)
    refine ev_if_eq (pc := 17) 39 (by decide) dX12_beam_17 ?_ ?_
    · refine ev_iconst (pc := 39) (-1 : Int32) k_iconst_m1 dX12_beam_39 ?_
      exact ev_iret (pc := 40) rfl dX12_beam_40
    · refine ev_iload_n (pc := 20) 3 dX12_beam_20 rfl ?_
      refine ev_iconst (pc := 21) 0 k_iconst_0 dX12_beam_21 ?_
      refine ev_bipush (pc := 22) 99 k_bipush_99 dX12_beam_22 ?_
      refine ev_callSI (pc := 24) (d := d) (As := [.int a3, .int 0, .int 99]) (st := []) cv_X12_in rfl w_790 rfl (Nat.le_of_ble_eq_true rfl) (ok_X12_in N (d) a3 0 99 I5 L6) dX12_beam_24 (fun x7 I8 L9 => ?_)
      refine ev_if_eq (pc := 27) 39 (by decide) dX12_beam_27 ?_ ?_
      · refine ev_iconst (pc := 39) (-1 : Int32) k_iconst_m1 dX12_beam_39 ?_
        exact ev_iret (pc := 40) rfl dX12_beam_40
      · refine ev_aload_n (pc := 30) 0 dX12_beam_30 rfl ?_
        refine gf_X12_384 (pc := 31) rfl dX12_beam_31 ?_
        refine ev_bipush (pc := 34) 8 k_bipush_8 dX12_beam_34 ?_
        refine ev_icmp_ne (pc := 36) 41 (by decide) dX12_beam_36 ?_ ?_
        · refine ev_aload_n (pc := 41) 0 dX12_beam_41 rfl ?_
          refine gf_X12_92 (pc := 42) rfl dX12_beam_42 ?_
          refine ev_aload_n (pc := 45) 0 dX12_beam_45 rfl ?_
          refine gf_X12_384 (pc := 46) rfl dX12_beam_46 ?_
          refine ev_iload_n (pc := 49) 1 dX12_beam_49 rfl ?_
          refine ev_iast (pc := 50) kK_60 dX12_beam_50 ?_
          refine ev_nmW (fun I10 => ?_)
          refine ev_aload_n (pc := 51) 0 dX12_beam_51 rfl ?_
          refine gf_X12_95 (pc := 52) rfl dX12_beam_52 ?_
          refine ev_aload_n (pc := 55) 0 dX12_beam_55 rfl ?_
          refine gf_X12_384 (pc := 56) rfl dX12_beam_56 ?_
          refine ev_iload_n (pc := 59) 2 dX12_beam_59 rfl ?_
          refine ev_iast (pc := 60) kK_61 dX12_beam_60 ?_
          refine ev_nmW (fun I11 => ?_)
          refine ev_aload_n (pc := 61) 0 dX12_beam_61 rfl ?_
          refine gf_X12_98 (pc := 62) rfl dX12_beam_62 ?_
          refine ev_aload_n (pc := 65) 0 dX12_beam_65 rfl ?_
          refine gf_X12_384 (pc := 66) rfl dX12_beam_66 ?_
          refine ev_iload_n (pc := 69) 3 dX12_beam_69 rfl ?_
          refine ev_iast (pc := 70) kK_62 dX12_beam_70 ?_
          refine ev_nmW (fun I12 => ?_)
          refine ev_aload_n (pc := 71) 0 dX12_beam_71 rfl ?_
          refine ev_dup (pc := 72) rfl dX12_beam_72 ?_
          refine gf_X12_384 (pc := 73) rfl dX12_beam_73 ?_
          refine ev_iconst (pc := 76) 1 k_iconst_1 dX12_beam_76 ?_
          refine ev_iadd (pc := 77) dX12_beam_77 ?_
          refine pf_X12_384 (pc := 78) rfl dX12_beam_78 ?_
          refine ev_nmW (fun I13 => ?_)
          refine ev_aload_n (pc := 81) 0 dX12_beam_81 rfl ?_
          refine gf_X12_384 (pc := 82) rfl dX12_beam_82 ?_
          refine ev_iconst (pc := 85) 1 k_iconst_1 dX12_beam_85 ?_
          refine ev_isub (pc := 86) dX12_beam_86 ?_
          exact ev_iret (pc := 87) rfl dX12_beam_87
        · refine ev_iconst (pc := 39) (-1 : Int32) k_iconst_m1 dX12_beam_39 ?_
          exact ev_iret (pc := 40) rfl dX12_beam_40
def F_X12_isDue_2 (N : Nat) : Nat → Int32 → Int32 → Int32 → PI → PL → RES
  | 0, _, _, _, _, _ => none
  | n + 1, v1, v2, v3, I, L => (if (I 12 50) ≤ v3 then gd (decide (0 &&& 1 = 0)) (some (some (.int 0), I, L)) else bI (f_X12_has N v1 v3 I L) (fun x1 I2 L3 => (if x1 = 0 then (F_X12_isDue_2 N n) v1 v2 (v3 + 1) I2 L3 else gd (inb v3 8) ((if (I2 61 (Int32.toNatClampNeg v3)) = v2 then gd (decide (1 &&& 1 = 1)) (some (some (.int 1), I2, L3)) else (F_X12_isDue_2 N n) v1 v2 (v3 + 1) I2 L3)))))
set_option maxRecDepth 100000 in
theorem E_X12_isDue_2 (N d : Nat) : ∀ (n : Nat) (v1 : Int32) (v2 : Int32) (v3 : Int32) (I : PI) (L : PL), EvW M_X12_isDue (d + 1) 2 [(0, .ref 12), (1, .int v1), (2, .int v2), (3, .int v3)] [] I L (F_X12_isDue_2 N n v1 v2 v3 I L) := by
  intro n
  induction n with
  | zero =>
    intro v1 v2 v3 I L
    exact EvW.none
  | succ n hr_2 =>
    intro v1 v2 v3 I L
    rw [F_X12_isDue_2]
    refine ev_iload_n (pc := 2) 3 dX12_isDue_2 rfl ?_
    refine ev_aload_n (pc := 3) 0 dX12_isDue_3 rfl ?_
    refine gf_X12_384 (pc := 4) rfl dX12_isDue_4 ?_
    refine ev_icmp_ge (pc := 7) 36 (by decide) dX12_isDue_7 ?_ ?_
    · refine ev_iconst (pc := 36) 0 k_iconst_0 dX12_isDue_36 ?_
      exact ev_zret (pc := 37) rfl dX12_isDue_37
    · refine ev_iload_n (pc := 10) 1 dX12_isDue_10 rfl ?_
      refine ev_iload_n (pc := 11) 3 dX12_isDue_11 rfl ?_
      refine ev_callSI (pc := 12) (d := d) (As := [.int v1, .int v3]) (st := []) cv_X12_has rfl w_869 rfl (Nat.le_of_ble_eq_true rfl) (ok_X12_has N (d) v1 v3 I L) dX12_isDue_12 (fun x1 I2 L3 => ?_)
      refine ev_if_eq (pc := 15) 30 (by decide) dX12_isDue_15 ?_ ?_
      · refine ev_iinc (pc := 30) (lv' := [(3, .int (v3 + 1)), (0, .ref 12), (1, .int v1), (2, .int v2)]) dX12_isDue_30 3 rfl rfl 1 k_iconst_1 rfl ?_
        refine ev_goto (pc := 33) 2 (by decide) dX12_isDue_33 ?_
        refine EvW.sub [1, 2, 3, 0] rfl ?_
        exact hr_2 v1 v2 (v3 + 1) I2 L3
      · refine ev_aload_n (pc := 18) 0 dX12_isDue_18 rfl ?_
        refine gf_X12_95 (pc := 19) rfl dX12_isDue_19 ?_
        refine ev_iload_n (pc := 22) 3 dX12_isDue_22 rfl ?_
        refine ev_iald (pc := 23) kK_61 dX12_isDue_23 ?_
        refine ev_iload_n (pc := 24) 2 dX12_isDue_24 rfl ?_
        refine ev_icmp_ne (pc := 25) 30 (by decide) dX12_isDue_25 ?_ ?_
        · refine ev_iinc (pc := 30) (lv' := [(3, .int (v3 + 1)), (0, .ref 12), (1, .int v1), (2, .int v2)]) dX12_isDue_30 3 rfl rfl 1 k_iconst_1 rfl ?_
          refine ev_goto (pc := 33) 2 (by decide) dX12_isDue_33 ?_
          refine EvW.sub [1, 2, 3, 0] rfl ?_
          exact hr_2 v1 v2 (v3 + 1) I2 L3
        · refine ev_iconst (pc := 28) 1 k_iconst_1 dX12_isDue_28 ?_
          exact ev_zret (pc := 29) rfl dX12_isDue_29
def f_X12_isDue (N : Nat) (a1 : Int32) (a2 : Int32) (I : PI) (L : PL) : RES := F_X12_isDue_2 N N a1 a2 0 I L
set_option maxRecDepth 100000 in
theorem ok_X12_isDue (N d : Nat) (a1 : Int32) (a2 : Int32) (I : PI) (L : PL) : MOk M_X12_isDue (d + 1) [.ref 12, .int a1, .int a2] I L (f_X12_isDue N a1 a2 I L) := by
  refine MOk.of (by decide +kernel) (Nat.le_of_ble_eq_true rfl) ?_
  show EvW _ _ 0 [(0, .ref 12), (1, .int a1), (2, .int a2)] [] I L _
  rw [f_X12_isDue]
  refine ev_iconst (pc := 0) 0 k_iconst_0 dX12_isDue_0 ?_
  refine ev_istore_n (pc := 1) (lv' := [(3, .int 0), (0, .ref 12), (1, .int a1), (2, .int a2)]) dX12_isDue_1 rfl rfl rfl ?_
  refine EvW.sub [1, 2, 3, 0] rfl ?_
  exact E_X12_isDue_2 N d N a1 a2 0 I L
def F_X12_areDone_53 (N : Nat) (r_2 : Int32 → Int32 → PI → PL → RES) (r_13 : Int32 → Int32 → Int32 → Int32 → PI → PL → RES) (v1 : Int32) (v2 : Int32) (v4 : Int32) (s0 : Int32) (I : PI) (L : PL) : RES := nmI (s0 + 0) (fun x7 => r_13 v1 v2 x7 (v4 + 1) I L)
set_option maxRecDepth 100000 in
theorem E_X12_areDone_53 (N d : Nat) (r_2 : Int32 → Int32 → PI → PL → RES) (r_13 : Int32 → Int32 → Int32 → Int32 → PI → PL → RES) (hr_2 : ∀ (v1 : Int32) (v2 : Int32) (I : PI) (L : PL), EvW M_X12_areDone (d + 2) 2 [(0, .ref 12), (1, .int v1), (2, .int v2)] [] I L (r_2 v1 v2 I L)) (hr_13 : ∀ (v1 : Int32) (v2 : Int32) (v3 : Int32) (v4 : Int32) (I : PI) (L : PL), EvW M_X12_areDone (d + 2) 13 [(0, .ref 12), (1, .int v1), (2, .int v2), (3, .int v3), (4, .int v4)] [] I L (r_13 v1 v2 v3 v4 I L)) (v1 : Int32) (v2 : Int32) (v4 : Int32) (s0 : Int32) (I : PI) (L : PL) : EvW M_X12_areDone (d + 2) 53 [(0, .ref 12), (1, .int v1), (2, .int v2), (4, .int v4)] [.int s0] I L (F_X12_areDone_53 N r_2 r_13 v1 v2 v4 s0 I L) := by
  rw [F_X12_areDone_53]
  refine ev_iconst (pc := 53) 0 k_iconst_0 dX12_areDone_53 ?_
  refine ev_iadd (pc := 54) dX12_areDone_54 ?_
  refine ev_nmI (fun x7 => ?_)
  refine ev_istore_n (pc := 55) (lv' := [(3, .int x7), (0, .ref 12), (1, .int v1), (2, .int v2), (4, .int v4)]) dX12_areDone_55 rfl rfl rfl ?_
  refine ev_iinc (pc := 56) (lv' := [(4, .int (v4 + 1)), (3, .int x7), (0, .ref 12), (1, .int v1), (2, .int v2)]) dX12_areDone_56 4 rfl rfl 1 k_iconst_1 rfl ?_
  refine ev_goto (pc := 59) 13 (by decide) dX12_areDone_59 ?_
  refine EvW.sub [2, 3, 4, 1, 0] rfl ?_
  exact hr_13 v1 v2 x7 (v4 + 1) I L
def F_X12_areDone_13 (N : Nat) (r_2 : Int32 → Int32 → PI → PL → RES) : Nat → Int32 → Int32 → Int32 → Int32 → PI → PL → RES
  | 0, _, _, _, _, _, _ => none
  | n + 1, v1, v2, v3, v4, I, L => (if (I 12 50) ≤ v4 then (if v3 ≤ v2 then r_2 v1 (v2 + 1) I L else bI (f_X12_isDue N v1 v2 I L) (fun x1 I2 L3 => (if x1 = 0 then r_2 v1 (v2 + 1) I2 L3 else gd (decide (0 &&& 1 = 0)) (some (some (.int 0), I2, L3))))) else bI (f_X12_has N v1 v4 I L) (fun x4 I5 L6 => (if x4 = 0 then F_X12_areDone_53 N r_2 (F_X12_areDone_13 N r_2 n) v1 v2 v4 v3 I5 L6 else gd (inb v4 8) ((if v2 < (I5 61 (Int32.toNatClampNeg v4)) then F_X12_areDone_53 N r_2 (F_X12_areDone_13 N r_2 n) v1 v2 v4 v3 I5 L6 else gd (inb v4 8) (nmI (v3 + (I5 60 (Int32.toNatClampNeg v4))) (fun x8 => (F_X12_areDone_13 N r_2 n) v1 v2 x8 (v4 + 1) I5 L6)))))))
set_option maxRecDepth 100000 in
theorem E_X12_areDone_13 (N d : Nat) (r_2 : Int32 → Int32 → PI → PL → RES) (hr_2 : ∀ (v1 : Int32) (v2 : Int32) (I : PI) (L : PL), EvW M_X12_areDone (d + 2) 2 [(0, .ref 12), (1, .int v1), (2, .int v2)] [] I L (r_2 v1 v2 I L)) : ∀ (n : Nat) (v1 : Int32) (v2 : Int32) (v3 : Int32) (v4 : Int32) (I : PI) (L : PL), EvW M_X12_areDone (d + 2) 13 [(0, .ref 12), (1, .int v1), (2, .int v2), (3, .int v3), (4, .int v4)] [] I L (F_X12_areDone_13 N r_2 n v1 v2 v3 v4 I L) := by
  intro n
  induction n with
  | zero =>
    intro v1 v2 v3 v4 I L
    exact EvW.none
  | succ n hr_13 =>
    intro v1 v2 v3 v4 I L
    rw [F_X12_areDone_13]
    refine ev_iload (pc := 13) 4 dX12_areDone_13 rfl ?_
    refine ev_aload_n (pc := 15) 0 dX12_areDone_15 rfl ?_
    refine gf_X12_384 (pc := 16) rfl dX12_areDone_16 ?_
    refine ev_icmp_ge (pc := 19) 62 (by decide) dX12_areDone_19 ?_ ?_
    · refine ev_iload_n (pc := 62) 3 dX12_areDone_62 rfl ?_
      refine ev_iload_n (pc := 63) 2 dX12_areDone_63 rfl ?_
      refine ev_icmp_le (pc := 64) 78 (by decide) dX12_areDone_64 ?_ ?_
      · refine ev_iinc (pc := 78) (lv' := [(2, .int (v2 + 1)), (0, .ref 12), (1, .int v1), (3, .int v3), (4, .int v4)]) dX12_areDone_78 2 rfl rfl 1 k_iconst_1 rfl ?_
        refine ev_goto (pc := 81) 2 (by decide) dX12_areDone_81 ?_
        refine EvW.sub [1, 2, 0] rfl ?_
        exact hr_2 v1 (v2 + 1) I L
      · refine ev_aload_n (pc := 67) 0 dX12_areDone_67 rfl ?_
        refine ev_iload_n (pc := 68) 1 dX12_areDone_68 rfl ?_
        refine ev_iload_n (pc := 69) 2 dX12_areDone_69 rfl ?_
        refine ev_callVI (pc := 70) (d := d + 1) (As := [.int v1, .int v2]) (st := []) cv_X12_isDue rfl w_956 rfl (Nat.le_of_ble_eq_true rfl) (ok_X12_isDue N (d) v1 v2 I L) dX12_areDone_70 (fun x1 I2 L3 => ?_)
        refine ev_if_eq (pc := 73) 78 (by decide) dX12_areDone_73 ?_ ?_
        · refine ev_iinc (pc := 78) (lv' := [(2, .int (v2 + 1)), (0, .ref 12), (1, .int v1), (3, .int v3), (4, .int v4)]) dX12_areDone_78 2 rfl rfl 1 k_iconst_1 rfl ?_
          refine ev_goto (pc := 81) 2 (by decide) dX12_areDone_81 ?_
          refine EvW.sub [1, 2, 0] rfl ?_
          exact hr_2 v1 (v2 + 1) I2 L3
        · refine ev_iconst (pc := 76) 0 k_iconst_0 dX12_areDone_76 ?_
          exact ev_zret (pc := 77) rfl dX12_areDone_77
    · refine ev_iload_n (pc := 22) 3 dX12_areDone_22 rfl ?_
      refine ev_iload_n (pc := 23) 1 dX12_areDone_23 rfl ?_
      refine ev_iload (pc := 24) 4 dX12_areDone_24 rfl ?_
      refine ev_callSI (pc := 26) (d := d + 1) (As := [.int v1, .int v4]) (st := [.int v3]) cv_X12_has rfl w_869 rfl (Nat.le_of_ble_eq_true rfl) (ok_X12_has N (d + 1) v1 v4 I L) dX12_areDone_26 (fun x4 I5 L6 => ?_)
      refine ev_if_eq (pc := 29) 53 (by decide) dX12_areDone_29 ?_ ?_
      · refine EvW.sub [0, 1, 2, 4] rfl ?_
        exact E_X12_areDone_53 N d r_2 (F_X12_areDone_13 N r_2 n) hr_2 hr_13 v1 v2 v4 v3 I5 L6
      · refine ev_aload_n (pc := 32) 0 dX12_areDone_32 rfl ?_
        refine gf_X12_95 (pc := 33) rfl dX12_areDone_33 ?_
        refine ev_iload (pc := 36) 4 dX12_areDone_36 rfl ?_
        refine ev_iald (pc := 38) kK_61 dX12_areDone_38 ?_
        refine ev_iload_n (pc := 39) 2 dX12_areDone_39 rfl ?_
        refine ev_icmp_gt (pc := 40) 53 (by decide) dX12_areDone_40 ?_ ?_
        · refine EvW.sub [0, 1, 2, 4] rfl ?_
          exact E_X12_areDone_53 N d r_2 (F_X12_areDone_13 N r_2 n) hr_2 hr_13 v1 v2 v4 v3 I5 L6
        · refine ev_aload_n (pc := 43) 0 dX12_areDone_43 rfl ?_
          refine gf_X12_92 (pc := 44) rfl dX12_areDone_44 ?_
          refine ev_iload (pc := 47) 4 dX12_areDone_47 rfl ?_
          refine ev_iald (pc := 49) kK_60 dX12_areDone_49 ?_
          refine ev_goto (pc := 50) 54 (by decide) dX12_areDone_50 ?_
          refine ev_iadd (pc := 54) dX12_areDone_54 ?_
          refine ev_nmI (fun x8 => ?_)
          refine ev_istore_n (pc := 55) (lv' := [(3, .int x8), (0, .ref 12), (1, .int v1), (2, .int v2), (4, .int v4)]) dX12_areDone_55 rfl rfl rfl ?_
          refine ev_iinc (pc := 56) (lv' := [(4, .int (v4 + 1)), (3, .int x8), (0, .ref 12), (1, .int v1), (2, .int v2)]) dX12_areDone_56 4 rfl rfl 1 k_iconst_1 rfl ?_
          refine ev_goto (pc := 59) 13 (by decide) dX12_areDone_59 ?_
          refine EvW.sub [2, 3, 4, 1, 0] rfl ?_
          exact hr_13 v1 v2 x8 (v4 + 1) I5 L6
def F_X12_areDone_2 (N : Nat) : Nat → Int32 → Int32 → PI → PL → RES
  | 0, _, _, _, _ => none
  | n + 1, v1, v2, I, L => (if 99 < v2 then gd (decide (1 &&& 1 = 1)) (some (some (.int 1), I, L)) else F_X12_areDone_13 N (F_X12_areDone_2 N n) N v1 v2 0 0 I L)
set_option maxRecDepth 100000 in
theorem E_X12_areDone_2 (N d : Nat) : ∀ (n : Nat) (v1 : Int32) (v2 : Int32) (I : PI) (L : PL), EvW M_X12_areDone (d + 2) 2 [(0, .ref 12), (1, .int v1), (2, .int v2)] [] I L (F_X12_areDone_2 N n v1 v2 I L) := by
  intro n
  induction n with
  | zero =>
    intro v1 v2 I L
    exact EvW.none
  | succ n hr_2 =>
    intro v1 v2 I L
    rw [F_X12_areDone_2]
    refine ev_iload_n (pc := 2) 2 dX12_areDone_2 rfl ?_
    refine ev_bipush (pc := 3) 99 k_bipush_99 dX12_areDone_3 ?_
    refine ev_icmp_gt (pc := 5) 84 (by decide) dX12_areDone_5 ?_ ?_
    · refine ev_iconst (pc := 84) 1 k_iconst_1 dX12_areDone_84 ?_
      exact ev_zret (pc := 85) rfl dX12_areDone_85
    · refine ev_iconst (pc := 8) 0 k_iconst_0 dX12_areDone_8 ?_
      refine ev_istore_n (pc := 9) (lv' := [(3, .int 0), (0, .ref 12), (1, .int v1), (2, .int v2)]) dX12_areDone_9 rfl rfl rfl ?_
      refine ev_iconst (pc := 10) 0 k_iconst_0 dX12_areDone_10 ?_
      refine ev_istore (pc := 11) (lv' := [(4, .int 0), (3, .int 0), (0, .ref 12), (1, .int v1), (2, .int v2)]) dX12_areDone_11 rfl rfl ?_
      refine EvW.sub [2, 3, 4, 1, 0] rfl ?_
      exact E_X12_areDone_13 N d (F_X12_areDone_2 N n) hr_2 N v1 v2 0 0 I L
def f_X12_areDone (N : Nat) (a1 : Int32) (I : PI) (L : PL) : RES := F_X12_areDone_2 N N a1 1 I L
set_option maxRecDepth 100000 in
theorem ok_X12_areDone (N d : Nat) (a1 : Int32) (I : PI) (L : PL) : MOk M_X12_areDone (d + 2) [.ref 12, .int a1] I L (f_X12_areDone N a1 I L) := by
  refine MOk.of (by decide +kernel) (Nat.le_of_ble_eq_true rfl) ?_
  show EvW _ _ 0 [(0, .ref 12), (1, .int a1)] [] I L _
  rw [f_X12_areDone]
  refine ev_iconst (pc := 0) 1 k_iconst_1 dX12_areDone_0 ?_
  refine ev_istore_n (pc := 1) (lv' := [(2, .int 1), (0, .ref 12), (1, .int a1)]) dX12_areDone_1 rfl rfl rfl ?_
  refine EvW.sub [1, 2, 0] rfl ?_
  exact E_X12_areDone_2 N d N a1 1 I L
def F_X12_plan_42 (N : Nat) (r_25 : Int32 → Int32 → Int32 → Int32 → PI → PL → RES) : Nat → Int32 → Int32 → Int32 → Int32 → Int32 → Int32 → PI → PL → RES
  | 0, _, _, _, _, _, _, _, _ => none
  | n + 1, v1, v2, v3, v4, v5, v6, I, L => (if (I 12 50) ≤ v6 then (if v5 ≤ v3 then r_25 v1 v2 v3 (v4 + 1) I L else bI (f_X12_areDone N v4 I L) (fun x4 I5 L6 => (if x4 = 0 then r_25 v1 v2 v3 (v4 + 1) I5 L6 else r_25 v1 v4 v5 (v4 + 1) I5 L6))) else bI (f_X12_has N v4 v6 I L) (fun x7 I8 L9 => (if x7 = 0 then nmI (v5 + 0) (fun x10 => (F_X12_plan_42 N r_25 n) v1 v2 v3 v4 x10 (v6 + 1) I8 L9) else gd (inb v6 8) (nmI (v5 + (I8 62 (Int32.toNatClampNeg v6))) (fun x11 => (F_X12_plan_42 N r_25 n) v1 v2 v3 v4 x11 (v6 + 1) I8 L9)))))
set_option maxRecDepth 100000 in
theorem E_X12_plan_42 (N d : Nat) (r_25 : Int32 → Int32 → Int32 → Int32 → PI → PL → RES) (hr_25 : ∀ (v1 : Int32) (v2 : Int32) (v3 : Int32) (v4 : Int32) (I : PI) (L : PL), EvW M_X12_plan (d + 3) 25 [(0, .ref 12), (1, .int v1), (2, .int v2), (3, .int v3), (4, .int v4)] [] I L (r_25 v1 v2 v3 v4 I L)) : ∀ (n : Nat) (v1 : Int32) (v2 : Int32) (v3 : Int32) (v4 : Int32) (v5 : Int32) (v6 : Int32) (I : PI) (L : PL), EvW M_X12_plan (d + 3) 42 [(0, .ref 12), (1, .int v1), (2, .int v2), (3, .int v3), (4, .int v4), (5, .int v5), (6, .int v6)] [] I L (F_X12_plan_42 N r_25 n v1 v2 v3 v4 v5 v6 I L) := by
  intro n
  induction n with
  | zero =>
    intro v1 v2 v3 v4 v5 v6 I L
    exact EvW.none
  | succ n hr_42 =>
    intro v1 v2 v3 v4 v5 v6 I L
    rw [F_X12_plan_42]
    refine ev_iload (pc := 42) 6 dX12_plan_42 rfl ?_
    refine ev_aload_n (pc := 44) 0 dX12_plan_44 rfl ?_
    refine gf_X12_384 (pc := 45) rfl dX12_plan_45 ?_
    refine ev_icmp_ge (pc := 48) 83 (by decide) dX12_plan_48 ?_ ?_
    · refine ev_iload (pc := 83) 5 dX12_plan_83 rfl ?_
      refine ev_iload_n (pc := 85) 3 dX12_plan_85 rfl ?_
      refine ev_icmp_le (pc := 86) 104 (by decide) dX12_plan_86 ?_ ?_
      · refine ev_iinc (pc := 104) (lv' := [(4, .int (v4 + 1)), (0, .ref 12), (1, .int v1), (2, .int v2), (3, .int v3), (5, .int v5), (6, .int v6)]) dX12_plan_104 4 rfl rfl 1 k_iconst_1 rfl ?_
        refine ev_goto (pc := 107) 25 (by decide) dX12_plan_107 ?_
        refine EvW.sub [1, 2, 3, 4, 0] rfl ?_
        exact hr_25 v1 v2 v3 (v4 + 1) I L
      · refine ev_aload_n (pc := 89) 0 dX12_plan_89 rfl ?_
        refine ev_iload (pc := 90) 4 dX12_plan_90 rfl ?_
        refine ev_callVI (pc := 92) (d := d + 2) (As := [.int v4]) (st := []) cv_X12_areDone rfl w_960 rfl (Nat.le_of_ble_eq_true rfl) (ok_X12_areDone N (d) v4 I L) dX12_plan_92 (fun x4 I5 L6 => ?_)
        refine ev_if_eq (pc := 95) 104 (by decide) dX12_plan_95 ?_ ?_
        · refine ev_iinc (pc := 104) (lv' := [(4, .int (v4 + 1)), (0, .ref 12), (1, .int v1), (2, .int v2), (3, .int v3), (5, .int v5), (6, .int v6)]) dX12_plan_104 4 rfl rfl 1 k_iconst_1 rfl ?_
          refine ev_goto (pc := 107) 25 (by decide) dX12_plan_107 ?_
          refine EvW.sub [1, 2, 3, 4, 0] rfl ?_
          exact hr_25 v1 v2 v3 (v4 + 1) I5 L6
        · refine ev_iload (pc := 98) 4 dX12_plan_98 rfl ?_
          refine ev_istore_n (pc := 100) (lv' := [(2, .int v4), (0, .ref 12), (1, .int v1), (3, .int v3), (4, .int v4), (5, .int v5), (6, .int v6)]) dX12_plan_100 rfl rfl rfl ?_
          refine ev_iload (pc := 101) 5 dX12_plan_101 rfl ?_
          refine ev_istore_n (pc := 103) (lv' := [(3, .int v5), (2, .int v4), (0, .ref 12), (1, .int v1), (4, .int v4), (5, .int v5), (6, .int v6)]) dX12_plan_103 rfl rfl rfl ?_
          refine ev_iinc (pc := 104) (lv' := [(4, .int (v4 + 1)), (3, .int v5), (2, .int v4), (0, .ref 12), (1, .int v1), (5, .int v5), (6, .int v6)]) dX12_plan_104 4 rfl rfl 1 k_iconst_1 rfl ?_
          refine ev_goto (pc := 107) 25 (by decide) dX12_plan_107 ?_
          refine EvW.sub [3, 4, 2, 1, 0] rfl ?_
          exact hr_25 v1 v4 v5 (v4 + 1) I5 L6
    · refine ev_iload (pc := 51) 5 dX12_plan_51 rfl ?_
      refine ev_iload (pc := 53) 4 dX12_plan_53 rfl ?_
      refine ev_iload (pc := 55) 6 dX12_plan_55 rfl ?_
      refine ev_callSI (pc := 57) (d := d + 2) (As := [.int v4, .int v6]) (st := [.int v5]) cv_X12_has rfl w_869 rfl (Nat.le_of_ble_eq_true rfl) (ok_X12_has N (d + 2) v4 v6 I L) dX12_plan_57 (fun x7 I8 L9 => ?_)
      refine ev_if_eq (pc := 60) 73 (by decide) dX12_plan_60 ?_ ?_
      · refine ev_iconst (pc := 73) 0 k_iconst_0 dX12_plan_73 ?_
        refine ev_iadd (pc := 74) dX12_plan_74 ?_
        refine ev_nmI (fun x10 => ?_)
        refine ev_istore (pc := 75) (lv' := [(5, .int x10), (0, .ref 12), (1, .int v1), (2, .int v2), (3, .int v3), (4, .int v4), (6, .int v6)]) dX12_plan_75 rfl rfl ?_
        refine ev_iinc (pc := 77) (lv' := [(6, .int (v6 + 1)), (5, .int x10), (0, .ref 12), (1, .int v1), (2, .int v2), (3, .int v3), (4, .int v4)]) dX12_plan_77 6 rfl rfl 1 k_iconst_1 rfl ?_
        refine ev_goto (pc := 80) 42 (by decide) dX12_plan_80 ?_
        refine EvW.sub [2, 3, 4, 5, 6, 1, 0] rfl ?_
        exact hr_42 v1 v2 v3 v4 x10 (v6 + 1) I8 L9
      · refine ev_aload_n (pc := 63) 0 dX12_plan_63 rfl ?_
        refine gf_X12_98 (pc := 64) rfl dX12_plan_64 ?_
        refine ev_iload (pc := 67) 6 dX12_plan_67 rfl ?_
        refine ev_iald (pc := 69) kK_62 dX12_plan_69 ?_
        refine ev_goto (pc := 70) 74 (by decide) dX12_plan_70 ?_
        refine ev_iadd (pc := 74) dX12_plan_74 ?_
        refine ev_nmI (fun x11 => ?_)
        refine ev_istore (pc := 75) (lv' := [(5, .int x11), (0, .ref 12), (1, .int v1), (2, .int v2), (3, .int v3), (4, .int v4), (6, .int v6)]) dX12_plan_75 rfl rfl ?_
        refine ev_iinc (pc := 77) (lv' := [(6, .int (v6 + 1)), (5, .int x11), (0, .ref 12), (1, .int v1), (2, .int v2), (3, .int v3), (4, .int v4)]) dX12_plan_77 6 rfl rfl 1 k_iconst_1 rfl ?_
        refine ev_goto (pc := 80) 42 (by decide) dX12_plan_80 ?_
        refine EvW.sub [2, 3, 4, 5, 6, 1, 0] rfl ?_
        exact hr_42 v1 v2 v3 v4 x11 (v6 + 1) I8 L9
def F_X12_plan_25 (N : Nat) : Nat → Int32 → Int32 → Int32 → Int32 → PI → PL → RES
  | 0, _, _, _, _, _, _ => none
  | n + 1, v1, v2, v3, v4, I, L => (if ((1 : Int32) <<< ((I 12 50) &&& 31)) ≤ v4 then (if v1 = 0 then some (some (.int v3), I, L) else some (some (.int v2), I, L)) else F_X12_plan_42 N (F_X12_plan_25 N n) N v1 v2 v3 v4 0 0 I L)
set_option maxRecDepth 100000 in
theorem E_X12_plan_25 (N d : Nat) : ∀ (n : Nat) (v1 : Int32) (v2 : Int32) (v3 : Int32) (v4 : Int32) (I : PI) (L : PL), EvW M_X12_plan (d + 3) 25 [(0, .ref 12), (1, .int v1), (2, .int v2), (3, .int v3), (4, .int v4)] [] I L (F_X12_plan_25 N n v1 v2 v3 v4 I L) := by
  intro n
  induction n with
  | zero =>
    intro v1 v2 v3 v4 I L
    exact EvW.none
  | succ n hr_25 =>
    intro v1 v2 v3 v4 I L
    rw [F_X12_plan_25]
    refine ev_iload (pc := 25) 4 dX12_plan_25 rfl ?_
    refine ev_iconst (pc := 27) 1 k_iconst_1 dX12_plan_27 ?_
    refine ev_aload_n (pc := 28) 0 dX12_plan_28 rfl ?_
    refine gf_X12_384 (pc := 29) rfl dX12_plan_29 ?_
    refine ev_ishl (pc := 32) dX12_plan_32 ?_
    refine ev_icmp_ge (pc := 33) 110 (by decide) dX12_plan_33 ?_ ?_
    · refine ev_iload_n (pc := 110) 1 dX12_plan_110 rfl ?_
      refine ev_if_ne (pc := 111) 118 (by decide) dX12_plan_111 ?_ ?_
      · refine ev_iload_n (pc := 118) 2 dX12_plan_118 rfl ?_
        exact ev_iret (pc := 119) rfl dX12_plan_119
      · refine ev_iload_n (pc := 114) 3 dX12_plan_114 rfl ?_
        refine ev_goto (pc := 115) 119 (by decide) dX12_plan_115 ?_
        exact ev_iret (pc := 119) rfl dX12_plan_119
    · refine ev_iconst (pc := 36) 0 k_iconst_0 dX12_plan_36 ?_
      refine ev_istore (pc := 37) (lv' := [(5, .int 0), (0, .ref 12), (1, .int v1), (2, .int v2), (3, .int v3), (4, .int v4)]) dX12_plan_37 rfl rfl ?_
      refine ev_iconst (pc := 39) 0 k_iconst_0 dX12_plan_39 ?_
      refine ev_istore (pc := 40) (lv' := [(6, .int 0), (5, .int 0), (0, .ref 12), (1, .int v1), (2, .int v2), (3, .int v3), (4, .int v4)]) dX12_plan_40 rfl rfl ?_
      refine EvW.sub [2, 3, 4, 5, 6, 1, 0] rfl ?_
      exact E_X12_plan_42 N d (F_X12_plan_25 N n) hr_25 N v1 v2 v3 v4 0 0 I L
def f_X12_plan (N : Nat) (a1 : Int32) (I : PI) (L : PL) : RES := (if (I 12 50) = 0 then some (some (.int (-1 : Int32)), I, L) else bI (f_X12_in N a1 0 1 I L) (fun x1 I2 L3 => (if x1 = 0 then some (some (.int (-1 : Int32)), I2, L3) else F_X12_plan_25 N N a1 0 0 1 I2 L3)))
set_option maxRecDepth 100000 in
theorem ok_X12_plan (N d : Nat) (a1 : Int32) (I : PI) (L : PL) : MOk M_X12_plan (d + 3) [.ref 12, .int a1] I L (f_X12_plan N a1 I L) := by
  refine MOk.of (by decide +kernel) (Nat.le_of_ble_eq_true rfl) ?_
  show EvW _ _ 0 [(0, .ref 12), (1, .int a1)] [] I L _
  rw [f_X12_plan]
  refine ev_aload_n (pc := 0) 0 dX12_plan_0 rfl ?_
  refine gf_X12_384 (pc := 1) rfl dX12_plan_1 ?_
  refine ev_if_eq (pc := 4) 16 (by decide) dX12_plan_4 ?_ ?_
  · refine ev_iconst (pc := 16) (-1 : Int32) k_iconst_m1 dX12_plan_16 ?_
    exact ev_iret (pc := 17) rfl dX12_plan_17
  · refine ev_iload_n (pc := 7) 1 dX12_plan_7 rfl ?_
    refine ev_iconst (pc := 8) 0 k_iconst_0 dX12_plan_8 ?_
    refine ev_iconst (pc := 9) 1 k_iconst_1 dX12_plan_9 ?_
    refine ev_callSI (pc := 10) (d := d + 2) (As := [.int a1, .int 0, .int 1]) (st := []) cv_X12_in rfl w_790 rfl (Nat.le_of_ble_eq_true rfl) (ok_X12_in N (d + 2) a1 0 1 I L) dX12_plan_10 (fun x1 I2 L3 => ?_)
    refine ev_if_ne (pc := 13) 18 (by decide) dX12_plan_13 ?_ ?_
    · refine ev_iconst (pc := 18) 0 k_iconst_0 dX12_plan_18 ?_
      refine ev_istore_n (pc := 19) (lv' := [(2, .int 0), (0, .ref 12), (1, .int a1)]) dX12_plan_19 rfl rfl rfl ?_
      refine ev_iconst (pc := 20) 0 k_iconst_0 dX12_plan_20 ?_
      refine ev_istore_n (pc := 21) (lv' := [(3, .int 0), (2, .int 0), (0, .ref 12), (1, .int a1)]) dX12_plan_21 rfl rfl rfl ?_
      refine ev_iconst (pc := 22) 1 k_iconst_1 dX12_plan_22 ?_
      refine ev_istore (pc := 23) (lv' := [(4, .int 1), (3, .int 0), (2, .int 0), (0, .ref 12), (1, .int a1)]) dX12_plan_23 rfl rfl ?_
      refine EvW.sub [3, 4, 2, 1, 0] rfl ?_
      exact E_X12_plan_25 N d N a1 0 0 1 I2 L3
    · refine ev_iconst (pc := 16) (-1 : Int32) k_iconst_m1 dX12_plan_16 ?_
      exact ev_iret (pc := 17) rfl dX12_plan_17
def F_X12_turned_27 (N : Nat) (v2 : Int32) (v3 : Int32) (v4 : Int32) (v6 : Int32) (s0 : Int32) (s1 : Int32) (I : PI) (L : PL) : RES := gd (inb (s1 + s0) 216) (nmI (I 49 (Int32.toNatClampNeg (s1 + s0))) (fun x1 => (if v6 = 0 then some (some (.int (((v3 + (v4 * v2)) + x1) &&& 3)), I, L) else some (some (.int (((v3 + (v4 * v2)) + (4 - x1)) &&& 3)), I, L))))
set_option maxRecDepth 100000 in
theorem E_X12_turned_27 (N d : Nat) (v2 : Int32) (v3 : Int32) (v4 : Int32) (v6 : Int32) (s0 : Int32) (s1 : Int32) (I : PI) (L : PL) : EvW M_X12_turned (d) 27 [(2, .int v2), (3, .int v3), (4, .int v4), (6, .int v6)] [.int s0, .int s1, .ref 49] I L (F_X12_turned_27 N v2 v3 v4 v6 s0 s1 I L) := by
  rw [F_X12_turned_27]
  refine ev_iadd (pc := 27) dX12_turned_27 ?_
  refine ev_iald (pc := 28) kK_49 dX12_turned_28 ?_
  refine ev_nmI (fun x1 => ?_)
  refine ev_istore (pc := 29) (lv' := [(7, .int x1), (2, .int v2), (3, .int v3), (4, .int v4), (6, .int v6)]) dX12_turned_29 rfl rfl ?_
  refine ev_iload_n (pc := 31) 2 dX12_turned_31 rfl ?_
  refine ev_iload (pc := 32) 3 dX12_turned_32 rfl ?_
  refine ev_iload_n (pc := 34) 1 dX12_turned_34 rfl ?_
  refine ev_imul (pc := 35) dX12_turned_35 ?_
  refine ev_iadd (pc := 36) dX12_turned_36 ?_
  refine ev_iload (pc := 37) 4 dX12_turned_37 rfl ?_
  refine ev_if_eq (pc := 39) 49 (by decide) dX12_turned_39 ?_ ?_
  · refine ev_iload (pc := 49) 0 dX12_turned_49 rfl ?_
    refine ev_iadd (pc := 51) dX12_turned_51 ?_
    refine ev_iconst (pc := 52) 3 k_iconst_3 dX12_turned_52 ?_
    refine ev_iand (pc := 53) dX12_turned_53 ?_
    exact ev_iret (pc := 54) rfl dX12_turned_54
  · refine ev_iconst (pc := 42) 4 k_iconst_4 dX12_turned_42 ?_
    refine ev_iload (pc := 43) 0 dX12_turned_43 rfl ?_
    refine ev_isub (pc := 45) dX12_turned_45 ?_
    refine ev_goto (pc := 46) 51 (by decide) dX12_turned_46 ?_
    refine ev_iadd (pc := 51) dX12_turned_51 ?_
    refine ev_iconst (pc := 52) 3 k_iconst_3 dX12_turned_52 ?_
    refine ev_iand (pc := 53) dX12_turned_53 ?_
    exact ev_iret (pc := 54) rfl dX12_turned_54
def f_X12_turned (N : Nat) (a1 : Int32) (a2 : Int32) (a3 : Int32) (a4 : Int32) (a5 : Int32) (a6 : Int32) (I : PI) (L : PL) : RES := (if a5 = 0 then F_X12_turned_27 N a2 a3 a4 a6 a2 (24 * a1) I L else gd (inb a1 9) (F_X12_turned_27 N a2 a3 a4 a6 (((I 50 (Int32.toNatClampNeg a1)) - 1) - a2) (24 * a1) I L))
set_option maxRecDepth 100000 in
theorem ok_X12_turned (N d : Nat) (a1 : Int32) (a2 : Int32) (a3 : Int32) (a4 : Int32) (a5 : Int32) (a6 : Int32) (I : PI) (L : PL) : MOk M_X12_turned (d) [.ref 12, .int a1, .int a2, .int a3, .int a4, .int a5, .int a6] I L (f_X12_turned N a1 a2 a3 a4 a5 a6 I L) := by
  refine MOk.of (by decide +kernel) (Nat.le_of_ble_eq_true rfl) ?_
  show EvW _ _ 0 [(0, .ref 12), (1, .int a1), (2, .int a2), (3, .int a3), (4, .int a4), (5, .int a5), (6, .int a6)] [] I L _
  rw [f_X12_turned]
  refine ev_aload_n (pc := 0) 0 dX12_turned_0 rfl ?_
  refine gf_X12_40 (pc := 1) rfl dX12_turned_1 ?_
  refine ev_bipush (pc := 4) 24 k_bipush_24 dX12_turned_4 ?_
  refine ev_iload_n (pc := 6) 1 dX12_turned_6 rfl ?_
  refine ev_imul (pc := 7) dX12_turned_7 ?_
  refine ev_iload (pc := 8) 5 dX12_turned_8 rfl ?_
  refine ev_if_eq (pc := 10) 26 (by decide) dX12_turned_10 ?_ ?_
  · refine ev_iload_n (pc := 26) 2 dX12_turned_26 rfl ?_
    refine EvW.sub [2, 3, 4, 6] rfl ?_
    exact E_X12_turned_27 N d a2 a3 a4 a6 a2 (24 * a1) I L
  · refine ev_aload_n (pc := 13) 0 dX12_turned_13 rfl ?_
    refine gf_X12_43 (pc := 14) rfl dX12_turned_14 ?_
    refine ev_iload_n (pc := 17) 1 dX12_turned_17 rfl ?_
    refine ev_iald (pc := 18) kK_50 dX12_turned_18 ?_
    refine ev_iconst (pc := 19) 1 k_iconst_1 dX12_turned_19 ?_
    refine ev_isub (pc := 20) dX12_turned_20 ?_
    refine ev_iload_n (pc := 21) 2 dX12_turned_21 rfl ?_
    refine ev_isub (pc := 22) dX12_turned_22 ?_
    refine ev_goto (pc := 23) 27 (by decide) dX12_turned_23 ?_
    refine EvW.sub [2, 3, 4, 6] rfl ?_
    exact E_X12_turned_27 N d a2 a3 a4 a6 (((I 50 (Int32.toNatClampNeg a1)) - 1) - a2) (24 * a1) I L
def F_X12_areAlike_3 (N : Nat) : Nat → Int32 → Int32 → Int32 → Int32 → Int32 → Int32 → PI → PL → RES
  | 0, _, _, _, _, _, _, _, _ => none
  | n + 1, v1, v2, v3, v4, v5, v6, I, L => gd (inb v1 9) ((if (I 50 (Int32.toNatClampNeg v1)) ≤ v6 then gd (decide (1 &&& 1 = 1)) (some (some (.int 1), I, L)) else bI (f_X12_has N v5 0 I L) (fun x1 I2 L3 => bI (f_X12_has N v5 1 I2 L3) (fun x4 I5 L6 => bI (f_X12_turned N v1 v6 v3 v4 x1 x4 I5 L6) (fun x7 I8 L9 => gd (inb ((24 * v2) + v6) 216) ((if x7 = (I8 49 (Int32.toNatClampNeg ((24 * v2) + v6))) then (F_X12_areAlike_3 N n) v1 v2 v3 v4 v5 (v6 + 1) I8 L9 else gd (decide (0 &&& 1 = 0)) (some (some (.int 0), I8, L9)))))))))
set_option maxRecDepth 100000 in
theorem E_X12_areAlike_3 (N d : Nat) : ∀ (n : Nat) (v1 : Int32) (v2 : Int32) (v3 : Int32) (v4 : Int32) (v5 : Int32) (v6 : Int32) (I : PI) (L : PL), EvW M_X12_areAlike (d + 1) 3 [(0, .ref 12), (1, .int v1), (2, .int v2), (3, .int v3), (4, .int v4), (5, .int v5), (6, .int v6)] [] I L (F_X12_areAlike_3 N n v1 v2 v3 v4 v5 v6 I L) := by
  intro n
  induction n with
  | zero =>
    intro v1 v2 v3 v4 v5 v6 I L
    exact EvW.none
  | succ n hr_3 =>
    intro v1 v2 v3 v4 v5 v6 I L
    rw [F_X12_areAlike_3]
    refine ev_iload (pc := 3) 6 dX12_areAlike_3 rfl ?_
    refine ev_aload_n (pc := 5) 0 dX12_areAlike_5 rfl ?_
    refine gf_X12_43 (pc := 6) rfl dX12_areAlike_6 ?_
    refine ev_iload_n (pc := 9) 1 dX12_areAlike_9 rfl ?_
    refine ev_iald (pc := 10) kK_50 dX12_areAlike_10 ?_
    refine ev_icmp_ge (pc := 11) 59 (by decide) dX12_areAlike_11 ?_ ?_
    · refine ev_iconst (pc := 59) 1 k_iconst_1 dX12_areAlike_59 ?_
      exact ev_zret (pc := 60) rfl dX12_areAlike_60
    · refine ev_aload_n (pc := 14) 0 dX12_areAlike_14 rfl ?_
      refine ev_iload_n (pc := 15) 1 dX12_areAlike_15 rfl ?_
      refine ev_iload (pc := 16) 6 dX12_areAlike_16 rfl ?_
      refine ev_iload_n (pc := 18) 3 dX12_areAlike_18 rfl ?_
      refine ev_iload (pc := 19) 4 dX12_areAlike_19 rfl ?_
      refine ev_iload (pc := 21) 5 dX12_areAlike_21 rfl ?_
      refine ev_iconst (pc := 23) 0 k_iconst_0 dX12_areAlike_23 ?_
      refine ev_callSI (pc := 24) (d := d) (As := [.int v5, .int 0]) (st := [.int v4, .int v3, .int v6, .int v1, .ref 12]) cv_X12_has rfl w_869 rfl (Nat.le_of_ble_eq_true rfl) (ok_X12_has N (d) v5 0 I L) dX12_areAlike_24 (fun x1 I2 L3 => ?_)
      refine ev_iload (pc := 27) 5 dX12_areAlike_27 rfl ?_
      refine ev_iconst (pc := 29) 1 k_iconst_1 dX12_areAlike_29 ?_
      refine ev_callSI (pc := 30) (d := d) (As := [.int v5, .int 1]) (st := [.int x1, .int v4, .int v3, .int v6, .int v1, .ref 12]) cv_X12_has rfl w_869 rfl (Nat.le_of_ble_eq_true rfl) (ok_X12_has N (d) v5 1 I2 L3) dX12_areAlike_30 (fun x4 I5 L6 => ?_)
      refine ev_callVI (pc := 33) (d := d) (As := [.int v1, .int v6, .int v3, .int v4, .int x1, .int x4]) (st := []) cv_X12_turned rfl w_964 rfl (Nat.le_of_ble_eq_true rfl) (ok_X12_turned N (d) v1 v6 v3 v4 x1 x4 I5 L6) dX12_areAlike_33 (fun x7 I8 L9 => ?_)
      refine ev_aload_n (pc := 36) 0 dX12_areAlike_36 rfl ?_
      refine gf_X12_40 (pc := 37) rfl dX12_areAlike_37 ?_
      refine ev_bipush (pc := 40) 24 k_bipush_24 dX12_areAlike_40 ?_
      refine ev_iload_n (pc := 42) 2 dX12_areAlike_42 rfl ?_
      refine ev_imul (pc := 43) dX12_areAlike_43 ?_
      refine ev_iload (pc := 44) 6 dX12_areAlike_44 rfl ?_
      refine ev_iadd (pc := 46) dX12_areAlike_46 ?_
      refine ev_iald (pc := 47) kK_49 dX12_areAlike_47 ?_
      refine ev_icmp_eq (pc := 48) 53 (by decide) dX12_areAlike_48 ?_ ?_
      · refine ev_iinc (pc := 53) (lv' := [(6, .int (v6 + 1)), (0, .ref 12), (1, .int v1), (2, .int v2), (3, .int v3), (4, .int v4), (5, .int v5)]) dX12_areAlike_53 6 rfl rfl 1 k_iconst_1 rfl ?_
        refine ev_goto (pc := 56) 3 (by decide) dX12_areAlike_56 ?_
        refine EvW.sub [1, 2, 3, 4, 5, 6, 0] rfl ?_
        exact hr_3 v1 v2 v3 v4 v5 (v6 + 1) I8 L9
      · refine ev_iconst (pc := 51) 0 k_iconst_0 dX12_areAlike_51 ?_
        exact ev_zret (pc := 52) rfl dX12_areAlike_52
def f_X12_areAlike (N : Nat) (a1 : Int32) (a2 : Int32) (a3 : Int32) (a4 : Int32) (a5 : Int32) (I : PI) (L : PL) : RES := F_X12_areAlike_3 N N a1 a2 a3 a4 a5 0 I L
set_option maxRecDepth 100000 in
theorem ok_X12_areAlike (N d : Nat) (a1 : Int32) (a2 : Int32) (a3 : Int32) (a4 : Int32) (a5 : Int32) (I : PI) (L : PL) : MOk M_X12_areAlike (d + 1) [.ref 12, .int a1, .int a2, .int a3, .int a4, .int a5] I L (f_X12_areAlike N a1 a2 a3 a4 a5 I L) := by
  refine MOk.of (by decide +kernel) (Nat.le_of_ble_eq_true rfl) ?_
  show EvW _ _ 0 [(0, .ref 12), (1, .int a1), (2, .int a2), (3, .int a3), (4, .int a4), (5, .int a5)] [] I L _
  rw [f_X12_areAlike]
  refine ev_iconst (pc := 0) 0 k_iconst_0 dX12_areAlike_0 ?_
  refine ev_istore (pc := 1) (lv' := [(6, .int 0), (0, .ref 12), (1, .int a1), (2, .int a2), (3, .int a3), (4, .int a4), (5, .int a5)]) dX12_areAlike_1 rfl rfl ?_
  refine EvW.sub [1, 2, 3, 4, 5, 6, 0] rfl ?_
  exact E_X12_areAlike_3 N d N a1 a2 a3 a4 a5 0 I L
def F_X12_like_52 (N : Nat) (r_20 : Int32 → Int32 → Int32 → PI → PL → RES) (r_43 : Int32 → Int32 → Int32 → Int32 → PI → PL → RES) : Nat → Int32 → Int32 → Int32 → Int32 → Int32 → PI → PL → RES
  | 0, _, _, _, _, _, _, _ => none
  | n + 1, v1, v2, v3, v4, v5, I, L => (if 4 ≤ v5 then r_43 v1 v2 v3 (v4 + 1) I L else bI (f_X12_areAlike N v1 v2 v3 v4 v5 I L) (fun x7 I8 L9 => (if x7 = 0 then (F_X12_like_52 N r_20 r_43 n) v1 v2 v3 v4 (v5 + 1) I8 L9 else some (some (.int 1), I8, L9))))
set_option maxRecDepth 100000 in
theorem E_X12_like_52 (N d : Nat) (r_20 : Int32 → Int32 → Int32 → PI → PL → RES) (r_43 : Int32 → Int32 → Int32 → Int32 → PI → PL → RES) (hr_20 : ∀ (v1 : Int32) (v2 : Int32) (v3 : Int32) (I : PI) (L : PL), EvW M_X12_like (d + 2) 20 [(0, .ref 12), (1, .int v1), (2, .int v2), (3, .int v3)] [] I L (r_20 v1 v2 v3 I L)) (hr_43 : ∀ (v1 : Int32) (v2 : Int32) (v3 : Int32) (v4 : Int32) (I : PI) (L : PL), EvW M_X12_like (d + 2) 43 [(0, .ref 12), (1, .int v1), (2, .int v2), (3, .int v3), (4, .int v4)] [] I L (r_43 v1 v2 v3 v4 I L)) : ∀ (n : Nat) (v1 : Int32) (v2 : Int32) (v3 : Int32) (v4 : Int32) (v5 : Int32) (I : PI) (L : PL), EvW M_X12_like (d + 2) 52 [(0, .ref 12), (1, .int v1), (2, .int v2), (3, .int v3), (4, .int v4), (5, .int v5)] [] I L (F_X12_like_52 N r_20 r_43 n v1 v2 v3 v4 v5 I L) := by
  intro n
  induction n with
  | zero =>
    intro v1 v2 v3 v4 v5 I L
    exact EvW.none
  | succ n hr_52 =>
    intro v1 v2 v3 v4 v5 I L
    rw [F_X12_like_52]
    refine ev_iload (pc := 52) 5 dX12_like_52 rfl ?_
    refine ev_iconst (pc := 54) 4 k_iconst_4 dX12_like_54 ?_
    refine ev_icmp_ge (pc := 55) 80 (by decide) dX12_like_55 ?_ ?_
    · refine ev_iinc (pc := 80) (lv' := [(4, .int (v4 + 1)), (0, .ref 12), (1, .int v1), (2, .int v2), (3, .int v3), (5, .int v5)]) dX12_like_80 4 rfl rfl 1 k_iconst_1 rfl ?_
      refine ev_goto (pc := 83) 43 (by decide) dX12_like_83 ?_
      refine EvW.sub [1, 2, 3, 4, 0] rfl ?_
      exact hr_43 v1 v2 v3 (v4 + 1) I L
    · refine ev_aload_n (pc := 58) 0 dX12_like_58 rfl ?_
      refine ev_iload_n (pc := 59) 1 dX12_like_59 rfl ?_
      refine ev_iload_n (pc := 60) 2 dX12_like_60 rfl ?_
      refine ev_iload_n (pc := 61) 3 dX12_like_61 rfl ?_
      refine ev_iload (pc := 62) 4 dX12_like_62 rfl ?_
      refine ev_iload (pc := 64) 5 dX12_like_64 rfl ?_
      refine ev_callVI (pc := 66) (d := d + 1) (As := [.int v1, .int v2, .int v3, .int v4, .int v5]) (st := []) cv_X12_areAlike rfl w_968 rfl (Nat.le_of_ble_eq_true rfl) (ok_X12_areAlike N (d) v1 v2 v3 v4 v5 I L) dX12_like_66 (fun x7 I8 L9 => ?_)
      refine ev_if_eq (pc := 69) 74 (by decide) dX12_like_69 ?_ ?_
      · refine ev_iinc (pc := 74) (lv' := [(5, .int (v5 + 1)), (0, .ref 12), (1, .int v1), (2, .int v2), (3, .int v3), (4, .int v4)]) dX12_like_74 5 rfl rfl 1 k_iconst_1 rfl ?_
        refine ev_goto (pc := 77) 52 (by decide) dX12_like_77 ?_
        refine EvW.sub [1, 2, 3, 4, 5, 0] rfl ?_
        exact hr_52 v1 v2 v3 v4 (v5 + 1) I8 L9
      · refine ev_iconst (pc := 72) 1 k_iconst_1 dX12_like_72 ?_
        exact ev_iret (pc := 73) rfl dX12_like_73
def F_X12_like_43 (N : Nat) (r_20 : Int32 → Int32 → Int32 → PI → PL → RES) : Nat → Int32 → Int32 → Int32 → Int32 → PI → PL → RES
  | 0, _, _, _, _, _, _ => none
  | n + 1, v1, v2, v3, v4, I, L => (if 4 ≤ v4 then r_20 v1 v2 (v3 + 1) I L else F_X12_like_52 N r_20 (F_X12_like_43 N r_20 n) N v1 v2 v3 v4 0 I L)
set_option maxRecDepth 100000 in
theorem E_X12_like_43 (N d : Nat) (r_20 : Int32 → Int32 → Int32 → PI → PL → RES) (hr_20 : ∀ (v1 : Int32) (v2 : Int32) (v3 : Int32) (I : PI) (L : PL), EvW M_X12_like (d + 2) 20 [(0, .ref 12), (1, .int v1), (2, .int v2), (3, .int v3)] [] I L (r_20 v1 v2 v3 I L)) : ∀ (n : Nat) (v1 : Int32) (v2 : Int32) (v3 : Int32) (v4 : Int32) (I : PI) (L : PL), EvW M_X12_like (d + 2) 43 [(0, .ref 12), (1, .int v1), (2, .int v2), (3, .int v3), (4, .int v4)] [] I L (F_X12_like_43 N r_20 n v1 v2 v3 v4 I L) := by
  intro n
  induction n with
  | zero =>
    intro v1 v2 v3 v4 I L
    exact EvW.none
  | succ n hr_43 =>
    intro v1 v2 v3 v4 I L
    rw [F_X12_like_43]
    refine ev_iload (pc := 43) 4 dX12_like_43 rfl ?_
    refine ev_iconst (pc := 45) 4 k_iconst_4 dX12_like_45 ?_
    refine ev_icmp_ge (pc := 46) 86 (by decide) dX12_like_46 ?_ ?_
    · refine ev_iinc (pc := 86) (lv' := [(3, .int (v3 + 1)), (0, .ref 12), (1, .int v1), (2, .int v2), (4, .int v4)]) dX12_like_86 3 rfl rfl 1 k_iconst_1 rfl ?_
      refine ev_goto (pc := 89) 20 (by decide) dX12_like_89 ?_
      refine EvW.sub [1, 2, 3, 0] rfl ?_
      exact hr_20 v1 v2 (v3 + 1) I L
    · refine ev_iconst (pc := 49) 0 k_iconst_0 dX12_like_49 ?_
      refine ev_istore (pc := 50) (lv' := [(5, .int 0), (0, .ref 12), (1, .int v1), (2, .int v2), (3, .int v3), (4, .int v4)]) dX12_like_50 rfl rfl ?_
      refine EvW.sub [1, 2, 3, 4, 5, 0] rfl ?_
      exact E_X12_like_52 N d r_20 (F_X12_like_43 N r_20 n) hr_20 hr_43 N v1 v2 v3 v4 0 I L
def F_X12_like_20 (N : Nat) : Nat → Int32 → Int32 → Int32 → PI → PL → RES
  | 0, _, _, _, _, _ => none
  | n + 1, v1, v2, v3, I, L => (if 4 ≤ v3 then some (some (.int 0), I, L) else gd (inb v1 9) (gd (inb v2 9) ((if (I 50 (Int32.toNatClampNeg v1)) = (I 50 (Int32.toNatClampNeg v2)) then F_X12_like_43 N (F_X12_like_20 N n) N v1 v2 v3 0 I L else some (some (.int 0), I, L)))))
set_option maxRecDepth 100000 in
theorem E_X12_like_20 (N d : Nat) : ∀ (n : Nat) (v1 : Int32) (v2 : Int32) (v3 : Int32) (I : PI) (L : PL), EvW M_X12_like (d + 2) 20 [(0, .ref 12), (1, .int v1), (2, .int v2), (3, .int v3)] [] I L (F_X12_like_20 N n v1 v2 v3 I L) := by
  intro n
  induction n with
  | zero =>
    intro v1 v2 v3 I L
    exact EvW.none
  | succ n hr_20 =>
    intro v1 v2 v3 I L
    rw [F_X12_like_20]
    refine ev_iload_n (pc := 20) 3 dX12_like_20 rfl ?_
    refine ev_iconst (pc := 21) 4 k_iconst_4 dX12_like_21 ?_
    refine ev_icmp_ge (pc := 22) 92 (by decide) dX12_like_22 ?_ ?_
    · refine ev_iconst (pc := 92) 0 k_iconst_0 dX12_like_92 ?_
      exact ev_iret (pc := 93) rfl dX12_like_93
    · refine ev_aload_n (pc := 25) 0 dX12_like_25 rfl ?_
      refine gf_X12_43 (pc := 26) rfl dX12_like_26 ?_
      refine ev_iload_n (pc := 29) 1 dX12_like_29 rfl ?_
      refine ev_iald (pc := 30) kK_50 dX12_like_30 ?_
      refine ev_aload_n (pc := 31) 0 dX12_like_31 rfl ?_
      refine gf_X12_43 (pc := 32) rfl dX12_like_32 ?_
      refine ev_iload_n (pc := 35) 2 dX12_like_35 rfl ?_
      refine ev_iald (pc := 36) kK_50 dX12_like_36 ?_
      refine ev_icmp_ne (pc := 37) 92 (by decide) dX12_like_37 ?_ ?_
      · refine ev_iconst (pc := 92) 0 k_iconst_0 dX12_like_92 ?_
        exact ev_iret (pc := 93) rfl dX12_like_93
      · refine ev_iconst (pc := 40) 0 k_iconst_0 dX12_like_40 ?_
        refine ev_istore (pc := 41) (lv' := [(4, .int 0), (0, .ref 12), (1, .int v1), (2, .int v2), (3, .int v3)]) dX12_like_41 rfl rfl ?_
        refine EvW.sub [1, 2, 3, 4, 0] rfl ?_
        exact E_X12_like_43 N d (F_X12_like_20 N n) hr_20 N v1 v2 v3 0 I L
def f_X12_like (N : Nat) (a1 : Int32) (a2 : Int32) (I : PI) (L : PL) : RES := bI (f_X12_isCode N a1 I L) (fun x1 I2 L3 => (if x1 = 0 then some (some (.int (-1 : Int32)), I2, L3) else bI (f_X12_isCode N a2 I2 L3) (fun x4 I5 L6 => (if x4 = 0 then some (some (.int (-1 : Int32)), I5, L6) else F_X12_like_20 N N a1 a2 0 I5 L6))))
set_option maxRecDepth 100000 in
theorem ok_X12_like (N d : Nat) (a1 : Int32) (a2 : Int32) (I : PI) (L : PL) : MOk M_X12_like (d + 2) [.ref 12, .int a1, .int a2] I L (f_X12_like N a1 a2 I L) := by
  refine MOk.of (by decide +kernel) (Nat.le_of_ble_eq_true rfl) ?_
  show EvW _ _ 0 [(0, .ref 12), (1, .int a1), (2, .int a2)] [] I L _
  rw [f_X12_like]
  refine ev_aload_n (pc := 0) 0 dX12_like_0 rfl ?_
  refine ev_iload_n (pc := 1) 1 dX12_like_1 rfl ?_
  refine ev_callVI (pc := 2) (d := d + 1) (As := [.int a1]) (st := []) cv_X12_isCode rfl w_802 rfl (Nat.le_of_ble_eq_true rfl) (ok_X12_isCode N (d) a1 I L) dX12_like_2 (fun x1 I2 L3 => ?_)
  refine ev_if_eq (pc := 5) 16 (by decide) dX12_like_5 ?_ ?_
  · refine ev_iconst (pc := 16) (-1 : Int32) k_iconst_m1 dX12_like_16 ?_
    exact ev_iret (pc := 17) rfl dX12_like_17
  · refine ev_aload_n (pc := 8) 0 dX12_like_8 rfl ?_
    refine ev_iload_n (pc := 9) 2 dX12_like_9 rfl ?_
    refine ev_callVI (pc := 10) (d := d + 1) (As := [.int a2]) (st := []) cv_X12_isCode rfl w_802 rfl (Nat.le_of_ble_eq_true rfl) (ok_X12_isCode N (d) a2 I2 L3) dX12_like_10 (fun x4 I5 L6 => ?_)
    refine ev_if_ne (pc := 13) 18 (by decide) dX12_like_13 ?_ ?_
    · refine ev_iconst (pc := 18) 0 k_iconst_0 dX12_like_18 ?_
      refine ev_istore_n (pc := 19) (lv' := [(3, .int 0), (0, .ref 12), (1, .int a1), (2, .int a2)]) dX12_like_19 rfl rfl rfl ?_
      refine EvW.sub [1, 2, 3, 0] rfl ?_
      exact E_X12_like_20 N d N a1 a2 0 I5 L6
    · refine ev_iconst (pc := 16) (-1 : Int32) k_iconst_m1 dX12_like_16 ?_
      exact ev_iret (pc := 17) rfl dX12_like_17
def F_X12_partners_45 (N : Nat) : Nat → Int32 → Int32 → Int32 → Int32 → PI → PL → RES
  | 0, _, _, _, _, _, _ => none
  | n + 1, v1, v2, v3, v4, I, L => (if 24 ≤ v4 then some (some (.int v3), I, L) else bV (f_X12_sum_ N v1 v1 v4 0 I L) (fun I11 L12 => nmI (I11 12 24) (fun x13 => nmI (I11 12 25) (fun x14 => bV (f_X12_sum_ N v2 v2 v4 0 I11 L12) (fun I16 L17 => (if v4 = 0 then (F_X12_partners_45 N n) v1 v2 v3 (v4 + 1) I16 L17 else nmI (jmax v3 (((x13 + (I16 12 24)) * (x13 + (I16 12 24))) + ((x14 + (I16 12 25)) * (x14 + (I16 12 25))))) (fun x18 => (F_X12_partners_45 N n) v1 v2 x18 (v4 + 1) I16 L17)))))))
set_option maxRecDepth 100000 in
theorem E_X12_partners_45 (N d : Nat) : ∀ (n : Nat) (v1 : Int32) (v2 : Int32) (v3 : Int32) (v4 : Int32) (I : PI) (L : PL), EvW M_X12_partners (d + 7) 45 [(0, .ref 12), (1, .int v1), (2, .int v2), (3, .int v3), (4, .int v4)] [] I L (F_X12_partners_45 N n v1 v2 v3 v4 I L) := by
  intro n
  induction n with
  | zero =>
    intro v1 v2 v3 v4 I L
    exact EvW.none
  | succ n hr_45 =>
    intro v1 v2 v3 v4 I L
    rw [F_X12_partners_45]
    refine ev_iload (pc := 45) 4 dX12_partners_45 rfl ?_
    refine ev_bipush (pc := 47) 24 k_bipush_24 dX12_partners_47 ?_
    refine ev_icmp_ge (pc := 49) 133 (by decide) dX12_partners_49 ?_ ?_
    · refine ev_iload_n (pc := 133) 3 dX12_partners_133 rfl ?_
      exact ev_iret (pc := 134) rfl dX12_partners_134
    · refine ev_aload_n (pc := 52) 0 dX12_partners_52 rfl ?_
      refine ev_iload_n (pc := 53) 1 dX12_partners_53 rfl ?_
      refine ev_iload_n (pc := 54) 1 dX12_partners_54 rfl ?_
      refine ev_iload (pc := 55) 4 dX12_partners_55 rfl ?_
      refine ev_iconst (pc := 57) 0 k_iconst_0 dX12_partners_57 ?_
      refine ev_callVV (pc := 58) (d := d + 6) (As := [.int v1, .int v1, .int v4, .int 0]) (st := []) cv_X12_sum_ rfl w_852 rfl (Nat.le_of_ble_eq_true rfl) (ok_X12_sum_ N (d + 5) v1 v1 v4 0 I L) dX12_partners_58 (fun I11 L12 => ?_)
      refine ev_aload_n (pc := 61) 0 dX12_partners_61 rfl ?_
      refine gf_X12_269 (pc := 62) rfl dX12_partners_62 ?_
      refine ev_nmI (fun x13 => ?_)
      refine ev_istore (pc := 65) (lv' := [(5, .int x13), (0, .ref 12), (1, .int v1), (2, .int v2), (3, .int v3), (4, .int v4)]) dX12_partners_65 rfl rfl ?_
      refine ev_aload_n (pc := 67) 1 dX12_partners_67 rfl ?_
      refine gf_X12_272 (pc := 68) rfl dX12_partners_68 ?_
      refine ev_nmI (fun x14 => ?_)
      refine ev_istore (pc := 71) (lv' := [(6, .int x14), (5, .int x13), (0, .ref 12), (1, .int v1), (2, .int v2), (3, .int v3), (4, .int v4)]) dX12_partners_71 rfl rfl ?_
      refine ev_aload_n (pc := 73) 2 dX12_partners_73 rfl ?_
      refine ev_iload_n (pc := 74) 4 dX12_partners_74 rfl ?_
      refine ev_iload_n (pc := 75) 4 dX12_partners_75 rfl ?_
      refine ev_iload (pc := 76) 6 dX12_partners_76 rfl ?_
      refine ev_iconst (pc := 78) 0 k_iconst_0 dX12_partners_78 ?_
      refine ev_callVV (pc := 79) (d := d + 6) (As := [.int v2, .int v2, .int v4, .int 0]) (st := []) cv_X12_sum_ rfl w_852 rfl (Nat.le_of_ble_eq_true rfl) (ok_X12_sum_ N (d + 5) v2 v2 v4 0 I11 L12) dX12_partners_79 (fun I16 L17 => ?_)
      refine ev_iload (pc := 82) 6 dX12_partners_82 rfl ?_
      refine ev_if_eq (pc := 84) 125 (by decide) dX12_partners_84 ?_ ?_
      · refine ev_iload_n (pc := 125) 5 dX12_partners_125 rfl ?_
        refine ev_istore_n (pc := 126) (lv' := [(3, .int v3), (6, .int x14), (5, .int x13), (0, .ref 12), (1, .int v1), (2, .int v2), (4, .int v4)]) dX12_partners_126 rfl rfl rfl ?_
        refine ev_iinc (pc := 127) (lv' := [(4, .int (v4 + 1)), (3, .int v3), (6, .int x14), (5, .int x13), (0, .ref 12), (1, .int v1), (2, .int v2)]) dX12_partners_127 6 rfl rfl 1 k_iconst_1 rfl ?_
        refine ev_goto (pc := 130) 45 (by decide) dX12_partners_130 ?_
        refine EvW.sub [4, 5, 6, 1, 0] rfl ?_
        exact hr_45 v1 v2 v3 (v4 + 1) I16 L17
      · refine ev_iload_n (pc := 87) 5 dX12_partners_87 rfl ?_
        refine ev_iload (pc := 88) 1 dX12_partners_88 rfl ?_
        refine ev_aload_n (pc := 90) 2 dX12_partners_90 rfl ?_
        refine gf_X12_269 (pc := 91) rfl dX12_partners_91 ?_
        refine ev_iadd (pc := 94) dX12_partners_94 ?_
        refine ev_iload (pc := 95) 1 dX12_partners_95 rfl ?_
        refine ev_aload_n (pc := 97) 2 dX12_partners_97 rfl ?_
        refine gf_X12_269 (pc := 98) rfl dX12_partners_98 ?_
        refine ev_iadd (pc := 101) dX12_partners_101 ?_
        refine ev_imul (pc := 102) dX12_partners_102 ?_
        refine ev_iload (pc := 103) 0 dX12_partners_103 rfl ?_
        refine ev_aload_n (pc := 105) 2 dX12_partners_105 rfl ?_
        refine gf_X12_272 (pc := 106) rfl dX12_partners_106 ?_
        refine ev_iadd (pc := 109) dX12_partners_109 ?_
        refine ev_iload (pc := 110) 0 dX12_partners_110 rfl ?_
        refine ev_aload_n (pc := 112) 2 dX12_partners_112 rfl ?_
        refine gf_X12_272 (pc := 113) rfl dX12_partners_113 ?_
        refine ev_iadd (pc := 116) dX12_partners_116 ?_
        refine ev_imul (pc := 117) dX12_partners_117 ?_
        refine ev_iadd (pc := 118) dX12_partners_118 ?_
        refine ev_mmax (pc := 119) (d := d + 6) w_836 w_130 w_131 w_132 (Nat.le_of_ble_eq_true rfl) dX12_partners_119 ?_
        refine ev_goto (pc := 122) 126 (by decide) dX12_partners_122 ?_
        refine ev_nmI (fun x18 => ?_)
        refine ev_istore_n (pc := 126) (lv' := [(3, .int x18), (6, .int x14), (5, .int x13), (0, .ref 12), (1, .int v1), (2, .int v2), (4, .int v4)]) dX12_partners_126 rfl rfl rfl ?_
        refine ev_iinc (pc := 127) (lv' := [(4, .int (v4 + 1)), (3, .int x18), (6, .int x14), (5, .int x13), (0, .ref 12), (1, .int v1), (2, .int v2)]) dX12_partners_127 6 rfl rfl 1 k_iconst_1 rfl ?_
        refine ev_goto (pc := 130) 45 (by decide) dX12_partners_130 ?_
        refine EvW.sub [4, 5, 6, 1, 0] rfl ?_
        exact hr_45 v1 v2 x18 (v4 + 1) I16 L17
def f_X12_partners (N : Nat) (a1 : Int32) (a2 : Int32) (I : PI) (L : PL) : RES := bI (f_X12_isCode N a1 I L) (fun x1 I2 L3 => (if x1 = 0 then some (some (.int (-1 : Int32)), I2, L3) else bI (f_X12_isCode N a2 I2 L3) (fun x4 I5 L6 => (if x4 = 0 then some (some (.int (-1 : Int32)), I5, L6) else gd (inb a1 9) (gd (inb a2 9) ((if (I5 50 (Int32.toNatClampNeg a1)) = (I5 50 (Int32.toNatClampNeg a2)) then bV (f_X12_lay N a1 (-1 : Int32) I5 L6) (fun I8 L9 => F_X12_partners_45 N N a1 a2 0 (-23 : Int32) I8 L9) else some (some (.int (-1 : Int32)), I5, L6))))))))
set_option maxRecDepth 100000 in
theorem ok_X12_partners (N d : Nat) (a1 : Int32) (a2 : Int32) (I : PI) (L : PL) : MOk M_X12_partners (d + 7) [.ref 12, .int a1, .int a2] I L (f_X12_partners N a1 a2 I L) := by
  refine MOk.of (by decide +kernel) (Nat.le_of_ble_eq_true rfl) ?_
  show EvW _ _ 0 [(0, .ref 12), (1, .int a1), (2, .int a2)] [] I L _
  rw [f_X12_partners]
  refine ev_aload_n (pc := 0) 0 dX12_partners_0 rfl ?_
  refine ev_iload_n (pc := 1) 1 dX12_partners_1 rfl ?_
  refine ev_callVI (pc := 2) (d := d + 6) (As := [.int a1]) (st := []) cv_X12_isCode rfl w_802 rfl (Nat.le_of_ble_eq_true rfl) (ok_X12_isCode N (d + 5) a1 I L) dX12_partners_2 (fun x1 I2 L3 => ?_)
  refine ev_if_eq (pc := 5) 31 (by decide) dX12_partners_5 ?_ ?_
  · refine ev_iconst (pc := 31) (-1 : Int32) k_iconst_m1 dX12_partners_31 ?_
    exact ev_iret (pc := 32) rfl dX12_partners_32
  · refine ev_aload_n (pc := 8) 0 dX12_partners_8 rfl ?_
    refine ev_iload_n (pc := 9) 2 dX12_partners_9 rfl ?_
    refine ev_callVI (pc := 10) (d := d + 6) (As := [.int a2]) (st := []) cv_X12_isCode rfl w_802 rfl (Nat.le_of_ble_eq_true rfl) (ok_X12_isCode N (d + 5) a2 I2 L3) dX12_partners_10 (fun x4 I5 L6 => ?_)
    refine ev_if_eq (pc := 13) 31 (by decide) dX12_partners_13 ?_ ?_
    · refine ev_iconst (pc := 31) (-1 : Int32) k_iconst_m1 dX12_partners_31 ?_
      exact ev_iret (pc := 32) rfl dX12_partners_32
    · refine ev_aload_n (pc := 16) 0 dX12_partners_16 rfl ?_
      refine gf_X12_43 (pc := 17) rfl dX12_partners_17 ?_
      refine ev_iload_n (pc := 20) 1 dX12_partners_20 rfl ?_
      refine ev_iald (pc := 21) kK_50 dX12_partners_21 ?_
      refine ev_aload_n (pc := 22) 0 dX12_partners_22 rfl ?_
      refine gf_X12_43 (pc := 23) rfl dX12_partners_23 ?_
      refine ev_iload_n (pc := 26) 2 dX12_partners_26 rfl ?_
      refine ev_iald (pc := 27) kK_50 dX12_partners_27 ?_
      refine ev_icmp_eq (pc := 28) 33 (by decide) dX12_partners_28 ?_ ?_
      · refine ev_aload_n (pc := 33) 0 dX12_partners_33 rfl ?_
        refine ev_iload_n (pc := 34) 1 dX12_partners_34 rfl ?_
        refine ev_iconst (pc := 35) (-1 : Int32) k_iconst_m1 dX12_partners_35 ?_
        refine ev_callVV (pc := 36) (d := d + 6) (As := [.int a1, .int (-1 : Int32)]) (st := []) cv_X12_lay rfl w_845 rfl (Nat.le_of_ble_eq_true rfl) (ok_X12_lay N (d) a1 (-1 : Int32) I5 L6) dX12_partners_36 (fun I8 L9 => ?_)
        refine ev_iconst (pc := 39) 0 k_iconst_0 dX12_partners_39 ?_
        refine ev_istore_n (pc := 40) (lv' := [(3, .int 0), (0, .ref 12), (1, .int a1), (2, .int a2)]) dX12_partners_40 rfl rfl rfl ?_
        refine ev_bipush (pc := 41) (-23 : Int32) k_bipush_m23 dX12_partners_41 ?_
        refine ev_istore (pc := 43) (lv' := [(4, .int (-23 : Int32)), (3, .int 0), (0, .ref 12), (1, .int a1), (2, .int a2)]) dX12_partners_43 rfl rfl ?_
        refine EvW.sub [2, 3, 4, 1, 0] rfl ?_
        exact E_X12_partners_45 N d N a1 a2 0 (-23 : Int32) I8 L9
      · refine ev_iconst (pc := 31) (-1 : Int32) k_iconst_m1 dX12_partners_31 ?_
        exact ev_iret (pc := 32) rfl dX12_partners_32
def F_X12_cancel_29 (N : Nat) : Nat → Int32 → Int32 → Int32 → Int32 → Int32 → PI → PL → RES
  | 0, _, _, _, _, _, _, _ => none
  | n + 1, v1, v2, v3, v4, v5, I, L => (if v1 < v5 then some (some (.int ((v3 * v3) + (v4 * v4))), I, L) else bJ (f_X12_choose N v1 v5 I L) (fun x7 I8 L9 => nmI (Int64.toInt32 x7) (fun x10 => bI (f_X12_partOf N ((2 * v5) + (v2 * v5)) 1 I8 L9) (fun x11 I12 L13 => nmI (v3 + (x10 * x11)) (fun x14 => bI (f_X12_partOf N ((2 * v5) + (v2 * v5)) 0 I12 L13) (fun x15 I16 L17 => nmI (v4 + (x10 * x15)) (fun x18 => (F_X12_cancel_29 N n) v1 v2 x14 x18 (v5 + 1) I16 L17)))))))
set_option maxRecDepth 100000 in
theorem E_X12_cancel_29 (N d : Nat) : ∀ (n : Nat) (v1 : Int32) (v2 : Int32) (v3 : Int32) (v4 : Int32) (v5 : Int32) (I : PI) (L : PL), EvW M_X12_cancel (d + 1) 29 [(1, .int v1), (2, .int v2), (3, .int v3), (4, .int v4), (5, .int v5)] [] I L (F_X12_cancel_29 N n v1 v2 v3 v4 v5 I L) := by
  intro n
  induction n with
  | zero =>
    intro v1 v2 v3 v4 v5 I L
    exact EvW.none
  | succ n hr_29 =>
    intro v1 v2 v3 v4 v5 I L
    rw [F_X12_cancel_29]
    refine ev_iload (pc := 29) 4 dX12_cancel_29 rfl ?_
    refine ev_iload_n (pc := 31) 0 dX12_cancel_31 rfl ?_
    refine ev_icmp_gt (pc := 32) 90 (by decide) dX12_cancel_32 ?_ ?_
    · refine ev_iload_n (pc := 90) 2 dX12_cancel_90 rfl ?_
      refine ev_iload_n (pc := 91) 2 dX12_cancel_91 rfl ?_
      refine ev_imul (pc := 92) dX12_cancel_92 ?_
      refine ev_iload (pc := 93) 3 dX12_cancel_93 rfl ?_
      refine ev_iload (pc := 95) 3 dX12_cancel_95 rfl ?_
      refine ev_imul (pc := 97) dX12_cancel_97 ?_
      refine ev_iadd (pc := 98) dX12_cancel_98 ?_
      exact ev_iret (pc := 99) rfl dX12_cancel_99
    · refine ev_iload_n (pc := 35) 0 dX12_cancel_35 rfl ?_
      refine ev_iload (pc := 36) 4 dX12_cancel_36 rfl ?_
      refine ev_callSJ (pc := 38) (d := d) (As := [.int v1, .int v5]) (st := []) cv_X12_choose rfl w_945 rfl (Nat.le_of_ble_eq_true rfl) (ok_X12_choose N (d) v1 v5 I L) dX12_cancel_38 (fun x7 I8 L9 => ?_)
      refine ev_l2i (pc := 41) dX12_cancel_41 ?_
      refine ev_nmI (fun x10 => ?_)
      refine ev_istore (pc := 42) (lv' := [(6, .int x10), (1, .int v1), (2, .int v2), (3, .int v3), (4, .int v4), (5, .int v5)]) dX12_cancel_42 rfl rfl ?_
      refine ev_iload_n (pc := 44) 3 dX12_cancel_44 rfl ?_
      refine ev_iload (pc := 45) 0 dX12_cancel_45 rfl ?_
      refine ev_iconst (pc := 47) 2 k_iconst_2 dX12_cancel_47 ?_
      refine ev_iload (pc := 48) 5 dX12_cancel_48 rfl ?_
      refine ev_imul (pc := 50) dX12_cancel_50 ?_
      refine ev_iload_n (pc := 51) 2 dX12_cancel_51 rfl ?_
      refine ev_iload (pc := 52) 5 dX12_cancel_52 rfl ?_
      refine ev_imul (pc := 54) dX12_cancel_54 ?_
      refine ev_iadd (pc := 55) dX12_cancel_55 ?_
      refine ev_iconst (pc := 56) 1 k_iconst_1 dX12_cancel_56 ?_
      refine ev_callSI (pc := 57) (d := d) (As := [.int ((2 * v5) + (v2 * v5)), .int 1]) (st := [.int x10, .int v3]) cv_X12_partOf rfl w_815 rfl (Nat.le_of_ble_eq_true rfl) (ok_X12_partOf N (d) ((2 * v5) + (v2 * v5)) 1 I8 L9) dX12_cancel_57 (fun x11 I12 L13 => ?_)
      refine ev_imul (pc := 60) dX12_cancel_60 ?_
      refine ev_iadd (pc := 61) dX12_cancel_61 ?_
      refine ev_nmI (fun x14 => ?_)
      refine ev_istore_n (pc := 62) (lv' := [(3, .int x14), (6, .int x10), (1, .int v1), (2, .int v2), (4, .int v4), (5, .int v5)]) dX12_cancel_62 rfl rfl rfl ?_
      refine ev_iload (pc := 63) 4 dX12_cancel_63 rfl ?_
      refine ev_iload (pc := 65) 1 dX12_cancel_65 rfl ?_
      refine ev_iconst (pc := 67) 2 k_iconst_2 dX12_cancel_67 ?_
      refine ev_iload (pc := 68) 5 dX12_cancel_68 rfl ?_
      refine ev_imul (pc := 70) dX12_cancel_70 ?_
      refine ev_iload_n (pc := 71) 3 dX12_cancel_71 rfl ?_
      refine ev_iload (pc := 72) 5 dX12_cancel_72 rfl ?_
      refine ev_imul (pc := 74) dX12_cancel_74 ?_
      refine ev_iadd (pc := 75) dX12_cancel_75 ?_
      refine ev_iconst (pc := 76) 0 k_iconst_0 dX12_cancel_76 ?_
      refine ev_callSI (pc := 77) (d := d) (As := [.int ((2 * v5) + (v2 * v5)), .int 0]) (st := [.int x10, .int v4]) cv_X12_partOf rfl w_815 rfl (Nat.le_of_ble_eq_true rfl) (ok_X12_partOf N (d) ((2 * v5) + (v2 * v5)) 0 I12 L13) dX12_cancel_77 (fun x15 I16 L17 => ?_)
      refine ev_imul (pc := 80) dX12_cancel_80 ?_
      refine ev_iadd (pc := 81) dX12_cancel_81 ?_
      refine ev_nmI (fun x18 => ?_)
      refine ev_istore (pc := 82) (lv' := [(4, .int x18), (3, .int x14), (6, .int x10), (1, .int v1), (2, .int v2), (5, .int v5)]) dX12_cancel_82 rfl rfl ?_
      refine ev_iinc (pc := 84) (lv' := [(5, .int (v5 + 1)), (4, .int x18), (3, .int x14), (6, .int x10), (1, .int v1), (2, .int v2)]) dX12_cancel_84 5 rfl rfl 1 k_iconst_1 rfl ?_
      refine ev_goto (pc := 87) 29 (by decide) dX12_cancel_87 ?_
      refine EvW.sub [4, 5, 2, 1, 0] rfl ?_
      exact hr_29 v1 v2 x14 x18 (v5 + 1) I16 L17
def f_X12_cancel (N : Nat) (a1 : Int32) (a2 : Int32) (I : PI) (L : PL) : RES := bI (f_X12_in N a1 1 8 I L) (fun x1 I2 L3 => (if x1 = 0 then some (some (.int (-1 : Int32)), I2, L3) else bI (f_X12_in N a2 0 3 I2 L3) (fun x4 I5 L6 => (if x4 = 0 then some (some (.int (-1 : Int32)), I5, L6) else F_X12_cancel_29 N N a1 a2 0 0 0 I5 L6))))
set_option maxRecDepth 100000 in
theorem ok_X12_cancel (N d : Nat) (a1 : Int32) (a2 : Int32) (I : PI) (L : PL) : MOk M_X12_cancel (d + 1) [.ref 12, .int a1, .int a2] I L (f_X12_cancel N a1 a2 I L) := by
  refine MOk.of (by decide +kernel) (Nat.le_of_ble_eq_true rfl) ?_
  show EvW _ _ 0 [(0, .ref 12), (1, .int a1), (2, .int a2)] [] I L _
  rw [f_X12_cancel]
  refine ev_iload_n (pc := 0) 1 dX12_cancel_0 rfl ?_
  refine ev_iconst (pc := 1) 1 k_iconst_1 dX12_cancel_1 ?_
  refine ev_bipush (pc := 2) 8 k_bipush_8 dX12_cancel_2 ?_
  refine ev_callSI (pc := 4) (d := d) (As := [.int a1, .int 1, .int 8]) (st := []) cv_X12_in rfl w_790 rfl (Nat.le_of_ble_eq_true rfl) (ok_X12_in N (d) a1 1 8 I L) dX12_cancel_4 (fun x1 I2 L3 => ?_)
  refine ev_if_eq (pc := 7) 19 (by decide) dX12_cancel_7 ?_ ?_
  · refine ev_iconst (pc := 19) (-1 : Int32) k_iconst_m1 dX12_cancel_19 ?_
    exact ev_iret (pc := 20) rfl dX12_cancel_20
  · refine ev_iload_n (pc := 10) 2 dX12_cancel_10 rfl ?_
    refine ev_iconst (pc := 11) 0 k_iconst_0 dX12_cancel_11 ?_
    refine ev_iconst (pc := 12) 3 k_iconst_3 dX12_cancel_12 ?_
    refine ev_callSI (pc := 13) (d := d) (As := [.int a2, .int 0, .int 3]) (st := []) cv_X12_in rfl w_790 rfl (Nat.le_of_ble_eq_true rfl) (ok_X12_in N (d) a2 0 3 I2 L3) dX12_cancel_13 (fun x4 I5 L6 => ?_)
    refine ev_if_ne (pc := 16) 21 (by decide) dX12_cancel_16 ?_ ?_
    · refine ev_iconst (pc := 21) 0 k_iconst_0 dX12_cancel_21 ?_
      refine ev_istore_n (pc := 22) (lv' := [(3, .int 0), (0, .ref 12), (1, .int a1), (2, .int a2)]) dX12_cancel_22 rfl rfl rfl ?_
      refine ev_iconst (pc := 23) 0 k_iconst_0 dX12_cancel_23 ?_
      refine ev_istore (pc := 24) (lv' := [(4, .int 0), (3, .int 0), (0, .ref 12), (1, .int a1), (2, .int a2)]) dX12_cancel_24 rfl rfl ?_
      refine ev_iconst (pc := 26) 0 k_iconst_0 dX12_cancel_26 ?_
      refine ev_istore (pc := 27) (lv' := [(5, .int 0), (4, .int 0), (3, .int 0), (0, .ref 12), (1, .int a1), (2, .int a2)]) dX12_cancel_27 rfl rfl ?_
      refine EvW.sub [4, 5, 2, 1, 0] rfl ?_
      exact E_X12_cancel_29 N d N a1 a2 0 0 0 I5 L6
    · refine ev_iconst (pc := 19) (-1 : Int32) k_iconst_m1 dX12_cancel_19 ?_
      exact ev_iret (pc := 20) rfl dX12_cancel_20
def F_X12_seenBy_78 (N : Nat) (r_6 : Int32 → Int32 → Int32 → Int32 → Int32 → Int32 → PI → PL → RES) (v1 : Int32) (v2 : Int32) (v3 : Int32) (v4 : Int32) (v5 : Int32) (v6 : Int32) (s0 : Int32) (s1 : Int32) (I : PI) (L : PL) : RES := nmI (s1 + s0) (fun x2 => (if x2 < (I 12 33) then nmI (v5 + 0) (fun x3 => r_6 v1 v2 v3 v4 x3 (v6 + 1) I L) else nmI (v5 + 1) (fun x4 => r_6 v1 v2 v3 v4 x4 (v6 + 1) I L)))
set_option maxRecDepth 100000 in
theorem E_X12_seenBy_78 (N d : Nat) (r_6 : Int32 → Int32 → Int32 → Int32 → Int32 → Int32 → PI → PL → RES) (hr_6 : ∀ (v1 : Int32) (v2 : Int32) (v3 : Int32) (v4 : Int32) (v5 : Int32) (v6 : Int32) (I : PI) (L : PL), EvW M_X12_seenBy (d) 6 [(0, .ref 12), (1, .int v1), (2, .int v2), (3, .int v3), (4, .int v4), (5, .int v5), (6, .int v6)] [] I L (r_6 v1 v2 v3 v4 v5 v6 I L)) (v1 : Int32) (v2 : Int32) (v3 : Int32) (v4 : Int32) (v5 : Int32) (v6 : Int32) (s0 : Int32) (s1 : Int32) (I : PI) (L : PL) : EvW M_X12_seenBy (d) 78 [(0, .ref 12), (1, .int v1), (2, .int v2), (3, .int v3), (4, .int v4), (5, .int v5), (6, .int v6)] [.int s0, .int s1] I L (F_X12_seenBy_78 N r_6 v1 v2 v3 v4 v5 v6 s0 s1 I L) := by
  rw [F_X12_seenBy_78]
  refine ev_iadd (pc := 78) dX12_seenBy_78 ?_
  refine ev_nmI (fun x2 => ?_)
  refine ev_istore (pc := 79) (lv' := [(7, .int x2), (0, .ref 12), (1, .int v1), (2, .int v2), (3, .int v3), (4, .int v4), (5, .int v5), (6, .int v6)]) dX12_seenBy_79 rfl rfl ?_
  refine ev_iload (pc := 81) 6 dX12_seenBy_81 rfl ?_
  refine ev_iload (pc := 83) 0 dX12_seenBy_83 rfl ?_
  refine ev_aload_n (pc := 85) 1 dX12_seenBy_85 rfl ?_
  refine gf_X12_59 (pc := 86) rfl dX12_seenBy_86 ?_
  refine ev_icmp_lt (pc := 89) 96 (by decide) dX12_seenBy_89 ?_ ?_
  · refine ev_iconst (pc := 96) 0 k_iconst_0 dX12_seenBy_96 ?_
    refine ev_iadd (pc := 97) dX12_seenBy_97 ?_
    refine ev_nmI (fun x3 => ?_)
    refine ev_istore (pc := 98) (lv' := [(5, .int x3), (7, .int x2), (0, .ref 12), (1, .int v1), (2, .int v2), (3, .int v3), (4, .int v4), (6, .int v6)]) dX12_seenBy_98 rfl rfl ?_
    refine ev_iinc (pc := 100) (lv' := [(6, .int (v6 + 1)), (5, .int x3), (7, .int x2), (0, .ref 12), (1, .int v1), (2, .int v2), (3, .int v3), (4, .int v4)]) dX12_seenBy_100 7 rfl rfl 1 k_iconst_1 rfl ?_
    refine ev_goto (pc := 103) 6 (by decide) dX12_seenBy_103 ?_
    refine EvW.sub [3, 4, 5, 6, 7, 1, 0] rfl ?_
    exact hr_6 v1 v2 v3 v4 x3 (v6 + 1) I L
  · refine ev_iconst (pc := 92) 1 k_iconst_1 dX12_seenBy_92 ?_
    refine ev_goto (pc := 93) 97 (by decide) dX12_seenBy_93 ?_
    refine ev_iadd (pc := 97) dX12_seenBy_97 ?_
    refine ev_nmI (fun x4 => ?_)
    refine ev_istore (pc := 98) (lv' := [(5, .int x4), (7, .int x2), (0, .ref 12), (1, .int v1), (2, .int v2), (3, .int v3), (4, .int v4), (6, .int v6)]) dX12_seenBy_98 rfl rfl ?_
    refine ev_iinc (pc := 100) (lv' := [(6, .int (v6 + 1)), (5, .int x4), (7, .int x2), (0, .ref 12), (1, .int v1), (2, .int v2), (3, .int v3), (4, .int v4)]) dX12_seenBy_100 7 rfl rfl 1 k_iconst_1 rfl ?_
    refine ev_goto (pc := 103) 6 (by decide) dX12_seenBy_103 ?_
    refine EvW.sub [3, 4, 5, 6, 7, 1, 0] rfl ?_
    exact hr_6 v1 v2 v3 v4 x4 (v6 + 1) I L
def F_X12_seenBy_77 (N : Nat) (r_6 : Int32 → Int32 → Int32 → Int32 → Int32 → Int32 → PI → PL → RES) (v1 : Int32) (v2 : Int32) (v3 : Int32) (v4 : Int32) (v5 : Int32) (v6 : Int32) (s0 : Int32) (I : PI) (L : PL) : RES := F_X12_seenBy_78 N r_6 v1 v2 v3 v4 v5 v6 0 s0 I L
set_option maxRecDepth 100000 in
theorem E_X12_seenBy_77 (N d : Nat) (r_6 : Int32 → Int32 → Int32 → Int32 → Int32 → Int32 → PI → PL → RES) (hr_6 : ∀ (v1 : Int32) (v2 : Int32) (v3 : Int32) (v4 : Int32) (v5 : Int32) (v6 : Int32) (I : PI) (L : PL), EvW M_X12_seenBy (d) 6 [(0, .ref 12), (1, .int v1), (2, .int v2), (3, .int v3), (4, .int v4), (5, .int v5), (6, .int v6)] [] I L (r_6 v1 v2 v3 v4 v5 v6 I L)) (v1 : Int32) (v2 : Int32) (v3 : Int32) (v4 : Int32) (v5 : Int32) (v6 : Int32) (s0 : Int32) (I : PI) (L : PL) : EvW M_X12_seenBy (d) 77 [(0, .ref 12), (1, .int v1), (2, .int v2), (3, .int v3), (4, .int v4), (5, .int v5), (6, .int v6)] [.int s0] I L (F_X12_seenBy_77 N r_6 v1 v2 v3 v4 v5 v6 s0 I L) := by
  rw [F_X12_seenBy_77]
  refine ev_iconst (pc := 77) 0 k_iconst_0 dX12_seenBy_77 ?_
  exact E_X12_seenBy_78 N d r_6 hr_6 v1 v2 v3 v4 v5 v6 0 s0 I L
def F_X12_seenBy_53 (N : Nat) (r_6 : Int32 → Int32 → Int32 → Int32 → Int32 → Int32 → PI → PL → RES) (v1 : Int32) (v2 : Int32) (v3 : Int32) (v4 : Int32) (v5 : Int32) (v6 : Int32) (s0 : Int32) (s1 : Int32) (I : PI) (L : PL) : RES := nmI (s1 + s0) (fun x1 => (if v3 ≤ 0 then F_X12_seenBy_77 N r_6 v1 v2 v3 v4 v5 v6 x1 I L else gd (decide (¬ v3 = 0)) ((if (jirem v6 v3) < (I 12 32) then F_X12_seenBy_77 N r_6 v1 v2 v3 v4 v5 v6 x1 I L else F_X12_seenBy_78 N r_6 v1 v2 v3 v4 v5 v6 1 x1 I L))))
set_option maxRecDepth 100000 in
theorem E_X12_seenBy_53 (N d : Nat) (r_6 : Int32 → Int32 → Int32 → Int32 → Int32 → Int32 → PI → PL → RES) (hr_6 : ∀ (v1 : Int32) (v2 : Int32) (v3 : Int32) (v4 : Int32) (v5 : Int32) (v6 : Int32) (I : PI) (L : PL), EvW M_X12_seenBy (d) 6 [(0, .ref 12), (1, .int v1), (2, .int v2), (3, .int v3), (4, .int v4), (5, .int v5), (6, .int v6)] [] I L (r_6 v1 v2 v3 v4 v5 v6 I L)) (v1 : Int32) (v2 : Int32) (v3 : Int32) (v4 : Int32) (v5 : Int32) (v6 : Int32) (s0 : Int32) (s1 : Int32) (I : PI) (L : PL) : EvW M_X12_seenBy (d) 53 [(0, .ref 12), (1, .int v1), (2, .int v2), (3, .int v3), (4, .int v4), (5, .int v5), (6, .int v6)] [.int s0, .int s1] I L (F_X12_seenBy_53 N r_6 v1 v2 v3 v4 v5 v6 s0 s1 I L) := by
  rw [F_X12_seenBy_53]
  refine ev_iadd (pc := 53) dX12_seenBy_53 ?_
  refine ev_nmI (fun x1 => ?_)
  refine ev_istore (pc := 54) (lv' := [(7, .int x1), (0, .ref 12), (1, .int v1), (2, .int v2), (3, .int v3), (4, .int v4), (5, .int v5), (6, .int v6)]) dX12_seenBy_54 rfl rfl ?_
  refine ev_iload (pc := 56) 0 dX12_seenBy_56 rfl ?_
  refine ev_iload_n (pc := 58) 4 dX12_seenBy_58 rfl ?_
  refine ev_if_le (pc := 59) 77 (by decide) dX12_seenBy_59 ?_ ?_
  · refine EvW.sub [1, 2, 3, 4, 5, 6, 7] rfl ?_
    exact E_X12_seenBy_77 N d r_6 hr_6 v1 v2 v3 v4 v5 v6 x1 I L
  · refine ev_iload (pc := 62) 7 dX12_seenBy_62 rfl ?_
    refine ev_iload_n (pc := 64) 4 dX12_seenBy_64 rfl ?_
    refine ev_irem (pc := 65) dX12_seenBy_65 ?_
    refine ev_aload_n (pc := 66) 1 dX12_seenBy_66 rfl ?_
    refine gf_X12_55 (pc := 67) rfl dX12_seenBy_67 ?_
    refine ev_icmp_lt (pc := 70) 77 (by decide) dX12_seenBy_70 ?_ ?_
    · refine EvW.sub [1, 2, 3, 4, 5, 6, 7] rfl ?_
      exact E_X12_seenBy_77 N d r_6 hr_6 v1 v2 v3 v4 v5 v6 x1 I L
    · refine ev_iconst (pc := 73) 1 k_iconst_1 dX12_seenBy_73 ?_
      refine ev_goto (pc := 74) 78 (by decide) dX12_seenBy_74 ?_
      refine EvW.sub [1, 2, 3, 4, 5, 6, 7] rfl ?_
      exact E_X12_seenBy_78 N d r_6 hr_6 v1 v2 v3 v4 v5 v6 1 x1 I L
def F_X12_seenBy_52 (N : Nat) (r_6 : Int32 → Int32 → Int32 → Int32 → Int32 → Int32 → PI → PL → RES) (v1 : Int32) (v2 : Int32) (v3 : Int32) (v4 : Int32) (v5 : Int32) (v6 : Int32) (s0 : Int32) (I : PI) (L : PL) : RES := F_X12_seenBy_53 N r_6 v1 v2 v3 v4 v5 v6 0 s0 I L
set_option maxRecDepth 100000 in
theorem E_X12_seenBy_52 (N d : Nat) (r_6 : Int32 → Int32 → Int32 → Int32 → Int32 → Int32 → PI → PL → RES) (hr_6 : ∀ (v1 : Int32) (v2 : Int32) (v3 : Int32) (v4 : Int32) (v5 : Int32) (v6 : Int32) (I : PI) (L : PL), EvW M_X12_seenBy (d) 6 [(0, .ref 12), (1, .int v1), (2, .int v2), (3, .int v3), (4, .int v4), (5, .int v5), (6, .int v6)] [] I L (r_6 v1 v2 v3 v4 v5 v6 I L)) (v1 : Int32) (v2 : Int32) (v3 : Int32) (v4 : Int32) (v5 : Int32) (v6 : Int32) (s0 : Int32) (I : PI) (L : PL) : EvW M_X12_seenBy (d) 52 [(0, .ref 12), (1, .int v1), (2, .int v2), (3, .int v3), (4, .int v4), (5, .int v5), (6, .int v6)] [.int s0] I L (F_X12_seenBy_52 N r_6 v1 v2 v3 v4 v5 v6 s0 I L) := by
  rw [F_X12_seenBy_52]
  refine ev_iconst (pc := 52) 0 k_iconst_0 dX12_seenBy_52 ?_
  exact E_X12_seenBy_53 N d r_6 hr_6 v1 v2 v3 v4 v5 v6 0 s0 I L
def F_X12_seenBy_29 (N : Nat) (r_6 : Int32 → Int32 → Int32 → Int32 → Int32 → Int32 → PI → PL → RES) (v1 : Int32) (v2 : Int32) (v3 : Int32) (v4 : Int32) (v5 : Int32) (v6 : Int32) (s0 : Int32) (I : PI) (L : PL) : RES := (if v2 ≤ 0 then F_X12_seenBy_52 N r_6 v1 v2 v3 v4 v5 v6 s0 I L else gd (decide (¬ v2 = 0)) ((if (jirem v6 v2) < (I 12 32) then F_X12_seenBy_52 N r_6 v1 v2 v3 v4 v5 v6 s0 I L else F_X12_seenBy_53 N r_6 v1 v2 v3 v4 v5 v6 1 s0 I L)))
set_option maxRecDepth 100000 in
theorem E_X12_seenBy_29 (N d : Nat) (r_6 : Int32 → Int32 → Int32 → Int32 → Int32 → Int32 → PI → PL → RES) (hr_6 : ∀ (v1 : Int32) (v2 : Int32) (v3 : Int32) (v4 : Int32) (v5 : Int32) (v6 : Int32) (I : PI) (L : PL), EvW M_X12_seenBy (d) 6 [(0, .ref 12), (1, .int v1), (2, .int v2), (3, .int v3), (4, .int v4), (5, .int v5), (6, .int v6)] [] I L (r_6 v1 v2 v3 v4 v5 v6 I L)) (v1 : Int32) (v2 : Int32) (v3 : Int32) (v4 : Int32) (v5 : Int32) (v6 : Int32) (s0 : Int32) (I : PI) (L : PL) : EvW M_X12_seenBy (d) 29 [(0, .ref 12), (1, .int v1), (2, .int v2), (3, .int v3), (4, .int v4), (5, .int v5), (6, .int v6)] [.int s0] I L (F_X12_seenBy_29 N r_6 v1 v2 v3 v4 v5 v6 s0 I L) := by
  rw [F_X12_seenBy_29]
  refine ev_istore (pc := 29) (lv' := [(7, .int s0), (0, .ref 12), (1, .int v1), (2, .int v2), (3, .int v3), (4, .int v4), (5, .int v5), (6, .int v6)]) dX12_seenBy_29 rfl rfl ?_
  refine ev_iload (pc := 31) 0 dX12_seenBy_31 rfl ?_
  refine ev_iload_n (pc := 33) 3 dX12_seenBy_33 rfl ?_
  refine ev_if_le (pc := 34) 52 (by decide) dX12_seenBy_34 ?_ ?_
  · refine EvW.sub [1, 2, 3, 4, 5, 6, 7] rfl ?_
    exact E_X12_seenBy_52 N d r_6 hr_6 v1 v2 v3 v4 v5 v6 s0 I L
  · refine ev_iload (pc := 37) 7 dX12_seenBy_37 rfl ?_
    refine ev_iload_n (pc := 39) 3 dX12_seenBy_39 rfl ?_
    refine ev_irem (pc := 40) dX12_seenBy_40 ?_
    refine ev_aload_n (pc := 41) 1 dX12_seenBy_41 rfl ?_
    refine gf_X12_55 (pc := 42) rfl dX12_seenBy_42 ?_
    refine ev_icmp_lt (pc := 45) 52 (by decide) dX12_seenBy_45 ?_ ?_
    · refine EvW.sub [1, 2, 3, 4, 5, 6, 7] rfl ?_
      exact E_X12_seenBy_52 N d r_6 hr_6 v1 v2 v3 v4 v5 v6 s0 I L
    · refine ev_iconst (pc := 48) 1 k_iconst_1 dX12_seenBy_48 ?_
      refine ev_goto (pc := 49) 53 (by decide) dX12_seenBy_49 ?_
      refine EvW.sub [1, 2, 3, 4, 5, 6, 7] rfl ?_
      exact E_X12_seenBy_53 N d r_6 hr_6 v1 v2 v3 v4 v5 v6 1 s0 I L
def F_X12_seenBy_6 (N : Nat) : Nat → Int32 → Int32 → Int32 → Int32 → Int32 → Int32 → PI → PL → RES
  | 0, _, _, _, _, _, _, _, _ => none
  | n + 1, v1, v2, v3, v4, v5, v6, I, L => (if v4 < v6 then some (some (.int v5), I, L) else gd (decide (¬ v1 = 0)) ((if (jirem v6 v1) < (I 12 32) then F_X12_seenBy_29 N (F_X12_seenBy_6 N n) v1 v2 v3 v4 v5 v6 0 I L else F_X12_seenBy_29 N (F_X12_seenBy_6 N n) v1 v2 v3 v4 v5 v6 1 I L)))
set_option maxRecDepth 100000 in
theorem E_X12_seenBy_6 (N d : Nat) : ∀ (n : Nat) (v1 : Int32) (v2 : Int32) (v3 : Int32) (v4 : Int32) (v5 : Int32) (v6 : Int32) (I : PI) (L : PL), EvW M_X12_seenBy (d) 6 [(0, .ref 12), (1, .int v1), (2, .int v2), (3, .int v3), (4, .int v4), (5, .int v5), (6, .int v6)] [] I L (F_X12_seenBy_6 N n v1 v2 v3 v4 v5 v6 I L) := by
  intro n
  induction n with
  | zero =>
    intro v1 v2 v3 v4 v5 v6 I L
    exact EvW.none
  | succ n hr_6 =>
    intro v1 v2 v3 v4 v5 v6 I L
    rw [F_X12_seenBy_6]
    refine ev_iload (pc := 6) 6 dX12_seenBy_6 rfl ?_
    refine ev_iload (pc := 8) 4 dX12_seenBy_8 rfl ?_
    refine ev_icmp_gt (pc := 10) 106 (by decide) dX12_seenBy_10 ?_ ?_
    · refine ev_iload (pc := 106) 5 dX12_seenBy_106 rfl ?_
      exact ev_iret (pc := 108) rfl dX12_seenBy_108
    · refine ev_iload (pc := 13) 6 dX12_seenBy_13 rfl ?_
      refine ev_iload_n (pc := 15) 1 dX12_seenBy_15 rfl ?_
      refine ev_irem (pc := 16) dX12_seenBy_16 ?_
      refine ev_aload_n (pc := 17) 0 dX12_seenBy_17 rfl ?_
      refine gf_X12_55 (pc := 18) rfl dX12_seenBy_18 ?_
      refine ev_icmp_lt (pc := 21) 28 (by decide) dX12_seenBy_21 ?_ ?_
      · refine ev_iconst (pc := 28) 0 k_iconst_0 dX12_seenBy_28 ?_
        exact E_X12_seenBy_29 N d (F_X12_seenBy_6 N n) hr_6 v1 v2 v3 v4 v5 v6 0 I L
      · refine ev_iconst (pc := 24) 1 k_iconst_1 dX12_seenBy_24 ?_
        refine ev_goto (pc := 25) 29 (by decide) dX12_seenBy_25 ?_
        exact E_X12_seenBy_29 N d (F_X12_seenBy_6 N n) hr_6 v1 v2 v3 v4 v5 v6 1 I L
def f_X12_seenBy (N : Nat) (a1 : Int32) (a2 : Int32) (a3 : Int32) (a4 : Int32) (I : PI) (L : PL) : RES := F_X12_seenBy_6 N N a1 a2 a3 a4 0 1 I L
set_option maxRecDepth 100000 in
theorem ok_X12_seenBy (N d : Nat) (a1 : Int32) (a2 : Int32) (a3 : Int32) (a4 : Int32) (I : PI) (L : PL) : MOk M_X12_seenBy (d) [.ref 12, .int a1, .int a2, .int a3, .int a4] I L (f_X12_seenBy N a1 a2 a3 a4 I L) := by
  refine MOk.of (by decide +kernel) (Nat.le_of_ble_eq_true rfl) ?_
  show EvW _ _ 0 [(0, .ref 12), (1, .int a1), (2, .int a2), (3, .int a3), (4, .int a4)] [] I L _
  rw [f_X12_seenBy]
  refine ev_iconst (pc := 0) 0 k_iconst_0 dX12_seenBy_0 ?_
  refine ev_istore (pc := 1) (lv' := [(5, .int 0), (0, .ref 12), (1, .int a1), (2, .int a2), (3, .int a3), (4, .int a4)]) dX12_seenBy_1 rfl rfl ?_
  refine ev_iconst (pc := 3) 1 k_iconst_1 dX12_seenBy_3 ?_
  refine ev_istore (pc := 4) (lv' := [(6, .int 1), (5, .int 0), (0, .ref 12), (1, .int a1), (2, .int a2), (3, .int a3), (4, .int a4)]) dX12_seenBy_4 rfl rfl ?_
  refine EvW.sub [2, 3, 4, 5, 6, 1, 0] rfl ?_
  exact E_X12_seenBy_6 N d N a1 a2 a3 a4 0 1 I L
def F_X12_stagger_202 (N : Nat) (r_66 : Int32 → Int32 → Int32 → Int32 → Int32 → Int32 → Int32 → PI → PL → RES) (r_87 : Int32 → Int32 → Int32 → Int32 → Int32 → Int32 → Int32 → Int32 → PI → PL → RES) (r_117 : Int32 → Int32 → Int32 → Int32 → Int32 → Int32 → Int32 → Int32 → Int32 → PI → PL → RES) (v1 : Int32) (v3 : Int32) (v4 : Int32) (v5 : Int32) (v8 : Int32) (v9 : Int32) (v10 : Int32) (v11 : Int32) (v12 : Int32) (I : PI) (L : PL) : RES := r_117 v1 v3 v4 v5 v12 v11 v8 v9 (v10 + 1) I L
set_option maxRecDepth 100000 in
theorem E_X12_stagger_202 (N d : Nat) (r_66 : Int32 → Int32 → Int32 → Int32 → Int32 → Int32 → Int32 → PI → PL → RES) (r_87 : Int32 → Int32 → Int32 → Int32 → Int32 → Int32 → Int32 → Int32 → PI → PL → RES) (r_117 : Int32 → Int32 → Int32 → Int32 → Int32 → Int32 → Int32 → Int32 → Int32 → PI → PL → RES) (hr_66 : ∀ (v1 : Int32) (v3 : Int32) (v4 : Int32) (v5 : Int32) (v6 : Int32) (v7 : Int32) (v8 : Int32) (I : PI) (L : PL), EvW M_X12_stagger (d + 1) 66 [(0, .ref 12), (1, .int v1), (3, .int v3), (4, .int v4), (5, .int v5), (6, .int v6), (7, .int v7), (8, .int v8)] [] I L (r_66 v1 v3 v4 v5 v6 v7 v8 I L)) (hr_87 : ∀ (v1 : Int32) (v3 : Int32) (v4 : Int32) (v5 : Int32) (v6 : Int32) (v7 : Int32) (v8 : Int32) (v9 : Int32) (I : PI) (L : PL), EvW M_X12_stagger (d + 1) 87 [(0, .ref 12), (1, .int v1), (3, .int v3), (4, .int v4), (5, .int v5), (6, .int v6), (7, .int v7), (8, .int v8), (9, .int v9)] [] I L (r_87 v1 v3 v4 v5 v6 v7 v8 v9 I L)) (hr_117 : ∀ (v1 : Int32) (v3 : Int32) (v4 : Int32) (v5 : Int32) (v6 : Int32) (v7 : Int32) (v8 : Int32) (v9 : Int32) (v10 : Int32) (I : PI) (L : PL), EvW M_X12_stagger (d + 1) 117 [(0, .ref 12), (1, .int v1), (3, .int v3), (4, .int v4), (5, .int v5), (6, .int v6), (7, .int v7), (8, .int v8), (9, .int v9), (10, .int v10)] [] I L (r_117 v1 v3 v4 v5 v6 v7 v8 v9 v10 I L)) (v1 : Int32) (v3 : Int32) (v4 : Int32) (v5 : Int32) (v8 : Int32) (v9 : Int32) (v10 : Int32) (v11 : Int32) (v12 : Int32) (I : PI) (L : PL) : EvW M_X12_stagger (d + 1) 202 [(0, .ref 12), (1, .int v1), (3, .int v3), (4, .int v4), (5, .int v5), (8, .int v8), (9, .int v9), (10, .int v10), (11, .int v11), (12, .int v12)] [] I L (F_X12_stagger_202 N r_66 r_87 r_117 v1 v3 v4 v5 v8 v9 v10 v11 v12 I L) := by
  rw [F_X12_stagger_202]
  refine ev_iload (pc := 202) 9 dX12_stagger_202 rfl ?_
  refine ev_istore (pc := 204) (lv' := [(6, .int v12), (0, .ref 12), (1, .int v1), (3, .int v3), (4, .int v4), (5, .int v5), (8, .int v8), (9, .int v9), (10, .int v10), (11, .int v11), (12, .int v12)]) dX12_stagger_204 rfl rfl ?_
  refine ev_iload (pc := 206) 9 dX12_stagger_206 rfl ?_
  refine ev_istore (pc := 208) (lv' := [(7, .int v11), (6, .int v12), (0, .ref 12), (1, .int v1), (3, .int v3), (4, .int v4), (5, .int v5), (8, .int v8), (9, .int v9), (10, .int v10), (11, .int v11), (12, .int v12)]) dX12_stagger_208 rfl rfl ?_
  refine ev_iinc (pc := 210) (lv' := [(10, .int (v10 + 1)), (7, .int v11), (6, .int v12), (0, .ref 12), (1, .int v1), (3, .int v3), (4, .int v4), (5, .int v5), (8, .int v8), (9, .int v9), (11, .int v11), (12, .int v12)]) dX12_stagger_210 9 rfl rfl 1 k_iconst_1 rfl ?_
  refine ev_goto (pc := 213) 117 (by decide) dX12_stagger_213 ?_
  refine EvW.sub [3, 4, 5, 6, 7, 2, 1, 8, 9, 0] rfl ?_
  exact hr_117 v1 v3 v4 v5 v12 v11 v8 v9 (v10 + 1) I L
def F_X12_stagger_187 (N : Nat) (r_66 : Int32 → Int32 → Int32 → Int32 → Int32 → Int32 → Int32 → PI → PL → RES) (r_87 : Int32 → Int32 → Int32 → Int32 → Int32 → Int32 → Int32 → Int32 → PI → PL → RES) (r_117 : Int32 → Int32 → Int32 → Int32 → Int32 → Int32 → Int32 → Int32 → Int32 → PI → PL → RES) (v1 : Int32) (v3 : Int32) (v4 : Int32) (v5 : Int32) (v6 : Int32) (v7 : Int32) (v8 : Int32) (v9 : Int32) (v10 : Int32) (v11 : Int32) (s0 : Int32) (I : PI) (L : PL) : RES := (if v6 = (-1 : Int32) then F_X12_stagger_202 N r_66 r_87 r_117 v1 v3 v4 v5 v8 v9 v10 v11 s0 I L else (if v11 ≤ v7 then r_117 v1 v3 v4 v5 v6 v7 v8 v9 (v10 + 1) I L else F_X12_stagger_202 N r_66 r_87 r_117 v1 v3 v4 v5 v8 v9 v10 v11 s0 I L))
set_option maxRecDepth 100000 in
theorem E_X12_stagger_187 (N d : Nat) (r_66 : Int32 → Int32 → Int32 → Int32 → Int32 → Int32 → Int32 → PI → PL → RES) (r_87 : Int32 → Int32 → Int32 → Int32 → Int32 → Int32 → Int32 → Int32 → PI → PL → RES) (r_117 : Int32 → Int32 → Int32 → Int32 → Int32 → Int32 → Int32 → Int32 → Int32 → PI → PL → RES) (hr_66 : ∀ (v1 : Int32) (v3 : Int32) (v4 : Int32) (v5 : Int32) (v6 : Int32) (v7 : Int32) (v8 : Int32) (I : PI) (L : PL), EvW M_X12_stagger (d + 1) 66 [(0, .ref 12), (1, .int v1), (3, .int v3), (4, .int v4), (5, .int v5), (6, .int v6), (7, .int v7), (8, .int v8)] [] I L (r_66 v1 v3 v4 v5 v6 v7 v8 I L)) (hr_87 : ∀ (v1 : Int32) (v3 : Int32) (v4 : Int32) (v5 : Int32) (v6 : Int32) (v7 : Int32) (v8 : Int32) (v9 : Int32) (I : PI) (L : PL), EvW M_X12_stagger (d + 1) 87 [(0, .ref 12), (1, .int v1), (3, .int v3), (4, .int v4), (5, .int v5), (6, .int v6), (7, .int v7), (8, .int v8), (9, .int v9)] [] I L (r_87 v1 v3 v4 v5 v6 v7 v8 v9 I L)) (hr_117 : ∀ (v1 : Int32) (v3 : Int32) (v4 : Int32) (v5 : Int32) (v6 : Int32) (v7 : Int32) (v8 : Int32) (v9 : Int32) (v10 : Int32) (I : PI) (L : PL), EvW M_X12_stagger (d + 1) 117 [(0, .ref 12), (1, .int v1), (3, .int v3), (4, .int v4), (5, .int v5), (6, .int v6), (7, .int v7), (8, .int v8), (9, .int v9), (10, .int v10)] [] I L (r_117 v1 v3 v4 v5 v6 v7 v8 v9 v10 I L)) (v1 : Int32) (v3 : Int32) (v4 : Int32) (v5 : Int32) (v6 : Int32) (v7 : Int32) (v8 : Int32) (v9 : Int32) (v10 : Int32) (v11 : Int32) (s0 : Int32) (I : PI) (L : PL) : EvW M_X12_stagger (d + 1) 187 [(0, .ref 12), (1, .int v1), (3, .int v3), (4, .int v4), (5, .int v5), (6, .int v6), (7, .int v7), (8, .int v8), (9, .int v9), (10, .int v10), (11, .int v11)] [.int s0] I L (F_X12_stagger_187 N r_66 r_87 r_117 v1 v3 v4 v5 v6 v7 v8 v9 v10 v11 s0 I L) := by
  rw [F_X12_stagger_187]
  refine ev_istore (pc := 187) (lv' := [(12, .int s0), (0, .ref 12), (1, .int v1), (3, .int v3), (4, .int v4), (5, .int v5), (6, .int v6), (7, .int v7), (8, .int v8), (9, .int v9), (10, .int v10), (11, .int v11)]) dX12_stagger_187 rfl rfl ?_
  refine ev_iload (pc := 189) 6 dX12_stagger_189 rfl ?_
  refine ev_iconst (pc := 191) (-1 : Int32) k_iconst_m1 dX12_stagger_191 ?_
  refine ev_icmp_eq (pc := 192) 202 (by decide) dX12_stagger_192 ?_ ?_
  · refine EvW.sub [1, 2, 3, 4, 5, 8, 9, 10, 11, 0] rfl ?_
    exact E_X12_stagger_202 N d r_66 r_87 r_117 hr_66 hr_87 hr_117 v1 v3 v4 v5 v8 v9 v10 v11 s0 I L
  · refine ev_iload (pc := 195) 11 dX12_stagger_195 rfl ?_
    refine ev_iload (pc := 197) 7 dX12_stagger_197 rfl ?_
    refine ev_icmp_le (pc := 199) 210 (by decide) dX12_stagger_199 ?_ ?_
    · refine ev_iinc (pc := 210) (lv' := [(10, .int (v10 + 1)), (12, .int s0), (0, .ref 12), (1, .int v1), (3, .int v3), (4, .int v4), (5, .int v5), (6, .int v6), (7, .int v7), (8, .int v8), (9, .int v9), (11, .int v11)]) dX12_stagger_210 10 rfl rfl 1 k_iconst_1 rfl ?_
      refine ev_goto (pc := 213) 117 (by decide) dX12_stagger_213 ?_
      refine EvW.sub [2, 3, 4, 5, 6, 7, 8, 9, 10, 0] rfl ?_
      exact hr_117 v1 v3 v4 v5 v6 v7 v8 v9 (v10 + 1) I L
    · refine EvW.sub [1, 2, 3, 4, 5, 8, 9, 10, 11, 0] rfl ?_
      exact E_X12_stagger_202 N d r_66 r_87 r_117 hr_66 hr_87 hr_117 v1 v3 v4 v5 v8 v9 v10 v11 s0 I L
def F_X12_stagger_129 (N : Nat) (r_66 : Int32 → Int32 → Int32 → Int32 → Int32 → Int32 → Int32 → PI → PL → RES) (r_87 : Int32 → Int32 → Int32 → Int32 → Int32 → Int32 → Int32 → Int32 → PI → PL → RES) (r_117 : Int32 → Int32 → Int32 → Int32 → Int32 → Int32 → Int32 → Int32 → Int32 → PI → PL → RES) (v1 : Int32) (v3 : Int32) (v4 : Int32) (v5 : Int32) (v6 : Int32) (v7 : Int32) (v8 : Int32) (v9 : Int32) (v10 : Int32) (s0 : Int32) (s1 : Int32) (I : PI) (L : PL) : RES := (if s0 < s1 then r_87 v1 v3 v4 v5 v6 v7 v8 (v9 + 1) I L else bI (f_X12_seenBy N v8 v9 v10 v4 I L) (fun x16 I17 L18 => (if v1 = 1 then F_X12_stagger_187 N r_66 r_87 r_117 v1 v3 v4 v5 v6 v7 v8 v9 v10 x16 v8 I17 L18 else (if v1 = 2 then F_X12_stagger_187 N r_66 r_87 r_117 v1 v3 v4 v5 v6 v7 v8 v9 v10 x16 ((100 * v8) + v9) I17 L18 else F_X12_stagger_187 N r_66 r_87 r_117 v1 v3 v4 v5 v6 v7 v8 v9 v10 x16 (((10000 * v8) + (100 * v9)) + v10) I17 L18))))
set_option maxRecDepth 100000 in
theorem E_X12_stagger_129 (N d : Nat) (r_66 : Int32 → Int32 → Int32 → Int32 → Int32 → Int32 → Int32 → PI → PL → RES) (r_87 : Int32 → Int32 → Int32 → Int32 → Int32 → Int32 → Int32 → Int32 → PI → PL → RES) (r_117 : Int32 → Int32 → Int32 → Int32 → Int32 → Int32 → Int32 → Int32 → Int32 → PI → PL → RES) (hr_66 : ∀ (v1 : Int32) (v3 : Int32) (v4 : Int32) (v5 : Int32) (v6 : Int32) (v7 : Int32) (v8 : Int32) (I : PI) (L : PL), EvW M_X12_stagger (d + 1) 66 [(0, .ref 12), (1, .int v1), (3, .int v3), (4, .int v4), (5, .int v5), (6, .int v6), (7, .int v7), (8, .int v8)] [] I L (r_66 v1 v3 v4 v5 v6 v7 v8 I L)) (hr_87 : ∀ (v1 : Int32) (v3 : Int32) (v4 : Int32) (v5 : Int32) (v6 : Int32) (v7 : Int32) (v8 : Int32) (v9 : Int32) (I : PI) (L : PL), EvW M_X12_stagger (d + 1) 87 [(0, .ref 12), (1, .int v1), (3, .int v3), (4, .int v4), (5, .int v5), (6, .int v6), (7, .int v7), (8, .int v8), (9, .int v9)] [] I L (r_87 v1 v3 v4 v5 v6 v7 v8 v9 I L)) (hr_117 : ∀ (v1 : Int32) (v3 : Int32) (v4 : Int32) (v5 : Int32) (v6 : Int32) (v7 : Int32) (v8 : Int32) (v9 : Int32) (v10 : Int32) (I : PI) (L : PL), EvW M_X12_stagger (d + 1) 117 [(0, .ref 12), (1, .int v1), (3, .int v3), (4, .int v4), (5, .int v5), (6, .int v6), (7, .int v7), (8, .int v8), (9, .int v9), (10, .int v10)] [] I L (r_117 v1 v3 v4 v5 v6 v7 v8 v9 v10 I L)) (v1 : Int32) (v3 : Int32) (v4 : Int32) (v5 : Int32) (v6 : Int32) (v7 : Int32) (v8 : Int32) (v9 : Int32) (v10 : Int32) (s0 : Int32) (s1 : Int32) (I : PI) (L : PL) : EvW M_X12_stagger (d + 1) 129 [(0, .ref 12), (1, .int v1), (3, .int v3), (4, .int v4), (5, .int v5), (6, .int v6), (7, .int v7), (8, .int v8), (9, .int v9), (10, .int v10)] [.int s0, .int s1] I L (F_X12_stagger_129 N r_66 r_87 r_117 v1 v3 v4 v5 v6 v7 v8 v9 v10 s0 s1 I L) := by
  rw [F_X12_stagger_129]
  refine ev_icmp_gt (pc := 129) 216 (by decide) dX12_stagger_129 ?_ ?_
  · refine ev_iinc (pc := 216) (lv' := [(9, .int (v9 + 1)), (0, .ref 12), (1, .int v1), (3, .int v3), (4, .int v4), (5, .int v5), (6, .int v6), (7, .int v7), (8, .int v8), (10, .int v10)]) dX12_stagger_216 8 rfl rfl 1 k_iconst_1 rfl ?_
    refine ev_goto (pc := 219) 87 (by decide) dX12_stagger_219 ?_
    refine EvW.sub [1, 2, 3, 4, 5, 6, 7, 8, 0] rfl ?_
    exact hr_87 v1 v3 v4 v5 v6 v7 v8 (v9 + 1) I L
  · refine ev_aload_n (pc := 132) 0 dX12_stagger_132 rfl ?_
    refine ev_iload (pc := 133) 7 dX12_stagger_133 rfl ?_
    refine ev_iload (pc := 135) 8 dX12_stagger_135 rfl ?_
    refine ev_iload (pc := 137) 9 dX12_stagger_137 rfl ?_
    refine ev_iload (pc := 139) 3 dX12_stagger_139 rfl ?_
    refine ev_callVI (pc := 141) (d := d) (As := [.int v8, .int v9, .int v10, .int v4]) (st := []) cv_X12_seenBy rfl w_972 rfl (Nat.le_of_ble_eq_true rfl) (ok_X12_seenBy N (d) v8 v9 v10 v4 I L) dX12_stagger_141 (fun x16 I17 L18 => ?_)
    refine ev_istore (pc := 144) (lv' := [(11, .int x16), (0, .ref 12), (1, .int v1), (3, .int v3), (4, .int v4), (5, .int v5), (6, .int v6), (7, .int v7), (8, .int v8), (9, .int v9), (10, .int v10)]) dX12_stagger_144 rfl rfl ?_
    refine ev_iload_n (pc := 146) 2 dX12_stagger_146 rfl ?_
    refine ev_iconst (pc := 147) 1 k_iconst_1 dX12_stagger_147 ?_
    refine ev_icmp_ne (pc := 148) 156 (by decide) dX12_stagger_148 ?_ ?_
    · refine ev_iload_n (pc := 156) 2 dX12_stagger_156 rfl ?_
      refine ev_iconst (pc := 157) 2 k_iconst_2 dX12_stagger_157 ?_
      refine ev_icmp_ne (pc := 158) 172 (by decide) dX12_stagger_158 ?_ ?_
      · refine ev_sipush (pc := 172) 10000 k_sipush_10000 dX12_stagger_172 ?_
        refine ev_iload (pc := 175) 8 dX12_stagger_175 rfl ?_
        refine ev_imul (pc := 177) dX12_stagger_177 ?_
        refine ev_bipush (pc := 178) 100 k_bipush_100 dX12_stagger_178 ?_
        refine ev_iload (pc := 180) 9 dX12_stagger_180 rfl ?_
        refine ev_imul (pc := 182) dX12_stagger_182 ?_
        refine ev_iadd (pc := 183) dX12_stagger_183 ?_
        refine ev_iload (pc := 184) 10 dX12_stagger_184 rfl ?_
        refine ev_iadd (pc := 186) dX12_stagger_186 ?_
        refine EvW.sub [1, 2, 3, 4, 5, 6, 7, 8, 9, 10, 0] rfl ?_
        exact E_X12_stagger_187 N d r_66 r_87 r_117 hr_66 hr_87 hr_117 v1 v3 v4 v5 v6 v7 v8 v9 v10 x16 (((10000 * v8) + (100 * v9)) + v10) I17 L18
      · refine ev_bipush (pc := 161) 100 k_bipush_100 dX12_stagger_161 ?_
        refine ev_iload (pc := 163) 8 dX12_stagger_163 rfl ?_
        refine ev_imul (pc := 165) dX12_stagger_165 ?_
        refine ev_iload (pc := 166) 9 dX12_stagger_166 rfl ?_
        refine ev_iadd (pc := 168) dX12_stagger_168 ?_
        refine ev_goto (pc := 169) 187 (by decide) dX12_stagger_169 ?_
        refine EvW.sub [1, 2, 3, 4, 5, 6, 7, 8, 9, 10, 0] rfl ?_
        exact E_X12_stagger_187 N d r_66 r_87 r_117 hr_66 hr_87 hr_117 v1 v3 v4 v5 v6 v7 v8 v9 v10 x16 ((100 * v8) + v9) I17 L18
    · refine ev_iload (pc := 151) 8 dX12_stagger_151 rfl ?_
      refine ev_goto (pc := 153) 187 (by decide) dX12_stagger_153 ?_
      refine EvW.sub [1, 2, 3, 4, 5, 6, 7, 8, 9, 10, 0] rfl ?_
      exact E_X12_stagger_187 N d r_66 r_87 r_117 hr_66 hr_87 hr_117 v1 v3 v4 v5 v6 v7 v8 v9 v10 x16 v8 I17 L18
def F_X12_stagger_117 (N : Nat) (r_66 : Int32 → Int32 → Int32 → Int32 → Int32 → Int32 → Int32 → PI → PL → RES) (r_87 : Int32 → Int32 → Int32 → Int32 → Int32 → Int32 → Int32 → Int32 → PI → PL → RES) : Nat → Int32 → Int32 → Int32 → Int32 → Int32 → Int32 → Int32 → Int32 → Int32 → PI → PL → RES
  | 0, _, _, _, _, _, _, _, _, _, _, _ => none
  | n + 1, v1, v3, v4, v5, v6, v7, v8, v9, v10, I, L => (if v1 ≤ 2 then F_X12_stagger_129 N r_66 r_87 (F_X12_stagger_117 N r_66 r_87 n) v1 v3 v4 v5 v6 v7 v8 v9 v10 0 v10 I L else F_X12_stagger_129 N r_66 r_87 (F_X12_stagger_117 N r_66 r_87 n) v1 v3 v4 v5 v6 v7 v8 v9 v10 v3 v10 I L)
set_option maxRecDepth 100000 in
theorem E_X12_stagger_117 (N d : Nat) (r_66 : Int32 → Int32 → Int32 → Int32 → Int32 → Int32 → Int32 → PI → PL → RES) (r_87 : Int32 → Int32 → Int32 → Int32 → Int32 → Int32 → Int32 → Int32 → PI → PL → RES) (hr_66 : ∀ (v1 : Int32) (v3 : Int32) (v4 : Int32) (v5 : Int32) (v6 : Int32) (v7 : Int32) (v8 : Int32) (I : PI) (L : PL), EvW M_X12_stagger (d + 1) 66 [(0, .ref 12), (1, .int v1), (3, .int v3), (4, .int v4), (5, .int v5), (6, .int v6), (7, .int v7), (8, .int v8)] [] I L (r_66 v1 v3 v4 v5 v6 v7 v8 I L)) (hr_87 : ∀ (v1 : Int32) (v3 : Int32) (v4 : Int32) (v5 : Int32) (v6 : Int32) (v7 : Int32) (v8 : Int32) (v9 : Int32) (I : PI) (L : PL), EvW M_X12_stagger (d + 1) 87 [(0, .ref 12), (1, .int v1), (3, .int v3), (4, .int v4), (5, .int v5), (6, .int v6), (7, .int v7), (8, .int v8), (9, .int v9)] [] I L (r_87 v1 v3 v4 v5 v6 v7 v8 v9 I L)) : ∀ (n : Nat) (v1 : Int32) (v3 : Int32) (v4 : Int32) (v5 : Int32) (v6 : Int32) (v7 : Int32) (v8 : Int32) (v9 : Int32) (v10 : Int32) (I : PI) (L : PL), EvW M_X12_stagger (d + 1) 117 [(0, .ref 12), (1, .int v1), (3, .int v3), (4, .int v4), (5, .int v5), (6, .int v6), (7, .int v7), (8, .int v8), (9, .int v9), (10, .int v10)] [] I L (F_X12_stagger_117 N r_66 r_87 n v1 v3 v4 v5 v6 v7 v8 v9 v10 I L) := by
  intro n
  induction n with
  | zero =>
    intro v1 v3 v4 v5 v6 v7 v8 v9 v10 I L
    exact EvW.none
  | succ n hr_117 =>
    intro v1 v3 v4 v5 v6 v7 v8 v9 v10 I L
    rw [F_X12_stagger_117]
    refine ev_iload (pc := 117) 9 dX12_stagger_117 rfl ?_
    refine ev_iload_n (pc := 119) 1 dX12_stagger_119 rfl ?_
    refine ev_iconst (pc := 120) 2 k_iconst_2 dX12_stagger_120 ?_
    refine ev_icmp_le (pc := 121) 128 (by decide) dX12_stagger_121 ?_ ?_
    · refine ev_iconst (pc := 128) 0 k_iconst_0 dX12_stagger_128 ?_
      exact E_X12_stagger_129 N d r_66 r_87 (F_X12_stagger_117 N r_66 r_87 n) hr_66 hr_87 hr_117 v1 v3 v4 v5 v6 v7 v8 v9 v10 0 v10 I L
    · refine ev_iload_n (pc := 124) 2 dX12_stagger_124 rfl ?_
      refine ev_goto (pc := 125) 129 (by decide) dX12_stagger_125 ?_
      exact E_X12_stagger_129 N d r_66 r_87 (F_X12_stagger_117 N r_66 r_87 n) hr_66 hr_87 hr_117 v1 v3 v4 v5 v6 v7 v8 v9 v10 v3 v10 I L
def F_X12_stagger_99 (N : Nat) (r_66 : Int32 → Int32 → Int32 → Int32 → Int32 → Int32 → Int32 → PI → PL → RES) (r_87 : Int32 → Int32 → Int32 → Int32 → Int32 → Int32 → Int32 → Int32 → PI → PL → RES) (v1 : Int32) (v3 : Int32) (v4 : Int32) (v5 : Int32) (v6 : Int32) (v7 : Int32) (v8 : Int32) (v9 : Int32) (s0 : Int32) (s1 : Int32) (I : PI) (L : PL) : RES := (if s0 < s1 then r_66 v1 v3 v4 v5 v6 v7 (v8 + 1) I L else (if v1 ≤ 2 then F_X12_stagger_117 N r_66 r_87 N v1 v3 v4 v5 v6 v7 v8 v9 0 I L else nmI (v9 + 1) (fun x19 => F_X12_stagger_117 N r_66 r_87 N v1 v3 v4 v5 v6 v7 v8 v9 x19 I L)))
set_option maxRecDepth 100000 in
theorem E_X12_stagger_99 (N d : Nat) (r_66 : Int32 → Int32 → Int32 → Int32 → Int32 → Int32 → Int32 → PI → PL → RES) (r_87 : Int32 → Int32 → Int32 → Int32 → Int32 → Int32 → Int32 → Int32 → PI → PL → RES) (hr_66 : ∀ (v1 : Int32) (v3 : Int32) (v4 : Int32) (v5 : Int32) (v6 : Int32) (v7 : Int32) (v8 : Int32) (I : PI) (L : PL), EvW M_X12_stagger (d + 1) 66 [(0, .ref 12), (1, .int v1), (3, .int v3), (4, .int v4), (5, .int v5), (6, .int v6), (7, .int v7), (8, .int v8)] [] I L (r_66 v1 v3 v4 v5 v6 v7 v8 I L)) (hr_87 : ∀ (v1 : Int32) (v3 : Int32) (v4 : Int32) (v5 : Int32) (v6 : Int32) (v7 : Int32) (v8 : Int32) (v9 : Int32) (I : PI) (L : PL), EvW M_X12_stagger (d + 1) 87 [(0, .ref 12), (1, .int v1), (3, .int v3), (4, .int v4), (5, .int v5), (6, .int v6), (7, .int v7), (8, .int v8), (9, .int v9)] [] I L (r_87 v1 v3 v4 v5 v6 v7 v8 v9 I L)) (v1 : Int32) (v3 : Int32) (v4 : Int32) (v5 : Int32) (v6 : Int32) (v7 : Int32) (v8 : Int32) (v9 : Int32) (s0 : Int32) (s1 : Int32) (I : PI) (L : PL) : EvW M_X12_stagger (d + 1) 99 [(0, .ref 12), (1, .int v1), (3, .int v3), (4, .int v4), (5, .int v5), (6, .int v6), (7, .int v7), (8, .int v8), (9, .int v9)] [.int s0, .int s1] I L (F_X12_stagger_99 N r_66 r_87 v1 v3 v4 v5 v6 v7 v8 v9 s0 s1 I L) := by
  rw [F_X12_stagger_99]
  refine ev_icmp_gt (pc := 99) 222 (by decide) dX12_stagger_99 ?_ ?_
  · refine ev_iinc (pc := 222) (lv' := [(8, .int (v8 + 1)), (0, .ref 12), (1, .int v1), (3, .int v3), (4, .int v4), (5, .int v5), (6, .int v6), (7, .int v7), (9, .int v9)]) dX12_stagger_222 7 rfl rfl 1 k_iconst_1 rfl ?_
    refine ev_goto (pc := 225) 66 (by decide) dX12_stagger_225 ?_
    refine EvW.sub [1, 2, 3, 4, 5, 6, 7, 0] rfl ?_
    exact hr_66 v1 v3 v4 v5 v6 v7 (v8 + 1) I L
  · refine ev_iload_n (pc := 102) 1 dX12_stagger_102 rfl ?_
    refine ev_iconst (pc := 103) 2 k_iconst_2 dX12_stagger_103 ?_
    refine ev_icmp_le (pc := 104) 114 (by decide) dX12_stagger_104 ?_ ?_
    · refine ev_iconst (pc := 114) 0 k_iconst_0 dX12_stagger_114 ?_
      refine ev_istore (pc := 115) (lv' := [(10, .int 0), (0, .ref 12), (1, .int v1), (3, .int v3), (4, .int v4), (5, .int v5), (6, .int v6), (7, .int v7), (8, .int v8), (9, .int v9)]) dX12_stagger_115 rfl rfl ?_
      refine EvW.sub [1, 2, 3, 4, 5, 6, 7, 8, 9, 0] rfl ?_
      exact E_X12_stagger_117 N d r_66 r_87 hr_66 hr_87 N v1 v3 v4 v5 v6 v7 v8 v9 0 I L
    · refine ev_iload (pc := 107) 8 dX12_stagger_107 rfl ?_
      refine ev_iconst (pc := 109) 1 k_iconst_1 dX12_stagger_109 ?_
      refine ev_iadd (pc := 110) dX12_stagger_110 ?_
      refine ev_goto (pc := 111) 115 (by decide) dX12_stagger_111 ?_
      refine ev_nmI (fun x19 => ?_)
      refine ev_istore (pc := 115) (lv' := [(10, .int x19), (0, .ref 12), (1, .int v1), (3, .int v3), (4, .int v4), (5, .int v5), (6, .int v6), (7, .int v7), (8, .int v8), (9, .int v9)]) dX12_stagger_115 rfl rfl ?_
      refine EvW.sub [1, 2, 3, 4, 5, 6, 7, 8, 9, 0] rfl ?_
      exact E_X12_stagger_117 N d r_66 r_87 hr_66 hr_87 N v1 v3 v4 v5 v6 v7 v8 v9 x19 I L
def F_X12_stagger_87 (N : Nat) (r_66 : Int32 → Int32 → Int32 → Int32 → Int32 → Int32 → Int32 → PI → PL → RES) : Nat → Int32 → Int32 → Int32 → Int32 → Int32 → Int32 → Int32 → Int32 → PI → PL → RES
  | 0, _, _, _, _, _, _, _, _, _, _ => none
  | n + 1, v1, v3, v4, v5, v6, v7, v8, v9, I, L => (if v1 ≤ 1 then F_X12_stagger_99 N r_66 (F_X12_stagger_87 N r_66 n) v1 v3 v4 v5 v6 v7 v8 v9 0 v9 I L else F_X12_stagger_99 N r_66 (F_X12_stagger_87 N r_66 n) v1 v3 v4 v5 v6 v7 v8 v9 v3 v9 I L)
set_option maxRecDepth 100000 in
theorem E_X12_stagger_87 (N d : Nat) (r_66 : Int32 → Int32 → Int32 → Int32 → Int32 → Int32 → Int32 → PI → PL → RES) (hr_66 : ∀ (v1 : Int32) (v3 : Int32) (v4 : Int32) (v5 : Int32) (v6 : Int32) (v7 : Int32) (v8 : Int32) (I : PI) (L : PL), EvW M_X12_stagger (d + 1) 66 [(0, .ref 12), (1, .int v1), (3, .int v3), (4, .int v4), (5, .int v5), (6, .int v6), (7, .int v7), (8, .int v8)] [] I L (r_66 v1 v3 v4 v5 v6 v7 v8 I L)) : ∀ (n : Nat) (v1 : Int32) (v3 : Int32) (v4 : Int32) (v5 : Int32) (v6 : Int32) (v7 : Int32) (v8 : Int32) (v9 : Int32) (I : PI) (L : PL), EvW M_X12_stagger (d + 1) 87 [(0, .ref 12), (1, .int v1), (3, .int v3), (4, .int v4), (5, .int v5), (6, .int v6), (7, .int v7), (8, .int v8), (9, .int v9)] [] I L (F_X12_stagger_87 N r_66 n v1 v3 v4 v5 v6 v7 v8 v9 I L) := by
  intro n
  induction n with
  | zero =>
    intro v1 v3 v4 v5 v6 v7 v8 v9 I L
    exact EvW.none
  | succ n hr_87 =>
    intro v1 v3 v4 v5 v6 v7 v8 v9 I L
    rw [F_X12_stagger_87]
    refine ev_iload (pc := 87) 8 dX12_stagger_87 rfl ?_
    refine ev_iload_n (pc := 89) 1 dX12_stagger_89 rfl ?_
    refine ev_iconst (pc := 90) 1 k_iconst_1 dX12_stagger_90 ?_
    refine ev_icmp_le (pc := 91) 98 (by decide) dX12_stagger_91 ?_ ?_
    · refine ev_iconst (pc := 98) 0 k_iconst_0 dX12_stagger_98 ?_
      exact E_X12_stagger_99 N d r_66 (F_X12_stagger_87 N r_66 n) hr_66 hr_87 v1 v3 v4 v5 v6 v7 v8 v9 0 v9 I L
    · refine ev_iload_n (pc := 94) 2 dX12_stagger_94 rfl ?_
      refine ev_goto (pc := 95) 99 (by decide) dX12_stagger_95 ?_
      exact E_X12_stagger_99 N d r_66 (F_X12_stagger_87 N r_66 n) hr_66 hr_87 v1 v3 v4 v5 v6 v7 v8 v9 v3 v9 I L
def F_X12_stagger_66 (N : Nat) : Nat → Int32 → Int32 → Int32 → Int32 → Int32 → Int32 → Int32 → PI → PL → RES
  | 0, _, _, _, _, _, _, _, _, _ => none
  | n + 1, v1, v3, v4, v5, v6, v7, v8, I, L => (if v3 < v8 then (if v5 = 0 then some (some (.int v6), I, L) else some (some (.int v7), I, L)) else (if v1 ≤ 1 then F_X12_stagger_87 N (F_X12_stagger_66 N n) N v1 v3 v4 v5 v6 v7 v8 0 I L else nmI (v8 + 1) (fun x20 => F_X12_stagger_87 N (F_X12_stagger_66 N n) N v1 v3 v4 v5 v6 v7 v8 x20 I L)))
set_option maxRecDepth 100000 in
theorem E_X12_stagger_66 (N d : Nat) : ∀ (n : Nat) (v1 : Int32) (v3 : Int32) (v4 : Int32) (v5 : Int32) (v6 : Int32) (v7 : Int32) (v8 : Int32) (I : PI) (L : PL), EvW M_X12_stagger (d + 1) 66 [(0, .ref 12), (1, .int v1), (3, .int v3), (4, .int v4), (5, .int v5), (6, .int v6), (7, .int v7), (8, .int v8)] [] I L (F_X12_stagger_66 N n v1 v3 v4 v5 v6 v7 v8 I L) := by
  intro n
  induction n with
  | zero =>
    intro v1 v3 v4 v5 v6 v7 v8 I L
    exact EvW.none
  | succ n hr_66 =>
    intro v1 v3 v4 v5 v6 v7 v8 I L
    rw [F_X12_stagger_66]
    refine ev_iload (pc := 66) 7 dX12_stagger_66 rfl ?_
    refine ev_iload_n (pc := 68) 2 dX12_stagger_68 rfl ?_
    refine ev_icmp_gt (pc := 69) 228 (by decide) dX12_stagger_69 ?_ ?_
    · refine ev_iload (pc := 228) 4 dX12_stagger_228 rfl ?_
      refine ev_if_ne (pc := 230) 238 (by decide) dX12_stagger_230 ?_ ?_
      · refine ev_iload (pc := 238) 6 dX12_stagger_238 rfl ?_
        exact ev_iret (pc := 240) rfl dX12_stagger_240
      · refine ev_iload (pc := 233) 5 dX12_stagger_233 rfl ?_
        refine ev_goto (pc := 235) 240 (by decide) dX12_stagger_235 ?_
        exact ev_iret (pc := 240) rfl dX12_stagger_240
    · refine ev_iload_n (pc := 72) 1 dX12_stagger_72 rfl ?_
      refine ev_iconst (pc := 73) 1 k_iconst_1 dX12_stagger_73 ?_
      refine ev_icmp_le (pc := 74) 84 (by decide) dX12_stagger_74 ?_ ?_
      · refine ev_iconst (pc := 84) 0 k_iconst_0 dX12_stagger_84 ?_
        refine ev_istore (pc := 85) (lv' := [(9, .int 0), (0, .ref 12), (1, .int v1), (3, .int v3), (4, .int v4), (5, .int v5), (6, .int v6), (7, .int v7), (8, .int v8)]) dX12_stagger_85 rfl rfl ?_
        refine EvW.sub [1, 2, 3, 4, 5, 6, 7, 8, 0] rfl ?_
        exact E_X12_stagger_87 N d (F_X12_stagger_66 N n) hr_66 N v1 v3 v4 v5 v6 v7 v8 0 I L
      · refine ev_iload (pc := 77) 7 dX12_stagger_77 rfl ?_
        refine ev_iconst (pc := 79) 1 k_iconst_1 dX12_stagger_79 ?_
        refine ev_iadd (pc := 80) dX12_stagger_80 ?_
        refine ev_goto (pc := 81) 85 (by decide) dX12_stagger_81 ?_
        refine ev_nmI (fun x20 => ?_)
        refine ev_istore (pc := 85) (lv' := [(9, .int x20), (0, .ref 12), (1, .int v1), (3, .int v3), (4, .int v4), (5, .int v5), (6, .int v6), (7, .int v7), (8, .int v8)]) dX12_stagger_85 rfl rfl ?_
        refine EvW.sub [1, 2, 3, 4, 5, 6, 7, 8, 0] rfl ?_
        exact E_X12_stagger_87 N d (F_X12_stagger_66 N n) hr_66 N v1 v3 v4 v5 v6 v7 v8 x20 I L
def f_X12_stagger (N : Nat) (a1 : Int32) (a2 : Int32) (a3 : Int32) (a4 : Int32) (a5 : Int32) (I : PI) (L : PL) : RES := bI (f_X12_in N a1 1 3 I L) (fun x1 I2 L3 => (if x1 = 0 then some (some (.int (-1 : Int32)), I2, L3) else bI (f_X12_in N a2 2 30 I2 L3) (fun x4 I5 L6 => (if x4 = 0 then some (some (.int (-1 : Int32)), I5, L6) else bI (f_X12_in N a3 ((a2 + a1) - 1) 30 I5 L6) (fun x7 I8 L9 => (if x7 = 0 then some (some (.int (-1 : Int32)), I8, L9) else bI (f_X12_in N a4 1 300 I8 L9) (fun x10 I11 L12 => (if x10 = 0 then some (some (.int (-1 : Int32)), I11, L12) else bI (f_X12_in N a5 0 1 I11 L12) (fun x13 I14 L15 => (if x13 = 0 then some (some (.int (-1 : Int32)), I14, L15) else F_X12_stagger_66 N N a1 a3 a4 a5 (-1 : Int32) 0 a2 I14 L15))))))))))
set_option maxRecDepth 100000 in
theorem ok_X12_stagger (N d : Nat) (a1 : Int32) (a2 : Int32) (a3 : Int32) (a4 : Int32) (a5 : Int32) (I : PI) (L : PL) : MOk M_X12_stagger (d + 1) [.ref 12, .int a1, .int a2, .int a3, .int a4, .int a5] I L (f_X12_stagger N a1 a2 a3 a4 a5 I L) := by
  refine MOk.of (by decide +kernel) (Nat.le_of_ble_eq_true rfl) ?_
  show EvW _ _ 0 [(0, .ref 12), (1, .int a1), (2, .int a2), (3, .int a3), (4, .int a4), (5, .int a5)] [] I L _
  rw [f_X12_stagger]
  refine ev_iload_n (pc := 0) 1 dX12_stagger_0 rfl ?_
  refine ev_iconst (pc := 1) 1 k_iconst_1 dX12_stagger_1 ?_
  refine ev_iconst (pc := 2) 3 k_iconst_3 dX12_stagger_2 ?_
  refine ev_callSI (pc := 3) (d := d) (As := [.int a1, .int 1, .int 3]) (st := []) cv_X12_in rfl w_790 rfl (Nat.le_of_ble_eq_true rfl) (ok_X12_in N (d) a1 1 3 I L) dX12_stagger_3 (fun x1 I2 L3 => ?_)
  refine ev_if_eq (pc := 6) 55 (by decide) dX12_stagger_6 ?_ ?_
  · refine ev_iconst (pc := 55) (-1 : Int32) k_iconst_m1 dX12_stagger_55 ?_
    exact ev_iret (pc := 56) rfl dX12_stagger_56
  · refine ev_iload_n (pc := 9) 2 dX12_stagger_9 rfl ?_
    refine ev_iconst (pc := 10) 2 k_iconst_2 dX12_stagger_10 ?_
    refine ev_bipush (pc := 11) 30 k_bipush_30 dX12_stagger_11 ?_
    refine ev_callSI (pc := 13) (d := d) (As := [.int a2, .int 2, .int 30]) (st := []) cv_X12_in rfl w_790 rfl (Nat.le_of_ble_eq_true rfl) (ok_X12_in N (d) a2 2 30 I2 L3) dX12_stagger_13 (fun x4 I5 L6 => ?_)
    refine ev_if_eq (pc := 16) 55 (by decide) dX12_stagger_16 ?_ ?_
    · refine ev_iconst (pc := 55) (-1 : Int32) k_iconst_m1 dX12_stagger_55 ?_
      exact ev_iret (pc := 56) rfl dX12_stagger_56
    · refine ev_iload_n (pc := 19) 3 dX12_stagger_19 rfl ?_
      refine ev_iload_n (pc := 20) 2 dX12_stagger_20 rfl ?_
      refine ev_iload_n (pc := 21) 1 dX12_stagger_21 rfl ?_
      refine ev_iadd (pc := 22) dX12_stagger_22 ?_
      refine ev_iconst (pc := 23) 1 k_iconst_1 dX12_stagger_23 ?_
      refine ev_isub (pc := 24) dX12_stagger_24 ?_
      refine ev_bipush (pc := 25) 30 k_bipush_30 dX12_stagger_25 ?_
      refine ev_callSI (pc := 27) (d := d) (As := [.int a3, .int ((a2 + a1) - 1), .int 30]) (st := []) cv_X12_in rfl w_790 rfl (Nat.le_of_ble_eq_true rfl) (ok_X12_in N (d) a3 ((a2 + a1) - 1) 30 I5 L6) dX12_stagger_27 (fun x7 I8 L9 => ?_)
      refine ev_if_eq (pc := 30) 55 (by decide) dX12_stagger_30 ?_ ?_
      · refine ev_iconst (pc := 55) (-1 : Int32) k_iconst_m1 dX12_stagger_55 ?_
        exact ev_iret (pc := 56) rfl dX12_stagger_56
      · refine ev_iload (pc := 33) 4 dX12_stagger_33 rfl ?_
        refine ev_iconst (pc := 35) 1 k_iconst_1 dX12_stagger_35 ?_
        refine ev_sipush (pc := 36) 300 k_sipush_300 dX12_stagger_36 ?_
        refine ev_callSI (pc := 39) (d := d) (As := [.int a4, .int 1, .int 300]) (st := []) cv_X12_in rfl w_790 rfl (Nat.le_of_ble_eq_true rfl) (ok_X12_in N (d) a4 1 300 I8 L9) dX12_stagger_39 (fun x10 I11 L12 => ?_)
        refine ev_if_eq (pc := 42) 55 (by decide) dX12_stagger_42 ?_ ?_
        · refine ev_iconst (pc := 55) (-1 : Int32) k_iconst_m1 dX12_stagger_55 ?_
          exact ev_iret (pc := 56) rfl dX12_stagger_56
        · refine ev_iload (pc := 45) 5 dX12_stagger_45 rfl ?_
          refine ev_iconst (pc := 47) 0 k_iconst_0 dX12_stagger_47 ?_
          refine ev_iconst (pc := 48) 1 k_iconst_1 dX12_stagger_48 ?_
          refine ev_callSI (pc := 49) (d := d) (As := [.int a5, .int 0, .int 1]) (st := []) cv_X12_in rfl w_790 rfl (Nat.le_of_ble_eq_true rfl) (ok_X12_in N (d) a5 0 1 I11 L12) dX12_stagger_49 (fun x13 I14 L15 => ?_)
          refine ev_if_ne (pc := 52) 57 (by decide) dX12_stagger_52 ?_ ?_
          · refine ev_iconst (pc := 57) (-1 : Int32) k_iconst_m1 dX12_stagger_57 ?_
            refine ev_istore (pc := 58) (lv' := [(6, .int (-1 : Int32)), (0, .ref 12), (1, .int a1), (2, .int a2), (3, .int a3), (4, .int a4), (5, .int a5)]) dX12_stagger_58 rfl rfl ?_
            refine ev_iconst (pc := 60) 0 k_iconst_0 dX12_stagger_60 ?_
            refine ev_istore (pc := 61) (lv' := [(7, .int 0), (6, .int (-1 : Int32)), (0, .ref 12), (1, .int a1), (2, .int a2), (3, .int a3), (4, .int a4), (5, .int a5)]) dX12_stagger_61 rfl rfl ?_
            refine ev_iload_n (pc := 63) 4 dX12_stagger_63 rfl ?_
            refine ev_istore (pc := 64) (lv' := [(8, .int a2), (7, .int 0), (6, .int (-1 : Int32)), (0, .ref 12), (1, .int a1), (2, .int a2), (3, .int a3), (4, .int a4), (5, .int a5)]) dX12_stagger_64 rfl rfl ?_
            refine EvW.sub [3, 4, 6, 7, 8, 2, 1, 0] rfl ?_
            exact E_X12_stagger_66 N d N a1 a3 a4 a5 (-1 : Int32) 0 a2 I14 L15
          · refine ev_iconst (pc := 55) (-1 : Int32) k_iconst_m1 dX12_stagger_55 ?_
            exact ev_iret (pc := 56) rfl dX12_stagger_56
def F_X12_factor_33 (N : Nat) : Nat → Int32 → Int32 → Int32 → Int32 → Int32 → PI → PL → RES
  | 0, _, _, _, _, _, _, _ => none
  | n + 1, v1, v2, v3, v4, v5, I, L => (if 99 < v5 then some (some (.int (-1 : Int32)), I, L) else bJ (f_X12_share N v1 v2 v3 v5 1 I L) (fun x7 I8 L9 => (if 0 < (lg_cmp x7 (Int32.toInt64 v4)) then (F_X12_factor_33 N n) v1 v2 v3 v4 (v5 + 1) I8 L9 else some (some (.int v5), I8, L9))))
set_option maxRecDepth 100000 in
theorem E_X12_factor_33 (N d : Nat) : ∀ (n : Nat) (v1 : Int32) (v2 : Int32) (v3 : Int32) (v4 : Int32) (v5 : Int32) (I : PI) (L : PL), EvW M_X12_factor (d + 3) 33 [(0, .ref 12), (1, .int v1), (2, .int v2), (3, .int v3), (4, .int v4), (5, .int v5)] [] I L (F_X12_factor_33 N n v1 v2 v3 v4 v5 I L) := by
  intro n
  induction n with
  | zero =>
    intro v1 v2 v3 v4 v5 I L
    exact EvW.none
  | succ n hr_33 =>
    intro v1 v2 v3 v4 v5 I L
    rw [F_X12_factor_33]
    refine ev_iload (pc := 33) 5 dX12_factor_33 rfl ?_
    refine ev_bipush (pc := 35) 99 k_bipush_99 dX12_factor_35 ?_
    refine ev_icmp_gt (pc := 37) 66 (by decide) dX12_factor_37 ?_ ?_
    · refine ev_iconst (pc := 66) (-1 : Int32) k_iconst_m1 dX12_factor_66 ?_
      exact ev_iret (pc := 67) rfl dX12_factor_67
    · refine ev_aload_n (pc := 40) 0 dX12_factor_40 rfl ?_
      refine ev_iload_n (pc := 41) 1 dX12_factor_41 rfl ?_
      refine ev_iload_n (pc := 42) 2 dX12_factor_42 rfl ?_
      refine ev_iload_n (pc := 43) 3 dX12_factor_43 rfl ?_
      refine ev_iload (pc := 44) 5 dX12_factor_44 rfl ?_
      refine ev_iconst (pc := 46) 1 k_iconst_1 dX12_factor_46 ?_
      refine ev_callVJ (pc := 47) (d := d + 2) (As := [.int v1, .int v2, .int v3, .int v5, .int 1]) (st := []) cv_X12_share rfl w_976 rfl (Nat.le_of_ble_eq_true rfl) (ok_X12_share N (d) v1 v2 v3 v5 1 I L) dX12_factor_47 (fun x7 I8 L9 => ?_)
      refine ev_iload (pc := 50) 4 dX12_factor_50 rfl ?_
      refine ev_i2l (pc := 52) dX12_factor_52 ?_
      refine ev_lcmp (pc := 53) dX12_factor_53 ?_
      refine ev_if_gt (pc := 54) 60 (by decide) dX12_factor_54 ?_ ?_
      · refine ev_iinc (pc := 60) (lv' := [(5, .int (v5 + 1)), (0, .ref 12), (1, .int v1), (2, .int v2), (3, .int v3), (4, .int v4)]) dX12_factor_60 5 rfl rfl 1 k_iconst_1 rfl ?_
        refine ev_goto (pc := 63) 33 (by decide) dX12_factor_63 ?_
        refine EvW.sub [1, 2, 3, 4, 5, 0] rfl ?_
        exact hr_33 v1 v2 v3 v4 (v5 + 1) I8 L9
      · refine ev_iload (pc := 57) 5 dX12_factor_57 rfl ?_
        exact ev_iret (pc := 59) rfl dX12_factor_59
def f_X12_factor (N : Nat) (a1 : Int32) (a2 : Int32) (a3 : Int32) (a4 : Int32) (I : PI) (L : PL) : RES := bJ (f_X12_share N a1 a2 a3 0 1 I L) (fun x1 I2 L3 => (if (lg_cmp x1 (-1 : Int64)) = 0 then some (some (.int (-1 : Int32)), I2, L3) else bI (f_X12_in N a4 0 1000000 I2 L3) (fun x4 I5 L6 => (if x4 = 0 then some (some (.int (-1 : Int32)), I5, L6) else F_X12_factor_33 N N a1 a2 a3 a4 0 I5 L6))))
set_option maxRecDepth 100000 in
theorem ok_X12_factor (N d : Nat) (a1 : Int32) (a2 : Int32) (a3 : Int32) (a4 : Int32) (I : PI) (L : PL) : MOk M_X12_factor (d + 3) [.ref 12, .int a1, .int a2, .int a3, .int a4] I L (f_X12_factor N a1 a2 a3 a4 I L) := by
  refine MOk.of (by decide +kernel) (Nat.le_of_ble_eq_true rfl) ?_
  show EvW _ _ 0 [(0, .ref 12), (1, .int a1), (2, .int a2), (3, .int a3), (4, .int a4)] [] I L _
  rw [f_X12_factor]
  refine ev_aload_n (pc := 0) 0 dX12_factor_0 rfl ?_
  refine ev_iload_n (pc := 1) 1 dX12_factor_1 rfl ?_
  refine ev_iload_n (pc := 2) 2 dX12_factor_2 rfl ?_
  refine ev_iload_n (pc := 3) 3 dX12_factor_3 rfl ?_
  refine ev_iconst (pc := 4) 0 k_iconst_0 dX12_factor_4 ?_
  refine ev_iconst (pc := 5) 1 k_iconst_1 dX12_factor_5 ?_
  refine ev_callVJ (pc := 6) (d := d + 2) (As := [.int a1, .int a2, .int a3, .int 0, .int 1]) (st := []) cv_X12_share rfl w_976 rfl (Nat.le_of_ble_eq_true rfl) (ok_X12_share N (d) a1 a2 a3 0 1 I L) dX12_factor_6 (fun x1 I2 L3 => ?_)
  refine ev_ldc2 (pc := 9) w_939 dX12_factor_9 ?_
  refine ev_lcmp (pc := 12) dX12_factor_12 ?_
  refine ev_if_eq (pc := 13) 28 (by decide) dX12_factor_13 ?_ ?_
  · refine ev_iconst (pc := 28) (-1 : Int32) k_iconst_m1 dX12_factor_28 ?_
    exact ev_iret (pc := 29) rfl dX12_factor_29
  · refine ev_iload (pc := 16) 4 dX12_factor_16 rfl ?_
    refine ev_iconst (pc := 18) 0 k_iconst_0 dX12_factor_18 ?_
    refine ev_ldcw (pc := 19) w_977 dX12_factor_19 ?_
    refine ev_callSI (pc := 22) (d := d + 2) (As := [.int a4, .int 0, .int 1000000]) (st := []) cv_X12_in rfl w_790 rfl (Nat.le_of_ble_eq_true rfl) (ok_X12_in N (d + 2) a4 0 1000000 I2 L3) dX12_factor_22 (fun x4 I5 L6 => ?_)
    refine ev_if_ne (pc := 25) 30 (by decide) dX12_factor_25 ?_ ?_
    · refine ev_iconst (pc := 30) 0 k_iconst_0 dX12_factor_30 ?_
      refine ev_istore (pc := 31) (lv' := [(5, .int 0), (0, .ref 12), (1, .int a1), (2, .int a2), (3, .int a3), (4, .int a4)]) dX12_factor_31 rfl rfl ?_
      refine EvW.sub [1, 2, 3, 4, 5, 0] rfl ?_
      exact E_X12_factor_33 N d N a1 a2 a3 a4 0 I5 L6
    · refine ev_iconst (pc := 28) (-1 : Int32) k_iconst_m1 dX12_factor_28 ?_
      exact ev_iret (pc := 29) rfl dX12_factor_29
def F_X12_heaps_69 (N : Nat) (r_26 : Int32 → Int32 → Int32 → Int32 → Int32 → Int32 → PI → PL → RES) (v1 : Int32) (v3 : Int32) (v4 : Int32) (v5 : Int32) (v6 : Int32) (s0 : Int32) (s1 : Int32) (I : PI) (L : PL) : RES := nmI (s1 + s0) (fun x7 => (if v5 ≤ v3 then r_26 v1 x7 v3 v4 v5 (v6 + 1) I L else nmI ((v6 - v5) + 1) (fun x8 => r_26 v1 x7 v5 x8 v5 (v6 + 1) I L)))
set_option maxRecDepth 100000 in
theorem E_X12_heaps_69 (N d : Nat) (r_26 : Int32 → Int32 → Int32 → Int32 → Int32 → Int32 → PI → PL → RES) (hr_26 : ∀ (v1 : Int32) (v2 : Int32) (v3 : Int32) (v4 : Int32) (v5 : Int32) (v6 : Int32) (I : PI) (L : PL), EvW M_X12_heaps (d + 3) 26 [(0, .ref 12), (1, .int v1), (2, .int v2), (3, .int v3), (4, .int v4), (5, .int v5), (6, .int v6)] [] I L (r_26 v1 v2 v3 v4 v5 v6 I L)) (v1 : Int32) (v3 : Int32) (v4 : Int32) (v5 : Int32) (v6 : Int32) (s0 : Int32) (s1 : Int32) (I : PI) (L : PL) : EvW M_X12_heaps (d + 3) 69 [(0, .ref 12), (1, .int v1), (3, .int v3), (4, .int v4), (5, .int v5), (6, .int v6)] [.int s0, .int s1] I L (F_X12_heaps_69 N r_26 v1 v3 v4 v5 v6 s0 s1 I L) := by
  rw [F_X12_heaps_69]
  refine ev_iadd (pc := 69) dX12_heaps_69 ?_
  refine ev_nmI (fun x7 => ?_)
  refine ev_istore_n (pc := 70) (lv' := [(2, .int x7), (0, .ref 12), (1, .int v1), (3, .int v3), (4, .int v4), (5, .int v5), (6, .int v6)]) dX12_heaps_70 rfl rfl rfl ?_
  refine ev_iload (pc := 71) 5 dX12_heaps_71 rfl ?_
  refine ev_iload_n (pc := 73) 3 dX12_heaps_73 rfl ?_
  refine ev_icmp_le (pc := 74) 89 (by decide) dX12_heaps_74 ?_ ?_
  · refine ev_iinc (pc := 89) (lv' := [(6, .int (v6 + 1)), (2, .int x7), (0, .ref 12), (1, .int v1), (3, .int v3), (4, .int v4), (5, .int v5)]) dX12_heaps_89 6 rfl rfl 1 k_iconst_1 rfl ?_
    refine ev_goto (pc := 92) 26 (by decide) dX12_heaps_92 ?_
    refine EvW.sub [2, 3, 1, 4, 5, 6, 0] rfl ?_
    exact hr_26 v1 x7 v3 v4 v5 (v6 + 1) I L
  · refine ev_iload (pc := 77) 5 dX12_heaps_77 rfl ?_
    refine ev_istore_n (pc := 79) (lv' := [(3, .int v5), (2, .int x7), (0, .ref 12), (1, .int v1), (4, .int v4), (5, .int v5), (6, .int v6)]) dX12_heaps_79 rfl rfl rfl ?_
    refine ev_iload (pc := 80) 6 dX12_heaps_80 rfl ?_
    refine ev_iload (pc := 82) 5 dX12_heaps_82 rfl ?_
    refine ev_isub (pc := 84) dX12_heaps_84 ?_
    refine ev_iconst (pc := 85) 1 k_iconst_1 dX12_heaps_85 ?_
    refine ev_iadd (pc := 86) dX12_heaps_86 ?_
    refine ev_nmI (fun x8 => ?_)
    refine ev_istore (pc := 87) (lv' := [(4, .int x8), (3, .int v5), (2, .int x7), (0, .ref 12), (1, .int v1), (5, .int v5), (6, .int v6)]) dX12_heaps_87 rfl rfl ?_
    refine ev_iinc (pc := 89) (lv' := [(6, .int (v6 + 1)), (4, .int x8), (3, .int v5), (2, .int x7), (0, .ref 12), (1, .int v1), (5, .int v5)]) dX12_heaps_89 6 rfl rfl 1 k_iconst_1 rfl ?_
    refine ev_goto (pc := 92) 26 (by decide) dX12_heaps_92 ?_
    refine EvW.sub [4, 5, 3, 2, 1, 6, 0] rfl ?_
    exact hr_26 v1 x7 v5 x8 v5 (v6 + 1) I L
def F_X12_heaps_55 (N : Nat) (r_26 : Int32 → Int32 → Int32 → Int32 → Int32 → Int32 → PI → PL → RES) (v1 : Int32) (v2 : Int32) (v3 : Int32) (v4 : Int32) (v6 : Int32) (s0 : Int32) (I : PI) (L : PL) : RES := (if s0 = 1 then F_X12_heaps_69 N r_26 v1 v3 v4 s0 v6 1 v2 I L else F_X12_heaps_69 N r_26 v1 v3 v4 s0 v6 0 v2 I L)
set_option maxRecDepth 100000 in
theorem E_X12_heaps_55 (N d : Nat) (r_26 : Int32 → Int32 → Int32 → Int32 → Int32 → Int32 → PI → PL → RES) (hr_26 : ∀ (v1 : Int32) (v2 : Int32) (v3 : Int32) (v4 : Int32) (v5 : Int32) (v6 : Int32) (I : PI) (L : PL), EvW M_X12_heaps (d + 3) 26 [(0, .ref 12), (1, .int v1), (2, .int v2), (3, .int v3), (4, .int v4), (5, .int v5), (6, .int v6)] [] I L (r_26 v1 v2 v3 v4 v5 v6 I L)) (v1 : Int32) (v2 : Int32) (v3 : Int32) (v4 : Int32) (v6 : Int32) (s0 : Int32) (I : PI) (L : PL) : EvW M_X12_heaps (d + 3) 55 [(0, .ref 12), (1, .int v1), (2, .int v2), (3, .int v3), (4, .int v4), (6, .int v6)] [.int s0] I L (F_X12_heaps_55 N r_26 v1 v2 v3 v4 v6 s0 I L) := by
  rw [F_X12_heaps_55]
  refine ev_istore (pc := 55) (lv' := [(5, .int s0), (0, .ref 12), (1, .int v1), (2, .int v2), (3, .int v3), (4, .int v4), (6, .int v6)]) dX12_heaps_55 rfl rfl ?_
  refine ev_iload_n (pc := 57) 3 dX12_heaps_57 rfl ?_
  refine ev_iload (pc := 58) 0 dX12_heaps_58 rfl ?_
  refine ev_iconst (pc := 60) 1 k_iconst_1 dX12_heaps_60 ?_
  refine ev_icmp_ne (pc := 61) 68 (by decide) dX12_heaps_61 ?_ ?_
  · refine ev_iconst (pc := 68) 0 k_iconst_0 dX12_heaps_68 ?_
    refine EvW.sub [1, 2, 4, 5, 0, 6] rfl ?_
    exact E_X12_heaps_69 N d r_26 hr_26 v1 v3 v4 s0 v6 0 v2 I L
  · refine ev_iconst (pc := 64) 1 k_iconst_1 dX12_heaps_64 ?_
    refine ev_goto (pc := 65) 69 (by decide) dX12_heaps_65 ?_
    refine EvW.sub [1, 2, 4, 5, 0, 6] rfl ?_
    exact E_X12_heaps_69 N d r_26 hr_26 v1 v3 v4 s0 v6 1 v2 I L
def F_X12_heaps_26 (N : Nat) : Nat → Int32 → Int32 → Int32 → Int32 → Int32 → Int32 → PI → PL → RES
  | 0, _, _, _, _, _, _, _, _ => none
  | n + 1, v1, v2, v3, v4, v5, v6, I, L => gd (inb 0 41) ((if (I 55 (Int32.toNatClampNeg 0)) ≤ v6 then (if v1 = 0 then some (some (.int v2), I, L) else (if v1 = 1 then some (some (.int v3), I, L) else some (some (.int v4), I, L))) else bI (f_X12_found N v6 I L) (fun x4 I5 L6 => (if x4 = 1 then F_X12_heaps_55 N (F_X12_heaps_26 N n) v1 v2 v3 v4 v6 (v5 + 1) I5 L6 else F_X12_heaps_55 N (F_X12_heaps_26 N n) v1 v2 v3 v4 v6 0 I5 L6))))
set_option maxRecDepth 100000 in
theorem E_X12_heaps_26 (N d : Nat) : ∀ (n : Nat) (v1 : Int32) (v2 : Int32) (v3 : Int32) (v4 : Int32) (v5 : Int32) (v6 : Int32) (I : PI) (L : PL), EvW M_X12_heaps (d + 3) 26 [(0, .ref 12), (1, .int v1), (2, .int v2), (3, .int v3), (4, .int v4), (5, .int v5), (6, .int v6)] [] I L (F_X12_heaps_26 N n v1 v2 v3 v4 v5 v6 I L) := by
  intro n
  induction n with
  | zero =>
    intro v1 v2 v3 v4 v5 v6 I L
    exact EvW.none
  | succ n hr_26 =>
    intro v1 v2 v3 v4 v5 v6 I L
    rw [F_X12_heaps_26]
    refine ev_iload (pc := 26) 6 dX12_heaps_26 rfl ?_
    refine ev_aload_n (pc := 28) 0 dX12_heaps_28 rfl ?_
    refine gf_X12_77 (pc := 29) rfl dX12_heaps_29 ?_
    refine ev_iconst (pc := 32) 0 k_iconst_0 dX12_heaps_32 ?_
    refine ev_iald (pc := 33) kK_55 dX12_heaps_33 ?_
    refine ev_icmp_ge (pc := 34) 95 (by decide) dX12_heaps_34 ?_ ?_
    · refine ev_iload_n (pc := 95) 1 dX12_heaps_95 rfl ?_
      refine ev_if_ne (pc := 96) 103 (by decide) dX12_heaps_96 ?_ ?_
      · refine ev_iload_n (pc := 103) 1 dX12_heaps_103 rfl ?_
        refine ev_iconst (pc := 104) 1 k_iconst_1 dX12_heaps_104 ?_
        refine ev_icmp_ne (pc := 105) 112 (by decide) dX12_heaps_105 ?_ ?_
        · refine ev_iload (pc := 112) 4 dX12_heaps_112 rfl ?_
          exact ev_iret (pc := 114) rfl dX12_heaps_114
        · refine ev_iload_n (pc := 108) 3 dX12_heaps_108 rfl ?_
          refine ev_goto (pc := 109) 114 (by decide) dX12_heaps_109 ?_
          exact ev_iret (pc := 114) rfl dX12_heaps_114
      · refine ev_iload_n (pc := 99) 2 dX12_heaps_99 rfl ?_
        refine ev_goto (pc := 100) 114 (by decide) dX12_heaps_100 ?_
        exact ev_iret (pc := 114) rfl dX12_heaps_114
    · refine ev_aload_n (pc := 37) 0 dX12_heaps_37 rfl ?_
      refine ev_iload (pc := 38) 6 dX12_heaps_38 rfl ?_
      refine ev_callVI (pc := 40) (d := d + 2) (As := [.int v6]) (st := []) cv_X12_found rfl w_938 rfl (Nat.le_of_ble_eq_true rfl) (ok_X12_found N (d) v6 I L) dX12_heaps_40 (fun x4 I5 L6 => ?_)
      refine ev_iconst (pc := 43) 1 k_iconst_1 dX12_heaps_43 ?_
      refine ev_icmp_ne (pc := 44) 54 (by decide) dX12_heaps_44 ?_ ?_
      · refine ev_iconst (pc := 54) 0 k_iconst_0 dX12_heaps_54 ?_
        refine EvW.sub [0, 1, 2, 3, 4, 6] rfl ?_
        exact E_X12_heaps_55 N d (F_X12_heaps_26 N n) hr_26 v1 v2 v3 v4 v6 0 I5 L6
      · refine ev_iload (pc := 47) 5 dX12_heaps_47 rfl ?_
        refine ev_iconst (pc := 49) 1 k_iconst_1 dX12_heaps_49 ?_
        refine ev_iadd (pc := 50) dX12_heaps_50 ?_
        refine ev_goto (pc := 51) 55 (by decide) dX12_heaps_51 ?_
        refine EvW.sub [0, 1, 2, 3, 4, 6] rfl ?_
        exact E_X12_heaps_55 N d (F_X12_heaps_26 N n) hr_26 v1 v2 v3 v4 v6 (v5 + 1) I5 L6
def f_X12_heaps (N : Nat) (a1 : Int32) (I : PI) (L : PL) : RES := bI (f_X12_in N a1 0 2 I L) (fun x1 I2 L3 => (if x1 = 0 then some (some (.int (-1000000 : Int32)), I2, L3) else F_X12_heaps_26 N N a1 0 0 (-1 : Int32) 0 0 I2 L3))
set_option maxRecDepth 100000 in
theorem ok_X12_heaps (N d : Nat) (a1 : Int32) (I : PI) (L : PL) : MOk M_X12_heaps (d + 3) [.ref 12, .int a1] I L (f_X12_heaps N a1 I L) := by
  refine MOk.of (by decide +kernel) (Nat.le_of_ble_eq_true rfl) ?_
  show EvW _ _ 0 [(0, .ref 12), (1, .int a1)] [] I L _
  rw [f_X12_heaps]
  refine ev_iload_n (pc := 0) 1 dX12_heaps_0 rfl ?_
  refine ev_iconst (pc := 1) 0 k_iconst_0 dX12_heaps_1 ?_
  refine ev_iconst (pc := 2) 2 k_iconst_2 dX12_heaps_2 ?_
  refine ev_callSI (pc := 3) (d := d + 2) (As := [.int a1, .int 0, .int 2]) (st := []) cv_X12_in rfl w_790 rfl (Nat.le_of_ble_eq_true rfl) (ok_X12_in N (d + 2) a1 0 2 I L) dX12_heaps_3 (fun x1 I2 L3 => ?_)
  refine ev_if_ne (pc := 6) 13 (by decide) dX12_heaps_6 ?_ ?_
  · refine ev_iconst (pc := 13) 0 k_iconst_0 dX12_heaps_13 ?_
    refine ev_istore_n (pc := 14) (lv' := [(2, .int 0), (0, .ref 12), (1, .int a1)]) dX12_heaps_14 rfl rfl rfl ?_
    refine ev_iconst (pc := 15) 0 k_iconst_0 dX12_heaps_15 ?_
    refine ev_istore_n (pc := 16) (lv' := [(3, .int 0), (2, .int 0), (0, .ref 12), (1, .int a1)]) dX12_heaps_16 rfl rfl rfl ?_
    refine ev_iconst (pc := 17) (-1 : Int32) k_iconst_m1 dX12_heaps_17 ?_
    refine ev_istore (pc := 18) (lv' := [(4, .int (-1 : Int32)), (3, .int 0), (2, .int 0), (0, .ref 12), (1, .int a1)]) dX12_heaps_18 rfl rfl ?_
    refine ev_iconst (pc := 20) 0 k_iconst_0 dX12_heaps_20 ?_
    refine ev_istore (pc := 21) (lv' := [(5, .int 0), (4, .int (-1 : Int32)), (3, .int 0), (2, .int 0), (0, .ref 12), (1, .int a1)]) dX12_heaps_21 rfl rfl ?_
    refine ev_iconst (pc := 23) 0 k_iconst_0 dX12_heaps_23 ?_
    refine ev_istore (pc := 24) (lv' := [(6, .int 0), (5, .int 0), (4, .int (-1 : Int32)), (3, .int 0), (2, .int 0), (0, .ref 12), (1, .int a1)]) dX12_heaps_24 rfl rfl ?_
    refine EvW.sub [5, 6, 4, 3, 2, 1, 0] rfl ?_
    exact E_X12_heaps_26 N d N a1 0 0 (-1 : Int32) 0 0 I2 L3
  · refine ev_ldcw (pc := 9) w_807 dX12_heaps_9 ?_
    exact ev_iret (pc := 12) rfl dX12_heaps_12
