def F_X12_copy_r55_r58_3 (N : Nat) : Nat → Int32 → Int32 → Int32 → PI → PL → RES
  | 0, _, _, _, _, _ => none
  | n + 1, v1, v3, v4, I, L => (if 41 ≤ v4 then some (none, I, L) else gd (inb (v1 + v4) 41) (gd (inb (v3 + v4) 41) (nmW (uI I 58 (Int32.toNatClampNeg (v3 + v4)) (I 55 (Int32.toNatClampNeg (v1 + v4)))) (fun I1 => (F_X12_copy_r55_r58_3 N n) v1 v3 (v4 + 1) I1 L))))
set_option maxRecDepth 100000 in
theorem E_X12_copy_r55_r58_3 (N d : Nat) : ∀ (n : Nat) (v1 : Int32) (v3 : Int32) (v4 : Int32) (I : PI) (L : PL), EvW M_X12_copy (d) 3 [(0, .ref 55), (1, .int v1), (2, .ref 58), (3, .int v3), (4, .int v4)] [] I L (F_X12_copy_r55_r58_3 N n v1 v3 v4 I L) := by
  intro n
  induction n with
  | zero =>
    intro v1 v3 v4 I L
    exact EvW.none
  | succ n hr_3 =>
    intro v1 v3 v4 I L
    rw [F_X12_copy_r55_r58_3]
    refine ev_iload (pc := 3) 4 dX12_copy_3 rfl ?_
    refine ev_bipush (pc := 5) 41 k_bipush_41 dX12_copy_5 ?_
    refine ev_icmp_ge (pc := 7) 28 (by decide) dX12_copy_7 ?_ ?_
    · exact ev_vret (pc := 28) rfl dX12_copy_28
    · refine ev_aload_n (pc := 10) 2 dX12_copy_10 rfl ?_
      refine ev_iload_n (pc := 11) 3 dX12_copy_11 rfl ?_
      refine ev_iload (pc := 12) 4 dX12_copy_12 rfl ?_
      refine ev_iadd (pc := 14) dX12_copy_14 ?_
      refine ev_aload_n (pc := 15) 0 dX12_copy_15 rfl ?_
      refine ev_iload_n (pc := 16) 1 dX12_copy_16 rfl ?_
      refine ev_iload (pc := 17) 4 dX12_copy_17 rfl ?_
      refine ev_iadd (pc := 19) dX12_copy_19 ?_
      refine ev_iald (pc := 20) kK_55 dX12_copy_20 ?_
      refine ev_iast (pc := 21) kK_58 dX12_copy_21 ?_
      refine ev_nmW (fun I1 => ?_)
      refine ev_iinc (pc := 22) (lv' := [(4, .int (v4 + 1)), (0, .ref 55), (1, .int v1), (2, .ref 58), (3, .int v3)]) dX12_copy_22 4 rfl rfl 1 k_iconst_1 rfl ?_
      refine ev_goto (pc := 25) 3 (by decide) dX12_copy_25 ?_
      refine EvW.sub [1, 2, 3, 4, 0] rfl ?_
      exact hr_3 v1 v3 (v4 + 1) I1 L
def f_X12_copy_r55_r58 (N : Nat) (a1 : Int32) (a2 : Int32) (I : PI) (L : PL) : RES := F_X12_copy_r55_r58_3 N N a1 a2 0 I L
set_option maxRecDepth 100000 in
theorem ok_X12_copy_r55_r58 (N d : Nat) (a1 : Int32) (a2 : Int32) (I : PI) (L : PL) : MOk M_X12_copy (d) [.ref 55, .int a1, .ref 58, .int a2] I L (f_X12_copy_r55_r58 N a1 a2 I L) := by
  refine MOk.of (by decide +kernel) (Nat.le_of_ble_eq_true rfl) ?_
  show EvW _ _ 0 [(0, .ref 55), (1, .int a1), (2, .ref 58), (3, .int a2)] [] I L _
  rw [f_X12_copy_r55_r58]
  refine ev_iconst (pc := 0) 0 k_iconst_0 dX12_copy_0 ?_
  refine ev_istore (pc := 1) (lv' := [(4, .int 0), (0, .ref 55), (1, .int a1), (2, .ref 58), (3, .int a2)]) dX12_copy_1 rfl rfl ?_
  refine EvW.sub [1, 2, 3, 4, 0] rfl ?_
  exact E_X12_copy_r55_r58_3 N d N a1 a2 0 I L
def f_X12_image (N : Nat) (I : PI) (L : PL) : RES := bV (f_X12_copy_r55_r58 N 0 0 I L) (fun I2 L3 => nmW (uI I2 12 45 1) (fun I4 => gd (inb 0 41) (some (some (.int (I4 55 (Int32.toNatClampNeg 0))), I4, L3))))
set_option maxRecDepth 100000 in
theorem ok_X12_image (N d : Nat) (I : PI) (L : PL) : MOk M_X12_image (d + 1) [.ref 12] I L (f_X12_image N I L) := by
  refine MOk.of (by decide +kernel) (Nat.le_of_ble_eq_true rfl) ?_
  show EvW _ _ 0 [(0, .ref 12)] [] I L _
  rw [f_X12_image]
  refine ev_aload_n (pc := 0) 0 dX12_image_0 rfl ?_
  refine gf_X12_77 (pc := 1) rfl dX12_image_1 ?_
  refine ev_iconst (pc := 4) 0 k_iconst_0 dX12_image_4 ?_
  refine ev_aload_n (pc := 5) 0 dX12_image_5 rfl ?_
  refine gf_X12_86 (pc := 6) rfl dX12_image_6 ?_
  refine ev_iconst (pc := 9) 0 k_iconst_0 dX12_image_9 ?_
  refine ev_callSV (pc := 10) (d := d) (As := [.ref 55, .int 0, .ref 58, .int 0]) (st := []) cv_X12_copy rfl w_913 rfl (Nat.le_of_ble_eq_true rfl) (ok_X12_copy_r55_r58 N (d) 0 0 I L) dX12_image_10 (fun I2 L3 => ?_)
  refine ev_aload_n (pc := 13) 0 dX12_image_13 rfl ?_
  refine ev_iconst (pc := 14) 1 k_iconst_1 dX12_image_14 ?_
  refine pf_X12_410 (pc := 15) rfl (by decide) (by decide) dX12_image_15 ?_
  refine ev_nmW (fun I4 => ?_)
  refine ev_aload_n (pc := 18) 0 dX12_image_18 rfl ?_
  refine gf_X12_77 (pc := 19) rfl dX12_image_19 ?_
  refine ev_iconst (pc := 22) 0 k_iconst_0 dX12_image_22 ?_
  refine ev_iald (pc := 23) kK_55 dX12_image_23 ?_
  exact ev_iret (pc := 24) rfl dX12_image_24
def F_X12_copy_r58_r55_3 (N : Nat) : Nat → Int32 → Int32 → Int32 → PI → PL → RES
  | 0, _, _, _, _, _ => none
  | n + 1, v1, v3, v4, I, L => (if 41 ≤ v4 then some (none, I, L) else gd (inb (v1 + v4) 41) (gd (inb (v3 + v4) 41) (nmW (uI I 55 (Int32.toNatClampNeg (v3 + v4)) (I 58 (Int32.toNatClampNeg (v1 + v4)))) (fun I1 => (F_X12_copy_r58_r55_3 N n) v1 v3 (v4 + 1) I1 L))))
set_option maxRecDepth 100000 in
theorem E_X12_copy_r58_r55_3 (N d : Nat) : ∀ (n : Nat) (v1 : Int32) (v3 : Int32) (v4 : Int32) (I : PI) (L : PL), EvW M_X12_copy (d) 3 [(0, .ref 58), (1, .int v1), (2, .ref 55), (3, .int v3), (4, .int v4)] [] I L (F_X12_copy_r58_r55_3 N n v1 v3 v4 I L) := by
  intro n
  induction n with
  | zero =>
    intro v1 v3 v4 I L
    exact EvW.none
  | succ n hr_3 =>
    intro v1 v3 v4 I L
    rw [F_X12_copy_r58_r55_3]
    refine ev_iload (pc := 3) 4 dX12_copy_3 rfl ?_
    refine ev_bipush (pc := 5) 41 k_bipush_41 dX12_copy_5 ?_
    refine ev_icmp_ge (pc := 7) 28 (by decide) dX12_copy_7 ?_ ?_
    · exact ev_vret (pc := 28) rfl dX12_copy_28
    · refine ev_aload_n (pc := 10) 2 dX12_copy_10 rfl ?_
      refine ev_iload_n (pc := 11) 3 dX12_copy_11 rfl ?_
      refine ev_iload (pc := 12) 4 dX12_copy_12 rfl ?_
      refine ev_iadd (pc := 14) dX12_copy_14 ?_
      refine ev_aload_n (pc := 15) 0 dX12_copy_15 rfl ?_
      refine ev_iload_n (pc := 16) 1 dX12_copy_16 rfl ?_
      refine ev_iload (pc := 17) 4 dX12_copy_17 rfl ?_
      refine ev_iadd (pc := 19) dX12_copy_19 ?_
      refine ev_iald (pc := 20) kK_58 dX12_copy_20 ?_
      refine ev_iast (pc := 21) kK_55 dX12_copy_21 ?_
      refine ev_nmW (fun I1 => ?_)
      refine ev_iinc (pc := 22) (lv' := [(4, .int (v4 + 1)), (0, .ref 58), (1, .int v1), (2, .ref 55), (3, .int v3)]) dX12_copy_22 4 rfl rfl 1 k_iconst_1 rfl ?_
      refine ev_goto (pc := 25) 3 (by decide) dX12_copy_25 ?_
      refine EvW.sub [1, 2, 3, 4, 0] rfl ?_
      exact hr_3 v1 v3 (v4 + 1) I1 L
def f_X12_copy_r58_r55 (N : Nat) (a1 : Int32) (a2 : Int32) (I : PI) (L : PL) : RES := F_X12_copy_r58_r55_3 N N a1 a2 0 I L
set_option maxRecDepth 100000 in
theorem ok_X12_copy_r58_r55 (N d : Nat) (a1 : Int32) (a2 : Int32) (I : PI) (L : PL) : MOk M_X12_copy (d) [.ref 58, .int a1, .ref 55, .int a2] I L (f_X12_copy_r58_r55 N a1 a2 I L) := by
  refine MOk.of (by decide +kernel) (Nat.le_of_ble_eq_true rfl) ?_
  show EvW _ _ 0 [(0, .ref 58), (1, .int a1), (2, .ref 55), (3, .int a2)] [] I L _
  rw [f_X12_copy_r58_r55]
  refine ev_iconst (pc := 0) 0 k_iconst_0 dX12_copy_0 ?_
  refine ev_istore (pc := 1) (lv' := [(4, .int 0), (0, .ref 58), (1, .int a1), (2, .ref 55), (3, .int a2)]) dX12_copy_1 rfl rfl ?_
  refine EvW.sub [1, 2, 3, 4, 0] rfl ?_
  exact E_X12_copy_r58_r55_3 N d N a1 a2 0 I L
def f_X12_back (N : Nat) (I : PI) (L : PL) : RES := (if (I 12 45) = 0 then some (some (.int (-1 : Int32)), I, L) else bV (f_X12_act N I L) (fun I2 L3 => bV (f_X12_copy_r58_r55 N 0 0 I2 L3) (fun I5 L6 => gd (inb 0 41) (some (some (.int (I5 55 (Int32.toNatClampNeg 0))), I5, L6)))))
set_option maxRecDepth 100000 in
theorem ok_X12_back (N d : Nat) (I : PI) (L : PL) : MOk M_X12_back (d + 3) [.ref 12] I L (f_X12_back N I L) := by
  refine MOk.of (by decide +kernel) (Nat.le_of_ble_eq_true rfl) ?_
  show EvW _ _ 0 [(0, .ref 12)] [] I L _
  rw [f_X12_back]
  refine ev_aload_n (pc := 0) 0 dX12_back_0 rfl ?_
  refine gf_X12_410 (pc := 1) rfl dX12_back_1 ?_
  refine ev_if_ne (pc := 4) 9 (by decide) dX12_back_4 ?_ ?_
  · refine ev_aload_n (pc := 9) 0 dX12_back_9 rfl ?_
    refine ev_callVV (pc := 10) (d := d + 2) (As := []) (st := []) cv_X12_act rfl w_922 rfl (Nat.le_of_ble_eq_true rfl) (ok_X12_act N (d) I L) dX12_back_10 (fun I2 L3 => ?_)
    refine ev_aload_n (pc := 13) 0 dX12_back_13 rfl ?_
    refine gf_X12_86 (pc := 14) rfl dX12_back_14 ?_
    refine ev_iconst (pc := 17) 0 k_iconst_0 dX12_back_17 ?_
    refine ev_aload_n (pc := 18) 0 dX12_back_18 rfl ?_
    refine gf_X12_77 (pc := 19) rfl dX12_back_19 ?_
    refine ev_iconst (pc := 22) 0 k_iconst_0 dX12_back_22 ?_
    refine ev_callSV (pc := 23) (d := d + 2) (As := [.ref 58, .int 0, .ref 55, .int 0]) (st := []) cv_X12_copy rfl w_913 rfl (Nat.le_of_ble_eq_true rfl) (ok_X12_copy_r58_r55 N (d + 2) 0 0 I2 L3) dX12_back_23 (fun I5 L6 => ?_)
    refine ev_aload_n (pc := 26) 0 dX12_back_26 rfl ?_
    refine gf_X12_77 (pc := 27) rfl dX12_back_27 ?_
    refine ev_iconst (pc := 30) 0 k_iconst_0 dX12_back_30 ?_
    refine ev_iald (pc := 31) kK_55 dX12_back_31 ?_
    exact ev_iret (pc := 32) rfl dX12_back_32
  · refine ev_iconst (pc := 7) (-1 : Int32) k_iconst_m1 dX12_back_7 ?_
    exact ev_iret (pc := 8) rfl dX12_back_8
def f_X12_count (N : Nat) (a1 : Int32) (I : PI) (L : PL) : RES := swT 0 [some (some (.int (I 12 21)), I, L), some (some (.int (I 12 13)), I, L), some (some (.int (I 12 22)), I, L), some (some (.int (I 12 2)), I, L), gd (inb 0 41) (some (some (.int (I 55 (Int32.toNatClampNeg 0))), I, L)), some (some (.int (I 12 50)), I, L), some (some (.int (I 12 43)), I, L), some (some (.int (I 12 44)), I, L)] (some (some (.int (-1000000 : Int32)), I, L)) a1
set_option maxRecDepth 100000 in
theorem ok_X12_count (N d : Nat) (a1 : Int32) (I : PI) (L : PL) : MOk M_X12_count (d) [.ref 12, .int a1] I L (f_X12_count N a1 I L) := by
  refine MOk.of (by decide +kernel) (Nat.le_of_ble_eq_true rfl) ?_
  show EvW _ _ 0 [(0, .ref 12), (1, .int a1)] [] I L _
  rw [f_X12_count]
  refine ev_iload_n (pc := 0) 1 dX12_count_0 rfl ?_
  refine ev_table (pc := 1) 90 (by decide) rfl dX12_count_1 ⟨⟨48, by decide, ?_⟩, ⟨53, by decide, ?_⟩, ⟨58, by decide, ?_⟩, ⟨63, by decide, ?_⟩, ⟨68, by decide, ?_⟩, ⟨75, by decide, ?_⟩, ⟨80, by decide, ?_⟩, ⟨85, by decide, ?_⟩, trivial⟩ ?_
  · refine ev_aload_n (pc := 48) 0 dX12_count_48 rfl ?_
    refine gf_X12_235 (pc := 49) rfl dX12_count_49 ?_
    exact ev_iret (pc := 52) rfl dX12_count_52
  · refine ev_aload_n (pc := 53) 0 dX12_count_53 rfl ?_
    refine gf_X12_238 (pc := 54) rfl dX12_count_54 ?_
    exact ev_iret (pc := 57) rfl dX12_count_57
  · refine ev_aload_n (pc := 58) 0 dX12_count_58 rfl ?_
    refine gf_X12_241 (pc := 59) rfl dX12_count_59 ?_
    exact ev_iret (pc := 62) rfl dX12_count_62
  · refine ev_aload_n (pc := 63) 0 dX12_count_63 rfl ?_
    refine gf_X12_108 (pc := 64) rfl dX12_count_64 ?_
    exact ev_iret (pc := 67) rfl dX12_count_67
  · refine ev_aload_n (pc := 68) 0 dX12_count_68 rfl ?_
    refine gf_X12_77 (pc := 69) rfl dX12_count_69 ?_
    refine ev_iconst (pc := 72) 0 k_iconst_0 dX12_count_72 ?_
    refine ev_iald (pc := 73) kK_55 dX12_count_73 ?_
    exact ev_iret (pc := 74) rfl dX12_count_74
  · refine ev_aload_n (pc := 75) 0 dX12_count_75 rfl ?_
    refine gf_X12_384 (pc := 76) rfl dX12_count_76 ?_
    exact ev_iret (pc := 79) rfl dX12_count_79
  · refine ev_aload_n (pc := 80) 0 dX12_count_80 rfl ?_
    refine gf_X12_339 (pc := 81) rfl dX12_count_81 ?_
    exact ev_iret (pc := 84) rfl dX12_count_84
  · refine ev_aload_n (pc := 85) 0 dX12_count_85 rfl ?_
    refine gf_X12_349 (pc := 86) rfl dX12_count_86 ?_
    exact ev_iret (pc := 89) rfl dX12_count_89
  · refine ev_ldcw (pc := 90) w_807 dX12_count_90 ?_
    exact ev_iret (pc := 93) rfl dX12_count_93
