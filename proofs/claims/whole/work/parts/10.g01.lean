def f_X3_has (N : Nat) (a1 : Int32) (I : PI) (L : PL) : RES := (if a1 < 0 then gd (decide (0 &&& 1 = 0)) (some (some (.int 0), I, L)) else (if (I 3 2) ≤ a1 then gd (decide (0 &&& 1 = 0)) (some (some (.int 0), I, L)) else gd (decide (1 &&& 1 = 1)) (some (some (.int 1), I, L))))
set_option maxRecDepth 100000 in
theorem ok_X3_has (N d : Nat) (a1 : Int32) (I : PI) (L : PL) : MOk M_X3_has (d) [.ref 3, .int a1] I L (f_X3_has N a1 I L) := by
  refine MOk.of (by decide +kernel) (Nat.le_of_ble_eq_true rfl) ?_
  show EvW _ _ 0 [(0, .ref 3), (1, .int a1)] [] I L _
  rw [f_X3_has]
  refine ev_iload_n (pc := 0) 1 dX3_has_0 rfl ?_
  refine ev_if_lt (pc := 1) 16 (by decide) dX3_has_1 ?_ ?_
  · refine ev_iconst (pc := 16) 0 k_iconst_0 dX3_has_16 ?_
    exact ev_zret (pc := 17) rfl dX3_has_17
  · refine ev_iload_n (pc := 4) 1 dX3_has_4 rfl ?_
    refine ev_aload_n (pc := 5) 0 dX3_has_5 rfl ?_
    refine gf_X3_18 (pc := 6) rfl dX3_has_6 ?_
    refine ev_icmp_ge (pc := 9) 16 (by decide) dX3_has_9 ?_ ?_
    · refine ev_iconst (pc := 16) 0 k_iconst_0 dX3_has_16 ?_
      exact ev_zret (pc := 17) rfl dX3_has_17
    · refine ev_iconst (pc := 12) 1 k_iconst_1 dX3_has_12 ?_
      refine ev_goto (pc := 13) 17 (by decide) dX3_has_13 ?_
      exact ev_zret (pc := 17) rfl dX3_has_17
def f_X3_lengthOf (N : Nat) (a1 : Int32) (I : PI) (L : PL) : RES := (if a1 < 0 then some (some (.int 0), I, L) else (if 9 ≤ a1 then some (some (.int 0), I, L) else gd (inb a1 9) (some (some (.int (I 16 (Int32.toNatClampNeg a1))), I, L))))
set_option maxRecDepth 100000 in
theorem ok_X3_lengthOf (N d : Nat) (a1 : Int32) (I : PI) (L : PL) : MOk M_X3_lengthOf (d) [.ref 3, .int a1] I L (f_X3_lengthOf N a1 I L) := by
  refine MOk.of (by decide +kernel) (Nat.le_of_ble_eq_true rfl) ?_
  show EvW _ _ 0 [(0, .ref 3), (1, .int a1)] [] I L _
  rw [f_X3_lengthOf]
  refine ev_iload_n (pc := 0) 1 dX3_lengthOf_0 rfl ?_
  refine ev_if_lt (pc := 1) 22 (by decide) dX3_lengthOf_1 ?_ ?_
  · refine ev_iconst (pc := 22) 0 k_iconst_0 dX3_lengthOf_22 ?_
    exact ev_iret (pc := 23) rfl dX3_lengthOf_23
  · refine ev_iload_n (pc := 4) 1 dX3_lengthOf_4 rfl ?_
    refine ev_aload_n (pc := 5) 0 dX3_lengthOf_5 rfl ?_
    refine gf_X3_15 (pc := 6) rfl dX3_lengthOf_6 ?_
    refine ev_alenI (pc := 9) 9 (by decide +kernel) kK_16 dX3_lengthOf_9 ?_
    refine ev_icmp_ge (pc := 10) 22 (by decide) dX3_lengthOf_10 ?_ ?_
    · refine ev_iconst (pc := 22) 0 k_iconst_0 dX3_lengthOf_22 ?_
      exact ev_iret (pc := 23) rfl dX3_lengthOf_23
    · refine ev_aload_n (pc := 13) 0 dX3_lengthOf_13 rfl ?_
      refine gf_X3_15 (pc := 14) rfl dX3_lengthOf_14 ?_
      refine ev_iload_n (pc := 17) 1 dX3_lengthOf_17 rfl ?_
      refine ev_iald (pc := 18) kK_16 dX3_lengthOf_18 ?_
      refine ev_goto (pc := 19) 23 (by decide) dX3_lengthOf_19 ?_
      exact ev_iret (pc := 23) rfl dX3_lengthOf_23
def f_X3_turn (N : Nat) (a1 : Int32) (a2 : Int32) (I : PI) (L : PL) : RES := bI (f_X3_has N a1 I L) (fun x1 I2 L3 => (if x1 = 0 then some (some (.int 0), I2, L3) else (if a2 < 0 then some (some (.int 0), I2, L3) else gd (inb a1 9) ((if (I2 16 (Int32.toNatClampNeg a1)) ≤ a2 then some (some (.int 0), I2, L3) else gd (inb ((a1 * 24) + a2) 216) (some (some (.int (I2 15 (Int32.toNatClampNeg ((a1 * 24) + a2)))), I2, L3)))))))
set_option maxRecDepth 100000 in
theorem ok_X3_turn (N d : Nat) (a1 : Int32) (a2 : Int32) (I : PI) (L : PL) : MOk M_X3_turn (d + 1) [.ref 3, .int a1, .int a2] I L (f_X3_turn N a1 a2 I L) := by
  refine MOk.of (by decide +kernel) (Nat.le_of_ble_eq_true rfl) ?_
  show EvW _ _ 0 [(0, .ref 3), (1, .int a1), (2, .int a2)] [] I L _
  rw [f_X3_turn]
  refine ev_aload_n (pc := 0) 0 dX3_turn_0 rfl ?_
  refine ev_iload_n (pc := 1) 1 dX3_turn_1 rfl ?_
  refine ev_callVI (pc := 2) (d := d) (As := [.int a1]) (st := []) cv_X3_has rfl w_165 rfl (Nat.le_of_ble_eq_true rfl) (ok_X3_has N (d) a1 I L) dX3_turn_2 (fun x1 I2 L3 => ?_)
  refine ev_if_eq (pc := 5) 36 (by decide) dX3_turn_5 ?_ ?_
  · refine ev_iconst (pc := 36) 0 k_iconst_0 dX3_turn_36 ?_
    exact ev_iret (pc := 37) rfl dX3_turn_37
  · refine ev_iload_n (pc := 8) 2 dX3_turn_8 rfl ?_
    refine ev_if_lt (pc := 9) 36 (by decide) dX3_turn_9 ?_ ?_
    · refine ev_iconst (pc := 36) 0 k_iconst_0 dX3_turn_36 ?_
      exact ev_iret (pc := 37) rfl dX3_turn_37
    · refine ev_iload_n (pc := 12) 2 dX3_turn_12 rfl ?_
      refine ev_aload_n (pc := 13) 0 dX3_turn_13 rfl ?_
      refine gf_X3_15 (pc := 14) rfl dX3_turn_14 ?_
      refine ev_iload_n (pc := 17) 1 dX3_turn_17 rfl ?_
      refine ev_iald (pc := 18) kK_16 dX3_turn_18 ?_
      refine ev_icmp_ge (pc := 19) 36 (by decide) dX3_turn_19 ?_ ?_
      · refine ev_iconst (pc := 36) 0 k_iconst_0 dX3_turn_36 ?_
        exact ev_iret (pc := 37) rfl dX3_turn_37
      · refine ev_aload_n (pc := 22) 0 dX3_turn_22 rfl ?_
        refine gf_X3_11 (pc := 23) rfl dX3_turn_23 ?_
        refine ev_iload_n (pc := 26) 1 dX3_turn_26 rfl ?_
        refine ev_bipush (pc := 27) 24 k_bipush_24 dX3_turn_27 ?_
        refine ev_imul (pc := 29) dX3_turn_29 ?_
        refine ev_iload_n (pc := 30) 2 dX3_turn_30 rfl ?_
        refine ev_iadd (pc := 31) dX3_turn_31 ?_
        refine ev_iald (pc := 32) kK_15 dX3_turn_32 ?_
        refine ev_goto (pc := 33) 37 (by decide) dX3_turn_33 ?_
        exact ev_iret (pc := 37) rfl dX3_turn_37
def f_X7_pop (N : Nat) (I : PI) (L : PL) : RES := (if 0 < (I 7 3) then nmW (uI I 7 3 ((I 7 3) - 1)) (fun I1 => gd (inb (I1 7 3) 120) (some (some (.int (I1 20 (Int32.toNatClampNeg (I1 7 3)))), I1, L))) else some (some (.int 0), I, L))
set_option maxRecDepth 100000 in
theorem ok_X7_pop (N d : Nat) (I : PI) (L : PL) : MOk M_X7_pop (d) [.ref 7] I L (f_X7_pop N I L) := by
  refine MOk.of (by decide +kernel) (Nat.le_of_ble_eq_true rfl) ?_
  show EvW _ _ 0 [(0, .ref 7)] [] I L _
  rw [f_X7_pop]
  refine ev_aload_n (pc := 0) 0 dX7_pop_0 rfl ?_
  refine gf_X7_47 (pc := 1) rfl dX7_pop_1 ?_
  refine ev_if_gt (pc := 4) 9 (by decide) dX7_pop_4 ?_ ?_
  · refine ev_aload_n (pc := 9) 0 dX7_pop_9 rfl ?_
    refine ev_dup (pc := 10) rfl dX7_pop_10 ?_
    refine gf_X7_47 (pc := 11) rfl dX7_pop_11 ?_
    refine ev_iconst (pc := 14) 1 k_iconst_1 dX7_pop_14 ?_
    refine ev_isub (pc := 15) dX7_pop_15 ?_
    refine pf_X7_47 (pc := 16) rfl dX7_pop_16 ?_
    refine ev_nmW (fun I1 => ?_)
    refine ev_aload_n (pc := 19) 0 dX7_pop_19 rfl ?_
    refine gf_X7_20 (pc := 20) rfl dX7_pop_20 ?_
    refine ev_aload_n (pc := 23) 0 dX7_pop_23 rfl ?_
    refine gf_X7_47 (pc := 24) rfl dX7_pop_24 ?_
    refine ev_iald (pc := 27) kK_20 dX7_pop_27 ?_
    exact ev_iret (pc := 28) rfl dX7_pop_28
  · refine ev_iconst (pc := 7) 0 k_iconst_0 dX7_pop_7 ?_
    exact ev_iret (pc := 8) rfl dX7_pop_8
def f_X7_held (N : Nat) (a1 : Int64) (a2 : Int32) (I : PI) (L : PL) : RES := some (some (.int (Int64.toInt32 (jmaxJ (Int32.toInt64 (-a2)) (jminJ (Int32.toInt64 a2) a1)))), I, L)
set_option maxRecDepth 100000 in
theorem ok_X7_held (N d : Nat) (a1 : Int64) (a2 : Int32) (I : PI) (L : PL) : MOk M_X7_held (d + 1) [.long a1, .int a2] I L (f_X7_held N a1 a2 I L) := by
  refine MOk.of (by decide +kernel) (Nat.le_of_ble_eq_true rfl) ?_
  show EvW _ _ 0 [(0, .long a1), (2, .int a2)] [] I L _
  rw [f_X7_held]
  refine ev_iload_n (pc := 0) 1 dX7_held_0 rfl ?_
  refine ev_ineg (pc := 1) dX7_held_1 ?_
  refine ev_i2l (pc := 2) dX7_held_2 ?_
  refine ev_iload_n (pc := 3) 1 dX7_held_3 rfl ?_
  refine ev_i2l (pc := 4) dX7_held_4 ?_
  refine ev_lload_n (pc := 5) 0 dX7_held_5 rfl ?_
  refine ev_mminJ (pc := 6) (d := d) w_180 w_181 w_131 w_182 (Nat.le_of_ble_eq_true rfl) dX7_held_6 ?_
  refine ev_mmaxJ (pc := 9) (d := d) w_183 w_184 w_131 w_185 (Nat.le_of_ble_eq_true rfl) dX7_held_9 ?_
  refine ev_l2i (pc := 12) dX7_held_12 ?_
  exact ev_iret (pc := 13) rfl dX7_held_13
def f_X7_joined (N : Nat) (a1 : Int32) (a2 : Int32) (a3 : Int32) (I : PI) (L : PL) : RES := swT 38 [some (some (.int (a2 &&& a3)), I, L), some (some (.int (a2 ||| a3)), I, L), some (some (.int (a2 ||| a3)), I, L), some (some (.int (a2 ||| a3)), I, L), bI (f_X7_held N ((Int32.toInt64 a2) * (Int32.toInt64 a3)) 1000000 I L) (fun x1 I2 L3 => some (some (.int x1), I2, L3)), bI (f_X7_held N ((Int32.toInt64 a2) + (Int32.toInt64 a3)) 1000000 I L) (fun x4 I5 L6 => some (some (.int x4), I5, L6)), some (some (.int (a2 ||| a3)), I, L), bI (f_X7_held N ((Int32.toInt64 a2) - (Int32.toInt64 a3)) 1000000 I L) (fun x7 I8 L9 => some (some (.int x7), I8, L9)), some (some (.int (a2 ||| a3)), I, L), (if a3 = 0 then some (some (.int 0), I, L) else gd (decide (¬ (Int32.toInt64 a3) = 0)) (bI (f_X7_held N ((Int32.toInt64 a2) / (Int32.toInt64 a3)) 1000000 I L) (fun x10 I11 L12 => some (some (.int x10), I11, L12)))), some (some (.int (a2 ||| a3)), I, L), some (some (.int (a2 ||| a3)), I, L), some (some (.int (a2 ||| a3)), I, L), some (some (.int (a2 ||| a3)), I, L), some (some (.int (a2 ||| a3)), I, L), some (some (.int (a2 ||| a3)), I, L), some (some (.int (a2 ||| a3)), I, L), some (some (.int (a2 ||| a3)), I, L), some (some (.int (a2 ||| a3)), I, L), some (some (.int (a2 ||| a3)), I, L), some (some (.int (a2 ||| a3)), I, L), some (some (.int (a2 ||| a3)), I, L), (if a3 ≤ a2 then some (some (.int 0), I, L) else some (some (.int 1), I, L)), (if a2 = a3 then some (some (.int 1), I, L) else some (some (.int 0), I, L)), (if a2 ≤ a3 then some (some (.int 0), I, L) else some (some (.int 1), I, L))] (some (some (.int (a2 ||| a3)), I, L)) a1
set_option maxRecDepth 100000 in
theorem ok_X7_joined (N d : Nat) (a1 : Int32) (a2 : Int32) (a3 : Int32) (I : PI) (L : PL) : MOk M_X7_joined (d + 2) [.int a1, .int a2, .int a3] I L (f_X7_joined N a1 a2 a3 I L) := by
  refine MOk.of (by decide +kernel) (Nat.le_of_ble_eq_true rfl) ?_
  show EvW _ _ 0 [(0, .int a1), (1, .int a2), (2, .int a3)] [] I L _
  rw [f_X7_joined]
  refine ev_iload_n (pc := 0) 0 dX7_joined_0 rfl ?_
  refine ev_table (pc := 1) 205 (by decide) rfl dX7_joined_1 ⟨⟨201, by decide, ?_⟩, ⟨205, by decide, ?_⟩, ⟨205, by decide, ?_⟩, ⟨205, by decide, ?_⟩, ⟨138, by decide, ?_⟩, ⟨116, by decide, ?_⟩, ⟨205, by decide, ?_⟩, ⟨127, by decide, ?_⟩, ⟨205, by decide, ?_⟩, ⟨149, by decide, ?_⟩, ⟨205, by decide, ?_⟩, ⟨205, by decide, ?_⟩, ⟨205, by decide, ?_⟩, ⟨205, by decide, ?_⟩, ⟨205, by decide, ?_⟩, ⟨205, by decide, ?_⟩, ⟨205, by decide, ?_⟩, ⟨205, by decide, ?_⟩, ⟨205, by decide, ?_⟩, ⟨205, by decide, ?_⟩, ⟨205, by decide, ?_⟩, ⟨205, by decide, ?_⟩, ⟨179, by decide, ?_⟩, ⟨168, by decide, ?_⟩, ⟨190, by decide, ?_⟩, trivial⟩ ?_
  · refine ev_iload_n (pc := 201) 1 dX7_joined_201 rfl ?_
    refine ev_iload_n (pc := 202) 2 dX7_joined_202 rfl ?_
    refine ev_iand (pc := 203) dX7_joined_203 ?_
    exact ev_iret (pc := 204) rfl dX7_joined_204
  · refine ev_iload_n (pc := 205) 1 dX7_joined_205 rfl ?_
    refine ev_iload_n (pc := 206) 2 dX7_joined_206 rfl ?_
    refine ev_ior (pc := 207) dX7_joined_207 ?_
    exact ev_iret (pc := 208) rfl dX7_joined_208
  · refine ev_iload_n (pc := 205) 1 dX7_joined_205 rfl ?_
    refine ev_iload_n (pc := 206) 2 dX7_joined_206 rfl ?_
    refine ev_ior (pc := 207) dX7_joined_207 ?_
    exact ev_iret (pc := 208) rfl dX7_joined_208
  · refine ev_iload_n (pc := 205) 1 dX7_joined_205 rfl ?_
    refine ev_iload_n (pc := 206) 2 dX7_joined_206 rfl ?_
    refine ev_ior (pc := 207) dX7_joined_207 ?_
    exact ev_iret (pc := 208) rfl dX7_joined_208
  · refine ev_iload_n (pc := 138) 1 dX7_joined_138 rfl ?_
    refine ev_i2l (pc := 139) dX7_joined_139 ?_
    refine ev_iload_n (pc := 140) 2 dX7_joined_140 rfl ?_
    refine ev_i2l (pc := 141) dX7_joined_141 ?_
    refine ev_lmul (pc := 142) dX7_joined_142 ?_
    refine ev_ldc (pc := 143) w_179 dX7_joined_143 ?_
    refine ev_callSI (pc := 145) (d := d + 1) (As := [.long ((Int32.toInt64 a2) * (Int32.toInt64 a3)), .int 1000000]) (st := []) cv_X7_held rfl w_188 rfl (Nat.le_of_ble_eq_true rfl) (ok_X7_held N (d) ((Int32.toInt64 a2) * (Int32.toInt64 a3)) 1000000 I L) dX7_joined_145 (fun x1 I2 L3 => ?_)
    exact ev_iret (pc := 148) rfl dX7_joined_148
  · refine ev_iload_n (pc := 116) 1 dX7_joined_116 rfl ?_
    refine ev_i2l (pc := 117) dX7_joined_117 ?_
    refine ev_iload_n (pc := 118) 2 dX7_joined_118 rfl ?_
    refine ev_i2l (pc := 119) dX7_joined_119 ?_
    refine ev_ladd (pc := 120) dX7_joined_120 ?_
    refine ev_ldc (pc := 121) w_179 dX7_joined_121 ?_
    refine ev_callSI (pc := 123) (d := d + 1) (As := [.long ((Int32.toInt64 a2) + (Int32.toInt64 a3)), .int 1000000]) (st := []) cv_X7_held rfl w_188 rfl (Nat.le_of_ble_eq_true rfl) (ok_X7_held N (d) ((Int32.toInt64 a2) + (Int32.toInt64 a3)) 1000000 I L) dX7_joined_123 (fun x4 I5 L6 => ?_)
    exact ev_iret (pc := 126) rfl dX7_joined_126
  · refine ev_iload_n (pc := 205) 1 dX7_joined_205 rfl ?_
    refine ev_iload_n (pc := 206) 2 dX7_joined_206 rfl ?_
    refine ev_ior (pc := 207) dX7_joined_207 ?_
    exact ev_iret (pc := 208) rfl dX7_joined_208
  · refine ev_iload_n (pc := 127) 1 dX7_joined_127 rfl ?_
    refine ev_i2l (pc := 128) dX7_joined_128 ?_
    refine ev_iload_n (pc := 129) 2 dX7_joined_129 rfl ?_
    refine ev_i2l (pc := 130) dX7_joined_130 ?_
    refine ev_lsub (pc := 131) dX7_joined_131 ?_
    refine ev_ldc (pc := 132) w_179 dX7_joined_132 ?_
    refine ev_callSI (pc := 134) (d := d + 1) (As := [.long ((Int32.toInt64 a2) - (Int32.toInt64 a3)), .int 1000000]) (st := []) cv_X7_held rfl w_188 rfl (Nat.le_of_ble_eq_true rfl) (ok_X7_held N (d) ((Int32.toInt64 a2) - (Int32.toInt64 a3)) 1000000 I L) dX7_joined_134 (fun x7 I8 L9 => ?_)
    exact ev_iret (pc := 137) rfl dX7_joined_137
  · refine ev_iload_n (pc := 205) 1 dX7_joined_205 rfl ?_
    refine ev_iload_n (pc := 206) 2 dX7_joined_206 rfl ?_
    refine ev_ior (pc := 207) dX7_joined_207 ?_
    exact ev_iret (pc := 208) rfl dX7_joined_208
  · refine ev_iload_n (pc := 149) 2 dX7_joined_149 rfl ?_
    refine ev_if_ne (pc := 150) 157 (by decide) dX7_joined_150 ?_ ?_
    · refine ev_iload_n (pc := 157) 1 dX7_joined_157 rfl ?_
      refine ev_i2l (pc := 158) dX7_joined_158 ?_
      refine ev_iload_n (pc := 159) 2 dX7_joined_159 rfl ?_
      refine ev_i2l (pc := 160) dX7_joined_160 ?_
      refine ev_ldiv (pc := 161) dX7_joined_161 ?_
      refine ev_ldc (pc := 162) w_179 dX7_joined_162 ?_
      refine ev_callSI (pc := 164) (d := d + 1) (As := [.long ((Int32.toInt64 a2) / (Int32.toInt64 a3)), .int 1000000]) (st := []) cv_X7_held rfl w_188 rfl (Nat.le_of_ble_eq_true rfl) (ok_X7_held N (d) ((Int32.toInt64 a2) / (Int32.toInt64 a3)) 1000000 I L) dX7_joined_164 (fun x10 I11 L12 => ?_)
      exact ev_iret (pc := 167) rfl dX7_joined_167
    · refine ev_iconst (pc := 153) 0 k_iconst_0 dX7_joined_153 ?_
      refine ev_goto (pc := 154) 167 (by decide) dX7_joined_154 ?_
      exact ev_iret (pc := 167) rfl dX7_joined_167
  · refine ev_iload_n (pc := 205) 1 dX7_joined_205 rfl ?_
    refine ev_iload_n (pc := 206) 2 dX7_joined_206 rfl ?_
    refine ev_ior (pc := 207) dX7_joined_207 ?_
    exact ev_iret (pc := 208) rfl dX7_joined_208
  · refine ev_iload_n (pc := 205) 1 dX7_joined_205 rfl ?_
    refine ev_iload_n (pc := 206) 2 dX7_joined_206 rfl ?_
    refine ev_ior (pc := 207) dX7_joined_207 ?_
    exact ev_iret (pc := 208) rfl dX7_joined_208
  · refine ev_iload_n (pc := 205) 1 dX7_joined_205 rfl ?_
    refine ev_iload_n (pc := 206) 2 dX7_joined_206 rfl ?_
    refine ev_ior (pc := 207) dX7_joined_207 ?_
    exact ev_iret (pc := 208) rfl dX7_joined_208
  · refine ev_iload_n (pc := 205) 1 dX7_joined_205 rfl ?_
    refine ev_iload_n (pc := 206) 2 dX7_joined_206 rfl ?_
    refine ev_ior (pc := 207) dX7_joined_207 ?_
    exact ev_iret (pc := 208) rfl dX7_joined_208
  · refine ev_iload_n (pc := 205) 1 dX7_joined_205 rfl ?_
    refine ev_iload_n (pc := 206) 2 dX7_joined_206 rfl ?_
    refine ev_ior (pc := 207) dX7_joined_207 ?_
    exact ev_iret (pc := 208) rfl dX7_joined_208
  · refine ev_iload_n (pc := 205) 1 dX7_joined_205 rfl ?_
    refine ev_iload_n (pc := 206) 2 dX7_joined_206 rfl ?_
    refine ev_ior (pc := 207) dX7_joined_207 ?_
    exact ev_iret (pc := 208) rfl dX7_joined_208
  · refine ev_iload_n (pc := 205) 1 dX7_joined_205 rfl ?_
    refine ev_iload_n (pc := 206) 2 dX7_joined_206 rfl ?_
    refine ev_ior (pc := 207) dX7_joined_207 ?_
    exact ev_iret (pc := 208) rfl dX7_joined_208
  · refine ev_iload_n (pc := 205) 1 dX7_joined_205 rfl ?_
    refine ev_iload_n (pc := 206) 2 dX7_joined_206 rfl ?_
    refine ev_ior (pc := 207) dX7_joined_207 ?_
    exact ev_iret (pc := 208) rfl dX7_joined_208
  · refine ev_iload_n (pc := 205) 1 dX7_joined_205 rfl ?_
    refine ev_iload_n (pc := 206) 2 dX7_joined_206 rfl ?_
    refine ev_ior (pc := 207) dX7_joined_207 ?_
    exact ev_iret (pc := 208) rfl dX7_joined_208
  · refine ev_iload_n (pc := 205) 1 dX7_joined_205 rfl ?_
    refine ev_iload_n (pc := 206) 2 dX7_joined_206 rfl ?_
    refine ev_ior (pc := 207) dX7_joined_207 ?_
    exact ev_iret (pc := 208) rfl dX7_joined_208
  · refine ev_iload_n (pc := 205) 1 dX7_joined_205 rfl ?_
    refine ev_iload_n (pc := 206) 2 dX7_joined_206 rfl ?_
    refine ev_ior (pc := 207) dX7_joined_207 ?_
    exact ev_iret (pc := 208) rfl dX7_joined_208
  · refine ev_iload_n (pc := 205) 1 dX7_joined_205 rfl ?_
    refine ev_iload_n (pc := 206) 2 dX7_joined_206 rfl ?_
    refine ev_ior (pc := 207) dX7_joined_207 ?_
    exact ev_iret (pc := 208) rfl dX7_joined_208
  · refine ev_iload_n (pc := 179) 1 dX7_joined_179 rfl ?_
    refine ev_iload_n (pc := 180) 2 dX7_joined_180 rfl ?_
    refine ev_icmp_ge (pc := 181) 188 (by decide) dX7_joined_181 ?_ ?_
    · refine ev_iconst (pc := 188) 0 k_iconst_0 dX7_joined_188 ?_
      exact ev_iret (pc := 189) rfl dX7_joined_189
    · refine ev_iconst (pc := 184) 1 k_iconst_1 dX7_joined_184 ?_
      refine ev_goto (pc := 185) 189 (by decide) dX7_joined_185 ?_
      exact ev_iret (pc := 189) rfl dX7_joined_189
  · refine ev_iload_n (pc := 168) 1 dX7_joined_168 rfl ?_
    refine ev_iload_n (pc := 169) 2 dX7_joined_169 rfl ?_
    refine ev_icmp_ne (pc := 170) 177 (by decide) dX7_joined_170 ?_ ?_
    · refine ev_iconst (pc := 177) 0 k_iconst_0 dX7_joined_177 ?_
      exact ev_iret (pc := 178) rfl dX7_joined_178
    · refine ev_iconst (pc := 173) 1 k_iconst_1 dX7_joined_173 ?_
      refine ev_goto (pc := 174) 178 (by decide) dX7_joined_174 ?_
      exact ev_iret (pc := 178) rfl dX7_joined_178
  · refine ev_iload_n (pc := 190) 1 dX7_joined_190 rfl ?_
    refine ev_iload_n (pc := 191) 2 dX7_joined_191 rfl ?_
    refine ev_icmp_le (pc := 192) 199 (by decide) dX7_joined_192 ?_ ?_
    · refine ev_iconst (pc := 199) 0 k_iconst_0 dX7_joined_199 ?_
      exact ev_iret (pc := 200) rfl dX7_joined_200
    · refine ev_iconst (pc := 195) 1 k_iconst_1 dX7_joined_195 ?_
      refine ev_goto (pc := 196) 200 (by decide) dX7_joined_196 ?_
      exact ev_iret (pc := 200) rfl dX7_joined_200
  · refine ev_iload_n (pc := 205) 1 dX7_joined_205 rfl ?_
    refine ev_iload_n (pc := 206) 2 dX7_joined_206 rfl ?_
    refine ev_ior (pc := 207) dX7_joined_207 ?_
    exact ev_iret (pc := 208) rfl dX7_joined_208
def f_X7_push (N : Nat) (a1 : Int32) (I : PI) (L : PL) : RES := (if 120 ≤ (I 7 3) then some (none, I, L) else gd (inb (I 7 3) 120) (nmW (uI I 20 (Int32.toNatClampNeg (I 7 3)) a1) (fun I1 => nmW (uI I1 7 3 ((I1 7 3) + 1)) (fun I2 => some (none, I2, L)))))
set_option maxRecDepth 100000 in
theorem ok_X7_push (N d : Nat) (a1 : Int32) (I : PI) (L : PL) : MOk M_X7_push (d) [.ref 7, .int a1] I L (f_X7_push N a1 I L) := by
  refine MOk.of (by decide +kernel) (Nat.le_of_ble_eq_true rfl) ?_
  show EvW _ _ 0 [(0, .ref 7), (1, .int a1)] [] I L _
  rw [f_X7_push]
  refine ev_aload_n (pc := 0) 0 dX7_push_0 rfl ?_
  refine gf_X7_47 (pc := 1) rfl dX7_push_1 ?_
  refine ev_aload_n (pc := 4) 0 dX7_push_4 rfl ?_
  refine gf_X7_20 (pc := 5) rfl dX7_push_5 ?_
  refine ev_alenI (pc := 8) 120 (by decide +kernel) kK_20 dX7_push_8 ?_
  refine ev_icmp_ge (pc := 9) 32 (by decide) dX7_push_9 ?_ ?_
  · exact ev_vret (pc := 32) rfl dX7_push_32
  · refine ev_aload_n (pc := 12) 0 dX7_push_12 rfl ?_
    refine gf_X7_20 (pc := 13) rfl dX7_push_13 ?_
    refine ev_aload_n (pc := 16) 0 dX7_push_16 rfl ?_
    refine gf_X7_47 (pc := 17) rfl dX7_push_17 ?_
    refine ev_iload_n (pc := 20) 1 dX7_push_20 rfl ?_
    refine ev_iast (pc := 21) kK_20 dX7_push_21 ?_
    refine ev_nmW (fun I1 => ?_)
    refine ev_aload_n (pc := 22) 0 dX7_push_22 rfl ?_
    refine ev_dup (pc := 23) rfl dX7_push_23 ?_
    refine gf_X7_47 (pc := 24) rfl dX7_push_24 ?_
    refine ev_iconst (pc := 27) 1 k_iconst_1 dX7_push_27 ?_
    refine ev_iadd (pc := 28) dX7_push_28 ?_
    refine pf_X7_47 (pc := 29) rfl dX7_push_29 ?_
    refine ev_nmW (fun I2 => ?_)
    exact ev_vret (pc := 32) rfl dX7_push_32
def F_X7_doStep_31 (N : Nat) (s0 : Int32) (I : PI) (L : PL) : RES := bV (f_X7_push N s0 I L) (fun I14 L15 => some (none, I14, L15))
set_option maxRecDepth 100000 in
theorem E_X7_doStep_31 (N d : Nat) (s0 : Int32) (I : PI) (L : PL) : EvW M_X7_doStep (d + 3) 31 [] [.int s0, .ref 7] I L (F_X7_doStep_31 N s0 I L) := by
  rw [F_X7_doStep_31]
  refine ev_callVV (pc := 31) (d := d + 2) (As := [.int s0]) (st := []) cv_X7_push rfl w_195 rfl (Nat.le_of_ble_eq_true rfl) (ok_X7_push N (d + 2) s0 I L) dX7_doStep_31 (fun I14 L15 => ?_)
  exact ev_vret (pc := 34) rfl dX7_doStep_34
def f_X7_doStep (N : Nat) (a1 : Int32) (I : PI) (L : PL) : RES := (if a1 < 0 then bI (f_X7_pop N I L) (fun x1 I2 L3 => (if a1 = (-33 : Int32) then (if x1 = 0 then F_X7_doStep_31 N 1 I2 L3 else F_X7_doStep_31 N 0 I2 L3) else bI (f_X7_pop N I2 L3) (fun x4 I5 L6 => bI (f_X7_joined N (-a1) x4 x1 I5 L6) (fun x7 I8 L9 => bV (f_X7_push N x7 I8 L9) (fun I11 L12 => some (none, I11, L12)))))) else bV (f_X7_push N a1 I L) (fun I17 L18 => some (none, I17, L18)))
set_option maxRecDepth 100000 in
theorem ok_X7_doStep (N d : Nat) (a1 : Int32) (I : PI) (L : PL) : MOk M_X7_doStep (d + 3) [.ref 7, .int a1] I L (f_X7_doStep N a1 I L) := by
  refine MOk.of (by decide +kernel) (Nat.le_of_ble_eq_true rfl) ?_
  show EvW _ _ 0 [(0, .ref 7), (1, .int a1)] [] I L _
  rw [f_X7_doStep]
  refine ev_iload_n (pc := 0) 1 dX7_doStep_0 rfl ?_
  refine ev_if_lt (pc := 1) 10 (by decide) dX7_doStep_1 ?_ ?_
  · refine ev_aload_n (pc := 10) 0 dX7_doStep_10 rfl ?_
    refine ev_callVI (pc := 11) (d := d + 2) (As := []) (st := []) cv_X7_pop rfl w_178 rfl (Nat.le_of_ble_eq_true rfl) (ok_X7_pop N (d + 2) I L) dX7_doStep_11 (fun x1 I2 L3 => ?_)
    refine ev_istore_n (pc := 14) (lv' := [(2, .int x1), (0, .ref 7), (1, .int a1)]) dX7_doStep_14 rfl rfl rfl ?_
    refine ev_iload_n (pc := 15) 2 dX7_doStep_15 rfl ?_
    refine ev_bipush (pc := 16) (-33 : Int32) k_bipush_m33 dX7_doStep_16 ?_
    refine ev_icmp_ne (pc := 18) 35 (by decide) dX7_doStep_18 ?_ ?_
    · refine ev_aload_n (pc := 35) 1 dX7_doStep_35 rfl ?_
      refine ev_iload_n (pc := 36) 2 dX7_doStep_36 rfl ?_
      refine ev_ineg (pc := 37) dX7_doStep_37 ?_
      refine ev_aload_n (pc := 38) 1 dX7_doStep_38 rfl ?_
      refine ev_callVI (pc := 39) (d := d + 2) (As := []) (st := [.int (-a1), .ref 7]) cv_X7_pop rfl w_178 rfl (Nat.le_of_ble_eq_true rfl) (ok_X7_pop N (d + 2) I2 L3) dX7_doStep_39 (fun x4 I5 L6 => ?_)
      refine ev_iload_n (pc := 42) 0 dX7_doStep_42 rfl ?_
      refine ev_callSI (pc := 43) (d := d + 2) (As := [.int (-a1), .int x4, .int x1]) (st := [.ref 7]) cv_X7_joined rfl w_191 rfl (Nat.le_of_ble_eq_true rfl) (ok_X7_joined N (d) (-a1) x4 x1 I5 L6) dX7_doStep_43 (fun x7 I8 L9 => ?_)
      refine ev_callVV (pc := 46) (d := d + 2) (As := [.int x7]) (st := []) cv_X7_push rfl w_195 rfl (Nat.le_of_ble_eq_true rfl) (ok_X7_push N (d + 2) x7 I8 L9) dX7_doStep_46 (fun I11 L12 => ?_)
      exact ev_vret (pc := 49) rfl dX7_doStep_49
    · refine ev_aload_n (pc := 21) 1 dX7_doStep_21 rfl ?_
      refine ev_iload_n (pc := 22) 0 dX7_doStep_22 rfl ?_
      refine ev_if_ne (pc := 23) 30 (by decide) dX7_doStep_23 ?_ ?_
      · refine ev_iconst (pc := 30) 0 k_iconst_0 dX7_doStep_30 ?_
        refine EvW.sub [] rfl ?_
        exact E_X7_doStep_31 N d 0 I2 L3
      · refine ev_iconst (pc := 26) 1 k_iconst_1 dX7_doStep_26 ?_
        refine ev_goto (pc := 27) 31 (by decide) dX7_doStep_27 ?_
        refine EvW.sub [] rfl ?_
        exact E_X7_doStep_31 N d 1 I2 L3
  · refine ev_aload_n (pc := 4) 0 dX7_doStep_4 rfl ?_
    refine ev_iload_n (pc := 5) 1 dX7_doStep_5 rfl ?_
    refine ev_callVV (pc := 6) (d := d + 2) (As := [.int a1]) (st := []) cv_X7_push rfl w_195 rfl (Nat.le_of_ble_eq_true rfl) (ok_X7_push N (d + 2) a1 I L) dX7_doStep_6 (fun I17 L18 => ?_)
    exact ev_vret (pc := 9) rfl dX7_doStep_9
def F_X7_worth_35 (N : Nat) : Nat → Int32 → Int32 → Int32 → Int32 → Int32 → Int32 → Int32 → PI → PL → RES
  | 0, _, _, _, _, _, _, _, _, _ => none
  | n + 1, v1, v2, v3, v4, v5, v6, v7, I, L => (if v6 ≤ v7 then some (some (.int 0), I, L) else gd (inb ((v1 * 120) + v7) 720) (nmI (I 18 (Int32.toNatClampNeg ((v1 * 120) + v7))) (fun x2 => swL [(63, bI (f_X7_pop N I L) (fun x6 I7 L8 => bI (f_X7_pop N I7 L8) (fun x9 I10 L11 => (if x9 = 0 then (F_X7_worth_35 N n) v1 v2 v3 v4 v5 v6 (v7 + 1) I10 L11 else some (some (.int x6), I10, L11))))), (97, bV (f_X7_push N v4 I L) (fun I13 L14 => (F_X7_worth_35 N n) v1 v2 v3 v4 v5 v6 (v7 + 1) I13 L14)), (98, bV (f_X7_push N v5 I L) (fun I16 L17 => (F_X7_worth_35 N n) v1 v2 v3 v4 v5 v6 (v7 + 1) I16 L17)), (107, bV (f_X7_push N v2 I L) (fun I19 L20 => (F_X7_worth_35 N n) v1 v2 v3 v4 v5 v6 (v7 + 1) I19 L20)), (110, bV (f_X7_push N v3 I L) (fun I22 L23 => (F_X7_worth_35 N n) v1 v2 v3 v4 v5 v6 (v7 + 1) I22 L23)), (121, bI (f_X7_pop N I L) (fun x24 I25 L26 => some (some (.int x24), I25, L26)))] (bV (f_X7_doStep N x2 I L) (fun I4 L5 => (F_X7_worth_35 N n) v1 v2 v3 v4 v5 v6 (v7 + 1) I4 L5)) (-x2))))
set_option maxRecDepth 100000 in
theorem E_X7_worth_35 (N d : Nat) : ∀ (n : Nat) (v1 : Int32) (v2 : Int32) (v3 : Int32) (v4 : Int32) (v5 : Int32) (v6 : Int32) (v7 : Int32) (I : PI) (L : PL), EvW M_X7_worth (d + 4) 35 [(0, .ref 7), (1, .int v1), (2, .int v2), (3, .int v3), (4, .int v4), (5, .int v5), (6, .int v6), (7, .int v7)] [] I L (F_X7_worth_35 N n v1 v2 v3 v4 v5 v6 v7 I L) := by
  intro n
  induction n with
  | zero =>
    intro v1 v2 v3 v4 v5 v6 v7 I L
    exact EvW.none
  | succ n hr_35 =>
    intro v1 v2 v3 v4 v5 v6 v7 I L
    rw [F_X7_worth_35]
    refine ev_iload (pc := 35) 7 dX7_worth_35 rfl ?_
    refine ev_iload (pc := 37) 6 dX7_worth_37 rfl ?_
    refine ev_icmp_ge (pc := 39) 183 (by decide) dX7_worth_39 ?_ ?_
    · refine ev_iconst (pc := 183) 0 k_iconst_0 dX7_worth_183 ?_
      exact ev_iret (pc := 184) rfl dX7_worth_184
    · refine ev_aload_n (pc := 42) 0 dX7_worth_42 rfl ?_
      refine gf_X7_13 (pc := 43) rfl dX7_worth_43 ?_
      refine ev_iload_n (pc := 46) 1 dX7_worth_46 rfl ?_
      refine ev_bipush (pc := 47) 120 k_bipush_120 dX7_worth_47 ?_
      refine ev_imul (pc := 49) dX7_worth_49 ?_
      refine ev_iload (pc := 50) 7 dX7_worth_50 rfl ?_
      refine ev_iadd (pc := 52) dX7_worth_52 ?_
      refine ev_iald (pc := 53) kK_18 dX7_worth_53 ?_
      refine ev_nmI (fun x2 => ?_)
      refine ev_istore (pc := 54) (lv' := [(8, .int x2), (0, .ref 7), (1, .int v1), (2, .int v2), (3, .int v3), (4, .int v4), (5, .int v5), (6, .int v6), (7, .int v7)]) dX7_worth_54 rfl rfl ?_
      refine ev_iload (pc := 56) 0 dX7_worth_56 rfl ?_
      refine ev_ineg (pc := 58) dX7_worth_58 ?_
      refine ev_lookup (pc := 59) 171 (by decide) (by decide) dX7_worth_59 ⟨rfl, ⟨155, by decide, ?_⟩, rfl, ⟨132, by decide, ?_⟩, rfl, ⟨141, by decide, ?_⟩, rfl, ⟨116, by decide, ?_⟩, rfl, ⟨124, by decide, ?_⟩, rfl, ⟨150, by decide, ?_⟩, trivial⟩ ?_
      · refine ev_aload_n (pc := 155) 1 dX7_worth_155 rfl ?_
        refine ev_callVI (pc := 156) (d := d + 3) (As := []) (st := []) cv_X7_pop rfl w_178 rfl (Nat.le_of_ble_eq_true rfl) (ok_X7_pop N (d + 3) I L) dX7_worth_156 (fun x6 I7 L8 => ?_)
        refine ev_istore (pc := 159) (lv' := [(9, .int x6), (8, .int x2), (0, .ref 7), (1, .int v1), (2, .int v2), (3, .int v3), (4, .int v4), (5, .int v5), (6, .int v6), (7, .int v7)]) dX7_worth_159 rfl rfl ?_
        refine ev_aload_n (pc := 161) 2 dX7_worth_161 rfl ?_
        refine ev_callVI (pc := 162) (d := d + 3) (As := []) (st := []) cv_X7_pop rfl w_178 rfl (Nat.le_of_ble_eq_true rfl) (ok_X7_pop N (d + 3) I7 L8) dX7_worth_162 (fun x9 I10 L11 => ?_)
        refine ev_if_eq (pc := 165) 177 (by decide) dX7_worth_165 ?_ ?_
        · refine ev_iinc (pc := 177) (lv' := [(7, .int (v7 + 1)), (9, .int x6), (8, .int x2), (0, .ref 7), (1, .int v1), (2, .int v2), (3, .int v3), (4, .int v4), (5, .int v5), (6, .int v6)]) dX7_worth_177 9 rfl rfl 1 k_iconst_1 rfl ?_
          refine ev_goto (pc := 180) 35 (by decide) dX7_worth_180 ?_
          refine EvW.sub [3, 4, 5, 6, 7, 8, 9, 0] rfl ?_
          exact hr_35 v1 v2 v3 v4 v5 v6 (v7 + 1) I10 L11
        · refine ev_iload (pc := 168) 0 dX7_worth_168 rfl ?_
          exact ev_iret (pc := 170) rfl dX7_worth_170
      · refine ev_aload_n (pc := 132) 1 dX7_worth_132 rfl ?_
        refine ev_iload (pc := 133) 5 dX7_worth_133 rfl ?_
        refine ev_callVV (pc := 135) (d := d + 3) (As := [.int v4]) (st := []) cv_X7_push rfl w_195 rfl (Nat.le_of_ble_eq_true rfl) (ok_X7_push N (d + 3) v4 I L) dX7_worth_135 (fun I13 L14 => ?_)
        refine ev_goto (pc := 138) 177 (by decide) dX7_worth_138 ?_
        refine ev_iinc (pc := 177) (lv' := [(7, .int (v7 + 1)), (8, .int x2), (0, .ref 7), (1, .int v1), (2, .int v2), (3, .int v3), (4, .int v4), (5, .int v5), (6, .int v6)]) dX7_worth_177 8 rfl rfl 1 k_iconst_1 rfl ?_
        refine ev_goto (pc := 180) 35 (by decide) dX7_worth_180 ?_
        refine EvW.sub [2, 3, 4, 5, 6, 7, 8, 0] rfl ?_
        exact hr_35 v1 v2 v3 v4 v5 v6 (v7 + 1) I13 L14
      · refine ev_aload_n (pc := 141) 1 dX7_worth_141 rfl ?_
        refine ev_iload (pc := 142) 6 dX7_worth_142 rfl ?_
        refine ev_callVV (pc := 144) (d := d + 3) (As := [.int v5]) (st := []) cv_X7_push rfl w_195 rfl (Nat.le_of_ble_eq_true rfl) (ok_X7_push N (d + 3) v5 I L) dX7_worth_144 (fun I16 L17 => ?_)
        refine ev_goto (pc := 147) 177 (by decide) dX7_worth_147 ?_
        refine ev_iinc (pc := 177) (lv' := [(7, .int (v7 + 1)), (8, .int x2), (0, .ref 7), (1, .int v1), (2, .int v2), (3, .int v3), (4, .int v4), (5, .int v5), (6, .int v6)]) dX7_worth_177 8 rfl rfl 1 k_iconst_1 rfl ?_
        refine ev_goto (pc := 180) 35 (by decide) dX7_worth_180 ?_
        refine EvW.sub [2, 3, 4, 5, 6, 7, 8, 0] rfl ?_
        exact hr_35 v1 v2 v3 v4 v5 v6 (v7 + 1) I16 L17
      · refine ev_aload_n (pc := 116) 1 dX7_worth_116 rfl ?_
        refine ev_iload_n (pc := 117) 3 dX7_worth_117 rfl ?_
        refine ev_callVV (pc := 118) (d := d + 3) (As := [.int v2]) (st := []) cv_X7_push rfl w_195 rfl (Nat.le_of_ble_eq_true rfl) (ok_X7_push N (d + 3) v2 I L) dX7_worth_118 (fun I19 L20 => ?_)
        refine ev_goto (pc := 121) 177 (by decide) dX7_worth_121 ?_
        refine ev_iinc (pc := 177) (lv' := [(7, .int (v7 + 1)), (8, .int x2), (0, .ref 7), (1, .int v1), (2, .int v2), (3, .int v3), (4, .int v4), (5, .int v5), (6, .int v6)]) dX7_worth_177 8 rfl rfl 1 k_iconst_1 rfl ?_
        refine ev_goto (pc := 180) 35 (by decide) dX7_worth_180 ?_
        refine EvW.sub [2, 3, 4, 5, 6, 7, 8, 0] rfl ?_
        exact hr_35 v1 v2 v3 v4 v5 v6 (v7 + 1) I19 L20
      · refine ev_aload_n (pc := 124) 1 dX7_worth_124 rfl ?_
        refine ev_iload_n (pc := 125) 4 dX7_worth_125 rfl ?_
        refine ev_callVV (pc := 126) (d := d + 3) (As := [.int v3]) (st := []) cv_X7_push rfl w_195 rfl (Nat.le_of_ble_eq_true rfl) (ok_X7_push N (d + 3) v3 I L) dX7_worth_126 (fun I22 L23 => ?_)
        refine ev_goto (pc := 129) 177 (by decide) dX7_worth_129 ?_
        refine ev_iinc (pc := 177) (lv' := [(7, .int (v7 + 1)), (8, .int x2), (0, .ref 7), (1, .int v1), (2, .int v2), (3, .int v3), (4, .int v4), (5, .int v5), (6, .int v6)]) dX7_worth_177 8 rfl rfl 1 k_iconst_1 rfl ?_
        refine ev_goto (pc := 180) 35 (by decide) dX7_worth_180 ?_
        refine EvW.sub [2, 3, 4, 5, 6, 7, 8, 0] rfl ?_
        exact hr_35 v1 v2 v3 v4 v5 v6 (v7 + 1) I22 L23
      · refine ev_aload_n (pc := 150) 1 dX7_worth_150 rfl ?_
        refine ev_callVI (pc := 151) (d := d + 3) (As := []) (st := []) cv_X7_pop rfl w_178 rfl (Nat.le_of_ble_eq_true rfl) (ok_X7_pop N (d + 3) I L) dX7_worth_151 (fun x24 I25 L26 => ?_)
        exact ev_iret (pc := 154) rfl dX7_worth_154
      · refine ev_aload_n (pc := 171) 1 dX7_worth_171 rfl ?_
        refine ev_iload (pc := 172) 0 dX7_worth_172 rfl ?_
        refine ev_callVV (pc := 174) (d := d + 3) (As := [.int x2]) (st := []) cv_X7_doStep rfl w_199 rfl (Nat.le_of_ble_eq_true rfl) (ok_X7_doStep N (d) x2 I L) dX7_worth_174 (fun I4 L5 => ?_)
        refine ev_iinc (pc := 177) (lv' := [(7, .int (v7 + 1)), (8, .int x2), (0, .ref 7), (1, .int v1), (2, .int v2), (3, .int v3), (4, .int v4), (5, .int v5), (6, .int v6)]) dX7_worth_177 8 rfl rfl 1 k_iconst_1 rfl ?_
        refine ev_goto (pc := 180) 35 (by decide) dX7_worth_180 ?_
        refine EvW.sub [2, 3, 4, 5, 6, 7, 8, 0] rfl ?_
        exact hr_35 v1 v2 v3 v4 v5 v6 (v7 + 1) I4 L5
def f_X7_worth (N : Nat) (a1 : Int32) (a2 : Int32) (a3 : Int32) (a4 : Int32) (a5 : Int32) (I : PI) (L : PL) : RES := nmW (uI I 7 3 0) (fun I1 => (if a1 < 0 then F_X7_worth_35 N N a1 a2 a3 a4 a5 0 0 I1 L else (if 6 ≤ a1 then F_X7_worth_35 N N a1 a2 a3 a4 a5 0 0 I1 L else gd (inb a1 6) (nmI (jmin (I1 19 (Int32.toNatClampNeg a1)) 120) (fun x27 => F_X7_worth_35 N N a1 a2 a3 a4 a5 x27 0 I1 L)))))
set_option maxRecDepth 100000 in
theorem ok_X7_worth (N d : Nat) (a1 : Int32) (a2 : Int32) (a3 : Int32) (a4 : Int32) (a5 : Int32) (I : PI) (L : PL) : MOk M_X7_worth (d + 4) [.ref 7, .int a1, .int a2, .int a3, .int a4, .int a5] I L (f_X7_worth N a1 a2 a3 a4 a5 I L) := by
  refine MOk.of (by decide +kernel) (Nat.le_of_ble_eq_true rfl) ?_
  show EvW _ _ 0 [(0, .ref 7), (1, .int a1), (2, .int a2), (3, .int a3), (4, .int a4), (5, .int a5)] [] I L _
  rw [f_X7_worth]
  refine ev_aload_n (pc := 0) 0 dX7_worth_0 rfl ?_
  refine ev_iconst (pc := 1) 0 k_iconst_0 dX7_worth_1 ?_
  refine pf_X7_47 (pc := 2) rfl dX7_worth_2 ?_
  refine ev_nmW (fun I1 => ?_)
  refine ev_iload_n (pc := 5) 1 dX7_worth_5 rfl ?_
  refine ev_if_lt (pc := 6) 29 (by decide) dX7_worth_6 ?_ ?_
  · refine ev_iconst (pc := 29) 0 k_iconst_0 dX7_worth_29 ?_
    refine ev_istore (pc := 30) (lv' := [(6, .int 0), (0, .ref 7), (1, .int a1), (2, .int a2), (3, .int a3), (4, .int a4), (5, .int a5)]) dX7_worth_30 rfl rfl ?_
    refine ev_iconst (pc := 32) 0 k_iconst_0 dX7_worth_32 ?_
    refine ev_istore (pc := 33) (lv' := [(7, .int 0), (6, .int 0), (0, .ref 7), (1, .int a1), (2, .int a2), (3, .int a3), (4, .int a4), (5, .int a5)]) dX7_worth_33 rfl rfl ?_
    refine EvW.sub [2, 3, 4, 5, 6, 7, 1, 0] rfl ?_
    exact E_X7_worth_35 N d N a1 a2 a3 a4 a5 0 0 I1 L
  · refine ev_iload_n (pc := 9) 1 dX7_worth_9 rfl ?_
    refine ev_bipush (pc := 10) 6 k_bipush_6 dX7_worth_10 ?_
    refine ev_icmp_ge (pc := 12) 29 (by decide) dX7_worth_12 ?_ ?_
    · refine ev_iconst (pc := 29) 0 k_iconst_0 dX7_worth_29 ?_
      refine ev_istore (pc := 30) (lv' := [(6, .int 0), (0, .ref 7), (1, .int a1), (2, .int a2), (3, .int a3), (4, .int a4), (5, .int a5)]) dX7_worth_30 rfl rfl ?_
      refine ev_iconst (pc := 32) 0 k_iconst_0 dX7_worth_32 ?_
      refine ev_istore (pc := 33) (lv' := [(7, .int 0), (6, .int 0), (0, .ref 7), (1, .int a1), (2, .int a2), (3, .int a3), (4, .int a4), (5, .int a5)]) dX7_worth_33 rfl rfl ?_
      refine EvW.sub [2, 3, 4, 5, 6, 7, 1, 0] rfl ?_
      exact E_X7_worth_35 N d N a1 a2 a3 a4 a5 0 0 I1 L
    · refine ev_aload_n (pc := 15) 0 dX7_worth_15 rfl ?_
      refine gf_X7_17 (pc := 16) rfl dX7_worth_16 ?_
      refine ev_iload_n (pc := 19) 1 dX7_worth_19 rfl ?_
      refine ev_iald (pc := 20) kK_19 dX7_worth_20 ?_
      refine ev_bipush (pc := 21) 120 k_bipush_120 dX7_worth_21 ?_
      refine ev_mmin (pc := 23) (d := d + 3) w_201 w_134 w_131 w_135 (Nat.le_of_ble_eq_true rfl) dX7_worth_23 ?_
      refine ev_goto (pc := 26) 30 (by decide) dX7_worth_26 ?_
      refine ev_nmI (fun x27 => ?_)
      refine ev_istore (pc := 30) (lv' := [(6, .int x27), (0, .ref 7), (1, .int a1), (2, .int a2), (3, .int a3), (4, .int a4), (5, .int a5)]) dX7_worth_30 rfl rfl ?_
      refine ev_iconst (pc := 32) 0 k_iconst_0 dX7_worth_32 ?_
      refine ev_istore (pc := 33) (lv' := [(7, .int 0), (6, .int x27), (0, .ref 7), (1, .int a1), (2, .int a2), (3, .int a3), (4, .int a4), (5, .int a5)]) dX7_worth_33 rfl rfl ?_
      refine EvW.sub [2, 3, 4, 5, 6, 7, 1, 0] rfl ?_
      exact E_X7_worth_35 N d N a1 a2 a3 a4 a5 x27 0 I1 L
def F_X7_weightOf_57 (N : Nat) (v1 : Int32) (v2 : Int32) (v3 : Int32) (v5 : Int32) (s0 : Int32) (I : PI) (L : PL) : RES := bI (f_X7_worth N v1 v2 v3 v5 s0 I L) (fun x1 I2 L3 => bI (f_X7_held N (Int32.toInt64 x1) 9 I2 L3) (fun x4 I5 L6 => some (some (.int x4), I5, L6)))
set_option maxRecDepth 100000 in
theorem E_X7_weightOf_57 (N d : Nat) (v1 : Int32) (v2 : Int32) (v3 : Int32) (v5 : Int32) (s0 : Int32) (I : PI) (L : PL) : EvW M_X7_weightOf (d + 5) 57 [(0, .ref 7), (1, .int v1), (2, .int v2), (3, .int v3), (5, .int v5)] [.int s0] I L (F_X7_weightOf_57 N v1 v2 v3 v5 s0 I L) := by
  rw [F_X7_weightOf_57]
  refine ev_istore (pc := 57) (lv' := [(6, .int s0), (0, .ref 7), (1, .int v1), (2, .int v2), (3, .int v3), (5, .int v5)]) dX7_weightOf_57 rfl rfl ?_
  refine ev_aload_n (pc := 59) 1 dX7_weightOf_59 rfl ?_
  refine ev_iload_n (pc := 60) 2 dX7_weightOf_60 rfl ?_
  refine ev_iload_n (pc := 61) 3 dX7_weightOf_61 rfl ?_
  refine ev_iload_n (pc := 62) 4 dX7_weightOf_62 rfl ?_
  refine ev_iload (pc := 63) 5 dX7_weightOf_63 rfl ?_
  refine ev_iload (pc := 65) 0 dX7_weightOf_65 rfl ?_
  refine ev_callVI (pc := 67) (d := d + 4) (As := [.int v1, .int v2, .int v3, .int v5, .int s0]) (st := []) cv_X7_worth rfl w_205 rfl (Nat.le_of_ble_eq_true rfl) (ok_X7_worth N (d) v1 v2 v3 v5 s0 I L) dX7_weightOf_67 (fun x1 I2 L3 => ?_)
  refine ev_i2l (pc := 70) dX7_weightOf_70 ?_
  refine ev_bipush (pc := 71) 9 k_bipush_9 dX7_weightOf_71 ?_
  refine ev_callSI (pc := 73) (d := d + 4) (As := [.long (Int32.toInt64 x1), .int 9]) (st := []) cv_X7_held rfl w_188 rfl (Nat.le_of_ble_eq_true rfl) (ok_X7_held N (d + 3) (Int32.toInt64 x1) 9 I2 L3) dX7_weightOf_73 (fun x4 I5 L6 => ?_)
  exact ev_iret (pc := 76) rfl dX7_weightOf_76
def F_X7_weightOf_34 (N : Nat) (v1 : Int32) (v2 : Int32) (v3 : Int32) (v4 : Int32) (s0 : Int32) (I : PI) (L : PL) : RES := (if v4 = 1 then F_X7_weightOf_57 N v1 v2 v3 s0 1 I L else (if v4 = 3 then F_X7_weightOf_57 N v1 v2 v3 s0 (-1 : Int32) I L else F_X7_weightOf_57 N v1 v2 v3 s0 0 I L))
set_option maxRecDepth 100000 in
theorem E_X7_weightOf_34 (N d : Nat) (v1 : Int32) (v2 : Int32) (v3 : Int32) (v4 : Int32) (s0 : Int32) (I : PI) (L : PL) : EvW M_X7_weightOf (d + 5) 34 [(0, .ref 7), (1, .int v1), (2, .int v2), (3, .int v3), (4, .int v4)] [.int s0] I L (F_X7_weightOf_34 N v1 v2 v3 v4 s0 I L) := by
  rw [F_X7_weightOf_34]
  refine ev_istore (pc := 34) (lv' := [(5, .int s0), (0, .ref 7), (1, .int v1), (2, .int v2), (3, .int v3), (4, .int v4)]) dX7_weightOf_34 rfl rfl ?_
  refine ev_iload (pc := 36) 5 dX7_weightOf_36 rfl ?_
  refine ev_iconst (pc := 38) 1 k_iconst_1 dX7_weightOf_38 ?_
  refine ev_icmp_ne (pc := 39) 46 (by decide) dX7_weightOf_39 ?_ ?_
  · refine ev_iload (pc := 46) 5 dX7_weightOf_46 rfl ?_
    refine ev_iconst (pc := 48) 3 k_iconst_3 dX7_weightOf_48 ?_
    refine ev_icmp_ne (pc := 49) 56 (by decide) dX7_weightOf_49 ?_ ?_
    · refine ev_iconst (pc := 56) 0 k_iconst_0 dX7_weightOf_56 ?_
      refine EvW.sub [1, 2, 3, 4, 0] rfl ?_
      exact E_X7_weightOf_57 N d v1 v2 v3 s0 0 I L
    · refine ev_iconst (pc := 52) (-1 : Int32) k_iconst_m1 dX7_weightOf_52 ?_
      refine ev_goto (pc := 53) 57 (by decide) dX7_weightOf_53 ?_
      refine EvW.sub [1, 2, 3, 4, 0] rfl ?_
      exact E_X7_weightOf_57 N d v1 v2 v3 s0 (-1 : Int32) I L
  · refine ev_iconst (pc := 42) 1 k_iconst_1 dX7_weightOf_42 ?_
    refine ev_goto (pc := 43) 57 (by decide) dX7_weightOf_43 ?_
    refine EvW.sub [1, 2, 3, 4, 0] rfl ?_
    exact E_X7_weightOf_57 N d v1 v2 v3 s0 1 I L
def f_X7_weightOf (N : Nat) (a1 : Int32) (a2 : Int32) (a3 : Int32) (a4 : Int32) (I : PI) (L : PL) : RES := (if a1 < 0 then some (some (.int 1), I, L) else (if a1 < (I 7 4) then (if a4 = 0 then F_X7_weightOf_34 N a1 a2 a3 a4 1 I L else (if a4 = 2 then F_X7_weightOf_34 N a1 a2 a3 a4 (-1 : Int32) I L else F_X7_weightOf_34 N a1 a2 a3 a4 0 I L)) else some (some (.int 1), I, L)))
set_option maxRecDepth 100000 in
theorem ok_X7_weightOf (N d : Nat) (a1 : Int32) (a2 : Int32) (a3 : Int32) (a4 : Int32) (I : PI) (L : PL) : MOk M_X7_weightOf (d + 5) [.ref 7, .int a1, .int a2, .int a3, .int a4] I L (f_X7_weightOf N a1 a2 a3 a4 I L) := by
  refine MOk.of (by decide +kernel) (Nat.le_of_ble_eq_true rfl) ?_
  show EvW _ _ 0 [(0, .ref 7), (1, .int a1), (2, .int a2), (3, .int a3), (4, .int a4)] [] I L _
  rw [f_X7_weightOf]
  refine ev_iload_n (pc := 0) 1 dX7_weightOf_0 rfl ?_
  refine ev_if_lt (pc := 1) 12 (by decide) dX7_weightOf_1 ?_ ?_
  · refine ev_iconst (pc := 12) 1 k_iconst_1 dX7_weightOf_12 ?_
    exact ev_iret (pc := 13) rfl dX7_weightOf_13
  · refine ev_iload_n (pc := 4) 1 dX7_weightOf_4 rfl ?_
    refine ev_aload_n (pc := 5) 0 dX7_weightOf_5 rfl ?_
    refine gf_X7_23 (pc := 6) rfl dX7_weightOf_6 ?_
    refine ev_icmp_lt (pc := 9) 14 (by decide) dX7_weightOf_9 ?_ ?_
    · refine ev_iload (pc := 14) 4 dX7_weightOf_14 rfl ?_
      refine ev_if_ne (pc := 16) 23 (by decide) dX7_weightOf_16 ?_ ?_
      · refine ev_iload (pc := 23) 4 dX7_weightOf_23 rfl ?_
        refine ev_iconst (pc := 25) 2 k_iconst_2 dX7_weightOf_25 ?_
        refine ev_icmp_ne (pc := 26) 33 (by decide) dX7_weightOf_26 ?_ ?_
        · refine ev_iconst (pc := 33) 0 k_iconst_0 dX7_weightOf_33 ?_
          exact E_X7_weightOf_34 N d a1 a2 a3 a4 0 I L
        · refine ev_iconst (pc := 29) (-1 : Int32) k_iconst_m1 dX7_weightOf_29 ?_
          refine ev_goto (pc := 30) 34 (by decide) dX7_weightOf_30 ?_
          exact E_X7_weightOf_34 N d a1 a2 a3 a4 (-1 : Int32) I L
      · refine ev_iconst (pc := 19) 1 k_iconst_1 dX7_weightOf_19 ?_
        refine ev_goto (pc := 20) 34 (by decide) dX7_weightOf_20 ?_
        exact E_X7_weightOf_34 N d a1 a2 a3 a4 1 I L
    · refine ev_iconst (pc := 12) 1 k_iconst_1 dX7_weightOf_12 ?_
      exact ev_iret (pc := 13) rfl dX7_weightOf_13
def F_X4_weigh_12 (N : Nat) : Nat → Int32 → Int32 → Int32 → Int32 → PI → PL → RES
  | 0, _, _, _, _, _, _ => none
  | n + 1, v1, v2, v3, v4, I, L => (if v3 ≤ v4 then some (none, I, L) else (if 24 ≤ v4 then some (none, I, L) else bI (f_X3_turn N v1 v4 I L) (fun x4 I5 L6 => bI (f_X7_weightOf N v2 v4 v3 x4 I5 L6) (fun x7 I8 L9 => gd (inb v4 24) (nmW (uI I8 21 (Int32.toNatClampNeg v4) x7) (fun I10 => (F_X4_weigh_12 N n) v1 v2 v3 (v4 + 1) I10 L9))))))
set_option maxRecDepth 100000 in
theorem E_X4_weigh_12 (N d : Nat) : ∀ (n : Nat) (v1 : Int32) (v2 : Int32) (v3 : Int32) (v4 : Int32) (I : PI) (L : PL), EvW M_X4_weigh (d + 6) 12 [(0, .ref 4), (1, .int v1), (2, .int v2), (3, .int v3), (4, .int v4)] [] I L (F_X4_weigh_12 N n v1 v2 v3 v4 I L) := by
  intro n
  induction n with
  | zero =>
    intro v1 v2 v3 v4 I L
    exact EvW.none
  | succ n hr_12 =>
    intro v1 v2 v3 v4 I L
    rw [F_X4_weigh_12]
    refine ev_iload (pc := 12) 4 dX4_weigh_12 rfl ?_
    refine ev_iload_n (pc := 14) 3 dX4_weigh_14 rfl ?_
    refine ev_icmp_ge (pc := 15) 62 (by decide) dX4_weigh_15 ?_ ?_
    · exact ev_vret (pc := 62) rfl dX4_weigh_62
    · refine ev_iload (pc := 18) 4 dX4_weigh_18 rfl ?_
      refine ev_aload_n (pc := 20) 0 dX4_weigh_20 rfl ?_
      refine gf_X4_21 (pc := 21) rfl dX4_weigh_21 ?_
      refine ev_alenI (pc := 24) 24 (by decide +kernel) kK_21 dX4_weigh_24 ?_
      refine ev_icmp_ge (pc := 25) 62 (by decide) dX4_weigh_25 ?_ ?_
      · exact ev_vret (pc := 62) rfl dX4_weigh_62
      · refine ev_aload_n (pc := 28) 0 dX4_weigh_28 rfl ?_
        refine gf_X4_21 (pc := 29) rfl dX4_weigh_29 ?_
        refine ev_iload (pc := 32) 4 dX4_weigh_32 rfl ?_
        refine ev_aload_n (pc := 34) 0 dX4_weigh_34 rfl ?_
        refine gf_X4_15 (pc := 35) rfl dX4_weigh_35 ?_
        refine ev_iload_n (pc := 38) 2 dX4_weigh_38 rfl ?_
        refine ev_iload (pc := 39) 4 dX4_weigh_39 rfl ?_
        refine ev_iload_n (pc := 41) 3 dX4_weigh_41 rfl ?_
        refine ev_aload_n (pc := 42) 0 dX4_weigh_42 rfl ?_
        refine gf_X4_9 (pc := 43) rfl dX4_weigh_43 ?_
        refine ev_iload_n (pc := 46) 1 dX4_weigh_46 rfl ?_
        refine ev_iload (pc := 47) 4 dX4_weigh_47 rfl ?_
        refine ev_callVI (pc := 49) (d := d + 5) (As := [.int v1, .int v4]) (st := [.int v3, .int v4, .int v2, .ref 7, .int v4, .ref 21]) cv_X3_turn rfl w_169 rfl (Nat.le_of_ble_eq_true rfl) (ok_X3_turn N (d + 4) v1 v4 I L) dX4_weigh_49 (fun x4 I5 L6 => ?_)
        refine ev_callVI (pc := 52) (d := d + 5) (As := [.int v2, .int v4, .int v3, .int x4]) (st := [.int v4, .ref 21]) cv_X7_weightOf rfl w_209 rfl (Nat.le_of_ble_eq_true rfl) (ok_X7_weightOf N (d) v2 v4 v3 x4 I5 L6) dX4_weigh_52 (fun x7 I8 L9 => ?_)
        refine ev_iast (pc := 55) kK_21 dX4_weigh_55 ?_
        refine ev_nmW (fun I10 => ?_)
        refine ev_iinc (pc := 56) (lv' := [(4, .int (v4 + 1)), (0, .ref 4), (1, .int v1), (2, .int v2), (3, .int v3)]) dX4_weigh_56 4 rfl rfl 1 k_iconst_1 rfl ?_
        refine ev_goto (pc := 59) 12 (by decide) dX4_weigh_59 ?_
        refine EvW.sub [1, 2, 3, 4, 0] rfl ?_
        exact hr_12 v1 v2 v3 (v4 + 1) I10 L9
def f_X4_weigh (N : Nat) (a1 : Int32) (a2 : Int32) (I : PI) (L : PL) : RES := bI (f_X3_lengthOf N a1 I L) (fun x1 I2 L3 => F_X4_weigh_12 N N a1 a2 x1 0 I2 L3)
set_option maxRecDepth 100000 in
theorem ok_X4_weigh (N d : Nat) (a1 : Int32) (a2 : Int32) (I : PI) (L : PL) : MOk M_X4_weigh (d + 6) [.ref 4, .int a1, .int a2] I L (f_X4_weigh N a1 a2 I L) := by
  refine MOk.of (by decide +kernel) (Nat.le_of_ble_eq_true rfl) ?_
  show EvW _ _ 0 [(0, .ref 4), (1, .int a1), (2, .int a2)] [] I L _
  rw [f_X4_weigh]
  refine ev_aload_n (pc := 0) 0 dX4_weigh_0 rfl ?_
  refine gf_X4_9 (pc := 1) rfl dX4_weigh_1 ?_
  refine ev_iload_n (pc := 4) 1 dX4_weigh_4 rfl ?_
  refine ev_callVI (pc := 5) (d := d + 5) (As := [.int a1]) (st := []) cv_X3_lengthOf rfl w_162 rfl (Nat.le_of_ble_eq_true rfl) (ok_X3_lengthOf N (d + 5) a1 I L) dX4_weigh_5 (fun x1 I2 L3 => ?_)
  refine ev_istore_n (pc := 8) (lv' := [(3, .int x1), (0, .ref 4), (1, .int a1), (2, .int a2)]) dX4_weigh_8 rfl rfl rfl ?_
  refine ev_iconst (pc := 9) 0 k_iconst_0 dX4_weigh_9 ?_
  refine ev_istore (pc := 10) (lv' := [(4, .int 0), (3, .int x1), (0, .ref 4), (1, .int a1), (2, .int a2)]) dX4_weigh_10 rfl rfl ?_
  refine EvW.sub [2, 3, 4, 1, 0] rfl ?_
  exact E_X4_weigh_12 N d N a1 a2 x1 0 I2 L3
def F_X4_addMeeting_83 (N : Nat) : Nat → Int32 → Int32 → Int32 → Int32 → Int32 → Int32 → PI → PL → RES
  | 0, _, _, _, _, _, _, _, _ => none
  | n + 1, v1, v2, v3, v4, v8, v9, I, L => (if v8 ≤ v9 then some (none, I, L) else gd (inb (v9 - v3) 24) (nmI (I 21 (Int32.toNatClampNeg (v9 - v3))) (fun x16 => gd (inb ((v1 * 24) + v9) 216) (gd (inb (((v2 * 24) + v9) - v3) 216) (nmI ((((I 15 (Int32.toNatClampNeg ((v1 * 24) + v9))) + (v4 * v9)) - (I 15 (Int32.toNatClampNeg (((v2 * 24) + v9) - v3)))) &&& 3) (fun x17 => (if x17 = 0 then nmW (uI I 4 4 ((I 4 4) + x16)) (fun I21 => (F_X4_addMeeting_83 N n) v1 v2 v3 v4 v8 (v9 + 1) I21 L) else (if x17 = 1 then nmW (uI I 4 5 ((I 4 5) + x16)) (fun I20 => (F_X4_addMeeting_83 N n) v1 v2 v3 v4 v8 (v9 + 1) I20 L) else (if x17 = 2 then nmW (uI I 4 4 ((I 4 4) - x16)) (fun I19 => (F_X4_addMeeting_83 N n) v1 v2 v3 v4 v8 (v9 + 1) I19 L) else nmW (uI I 4 5 ((I 4 5) - x16)) (fun I18 => (F_X4_addMeeting_83 N n) v1 v2 v3 v4 v8 (v9 + 1) I18 L))))))))))
set_option maxRecDepth 100000 in
theorem E_X4_addMeeting_83 (N d : Nat) : ∀ (n : Nat) (v1 : Int32) (v2 : Int32) (v3 : Int32) (v4 : Int32) (v8 : Int32) (v9 : Int32) (I : PI) (L : PL), EvW M_X4_addMeeting (d + 1) 83 [(0, .ref 4), (1, .int v1), (2, .int v2), (3, .int v3), (4, .int v4), (5, .ref 15), (8, .int v8), (9, .int v9)] [] I L (F_X4_addMeeting_83 N n v1 v2 v3 v4 v8 v9 I L) := by
  intro n
  induction n with
  | zero =>
    intro v1 v2 v3 v4 v8 v9 I L
    exact EvW.none
  | succ n hr_83 =>
    intro v1 v2 v3 v4 v8 v9 I L
    rw [F_X4_addMeeting_83]
    refine ev_iload (pc := 83) 7 dX4_addMeeting_83 rfl ?_
    refine ev_iload (pc := 85) 6 dX4_addMeeting_85 rfl ?_
    refine ev_icmp_ge (pc := 87) 210 (by decide) dX4_addMeeting_87 ?_ ?_
    · exact ev_vret (pc := 210) rfl dX4_addMeeting_210
    · refine ev_aload_n (pc := 90) 0 dX4_addMeeting_90 rfl ?_
      refine gf_X4_21 (pc := 91) rfl dX4_addMeeting_91 ?_
      refine ev_iload (pc := 94) 7 dX4_addMeeting_94 rfl ?_
      refine ev_iload_n (pc := 96) 3 dX4_addMeeting_96 rfl ?_
      refine ev_isub (pc := 97) dX4_addMeeting_97 ?_
      refine ev_iald (pc := 98) kK_21 dX4_addMeeting_98 ?_
      refine ev_nmI (fun x16 => ?_)
      refine ev_istore (pc := 99) (lv' := [(10, .int x16), (0, .ref 4), (1, .int v1), (2, .int v2), (3, .int v3), (4, .int v4), (5, .ref 15), (8, .int v8), (9, .int v9)]) dX4_addMeeting_99 rfl rfl ?_
      refine ev_aload (pc := 101) 6 dX4_addMeeting_101 rfl ?_
      refine ev_iload_n (pc := 103) 2 dX4_addMeeting_103 rfl ?_
      refine ev_bipush (pc := 104) 24 k_bipush_24 dX4_addMeeting_104 ?_
      refine ev_imul (pc := 106) dX4_addMeeting_106 ?_
      refine ev_iload (pc := 107) 8 dX4_addMeeting_107 rfl ?_
      refine ev_iadd (pc := 109) dX4_addMeeting_109 ?_
      refine ev_iald (pc := 110) kK_15 dX4_addMeeting_110 ?_
      refine ev_iload (pc := 111) 5 dX4_addMeeting_111 rfl ?_
      refine ev_iload (pc := 113) 8 dX4_addMeeting_113 rfl ?_
      refine ev_imul (pc := 115) dX4_addMeeting_115 ?_
      refine ev_iadd (pc := 116) dX4_addMeeting_116 ?_
      refine ev_aload (pc := 117) 6 dX4_addMeeting_117 rfl ?_
      refine ev_iload_n (pc := 119) 3 dX4_addMeeting_119 rfl ?_
      refine ev_bipush (pc := 120) 24 k_bipush_24 dX4_addMeeting_120 ?_
      refine ev_imul (pc := 122) dX4_addMeeting_122 ?_
      refine ev_iload (pc := 123) 8 dX4_addMeeting_123 rfl ?_
      refine ev_iadd (pc := 125) dX4_addMeeting_125 ?_
      refine ev_iload_n (pc := 126) 4 dX4_addMeeting_126 rfl ?_
      refine ev_isub (pc := 127) dX4_addMeeting_127 ?_
      refine ev_iald (pc := 128) kK_15 dX4_addMeeting_128 ?_
      refine ev_isub (pc := 129) dX4_addMeeting_129 ?_
      refine ev_iconst (pc := 130) 3 k_iconst_3 dX4_addMeeting_130 ?_
      refine ev_iand (pc := 131) dX4_addMeeting_131 ?_
      refine ev_nmI (fun x17 => ?_)
      refine ev_istore (pc := 132) (lv' := [(11, .int x17), (10, .int x16), (0, .ref 4), (1, .int v1), (2, .int v2), (3, .int v3), (4, .int v4), (5, .ref 15), (8, .int v8), (9, .int v9)]) dX4_addMeeting_132 rfl rfl ?_
      refine ev_iload (pc := 134) 0 dX4_addMeeting_134 rfl ?_
      refine ev_if_ne (pc := 136) 153 (by decide) dX4_addMeeting_136 ?_ ?_
      · refine ev_iload (pc := 153) 0 dX4_addMeeting_153 rfl ?_
        refine ev_iconst (pc := 155) 1 k_iconst_1 dX4_addMeeting_155 ?_
        refine ev_icmp_ne (pc := 156) 173 (by decide) dX4_addMeeting_156 ?_ ?_
        · refine ev_iload (pc := 173) 0 dX4_addMeeting_173 rfl ?_
          refine ev_iconst (pc := 175) 2 k_iconst_2 dX4_addMeeting_175 ?_
          refine ev_icmp_ne (pc := 176) 193 (by decide) dX4_addMeeting_176 ?_ ?_
          · refine ev_aload_n (pc := 193) 2 dX4_addMeeting_193 rfl ?_
            refine ev_dup (pc := 194) rfl dX4_addMeeting_194 ?_
            refine gf_X4_61 (pc := 195) rfl dX4_addMeeting_195 ?_
            refine ev_iload (pc := 198) 1 dX4_addMeeting_198 rfl ?_
            refine ev_isub (pc := 200) dX4_addMeeting_200 ?_
            refine pf_X4_61 (pc := 201) rfl dX4_addMeeting_201 ?_
            refine ev_nmW (fun I18 => ?_)
            refine ev_iinc (pc := 204) (lv' := [(9, .int (v9 + 1)), (11, .int x17), (10, .int x16), (0, .ref 4), (1, .int v1), (2, .int v2), (3, .int v3), (4, .int v4), (5, .ref 15), (8, .int v8)]) dX4_addMeeting_204 9 rfl rfl 1 k_iconst_1 rfl ?_
            refine ev_goto (pc := 207) 83 (by decide) dX4_addMeeting_207 ?_
            refine EvW.sub [3, 4, 5, 6, 7, 8, 9, 0] rfl ?_
            exact hr_83 v1 v2 v3 v4 v8 (v9 + 1) I18 L
          · refine ev_aload_n (pc := 179) 2 dX4_addMeeting_179 rfl ?_
            refine ev_dup (pc := 180) rfl dX4_addMeeting_180 ?_
            refine gf_X4_57 (pc := 181) rfl dX4_addMeeting_181 ?_
            refine ev_iload (pc := 184) 1 dX4_addMeeting_184 rfl ?_
            refine ev_isub (pc := 186) dX4_addMeeting_186 ?_
            refine pf_X4_57 (pc := 187) rfl dX4_addMeeting_187 ?_
            refine ev_nmW (fun I19 => ?_)
            refine ev_goto (pc := 190) 204 (by decide) dX4_addMeeting_190 ?_
            refine ev_iinc (pc := 204) (lv' := [(9, .int (v9 + 1)), (11, .int x17), (10, .int x16), (0, .ref 4), (1, .int v1), (2, .int v2), (3, .int v3), (4, .int v4), (5, .ref 15), (8, .int v8)]) dX4_addMeeting_204 9 rfl rfl 1 k_iconst_1 rfl ?_
            refine ev_goto (pc := 207) 83 (by decide) dX4_addMeeting_207 ?_
            refine EvW.sub [3, 4, 5, 6, 7, 8, 9, 0] rfl ?_
            exact hr_83 v1 v2 v3 v4 v8 (v9 + 1) I19 L
        · refine ev_aload_n (pc := 159) 2 dX4_addMeeting_159 rfl ?_
          refine ev_dup (pc := 160) rfl dX4_addMeeting_160 ?_
          refine gf_X4_61 (pc := 161) rfl dX4_addMeeting_161 ?_
          refine ev_iload (pc := 164) 1 dX4_addMeeting_164 rfl ?_
          refine ev_iadd (pc := 166) dX4_addMeeting_166 ?_
          refine pf_X4_61 (pc := 167) rfl dX4_addMeeting_167 ?_
          refine ev_nmW (fun I20 => ?_)
          refine ev_goto (pc := 170) 204 (by decide) dX4_addMeeting_170 ?_
          refine ev_iinc (pc := 204) (lv' := [(9, .int (v9 + 1)), (11, .int x17), (10, .int x16), (0, .ref 4), (1, .int v1), (2, .int v2), (3, .int v3), (4, .int v4), (5, .ref 15), (8, .int v8)]) dX4_addMeeting_204 9 rfl rfl 1 k_iconst_1 rfl ?_
          refine ev_goto (pc := 207) 83 (by decide) dX4_addMeeting_207 ?_
          refine EvW.sub [3, 4, 5, 6, 7, 8, 9, 0] rfl ?_
          exact hr_83 v1 v2 v3 v4 v8 (v9 + 1) I20 L
      · refine ev_aload_n (pc := 139) 2 dX4_addMeeting_139 rfl ?_
        refine ev_dup (pc := 140) rfl dX4_addMeeting_140 ?_
        refine gf_X4_57 (pc := 141) rfl dX4_addMeeting_141 ?_
        refine ev_iload (pc := 144) 1 dX4_addMeeting_144 rfl ?_
        refine ev_iadd (pc := 146) dX4_addMeeting_146 ?_
        refine pf_X4_57 (pc := 147) rfl dX4_addMeeting_147 ?_
        refine ev_nmW (fun I21 => ?_)
        refine ev_goto (pc := 150) 204 (by decide) dX4_addMeeting_150 ?_
        refine ev_iinc (pc := 204) (lv' := [(9, .int (v9 + 1)), (11, .int x17), (10, .int x16), (0, .ref 4), (1, .int v1), (2, .int v2), (3, .int v3), (4, .int v4), (5, .ref 15), (8, .int v8)]) dX4_addMeeting_204 9 rfl rfl 1 k_iconst_1 rfl ?_
        refine ev_goto (pc := 207) 83 (by decide) dX4_addMeeting_207 ?_
        refine EvW.sub [3, 4, 5, 6, 7, 8, 9, 0] rfl ?_
        exact hr_83 v1 v2 v3 v4 v8 (v9 + 1) I21 L
def f_X4_addMeeting (N : Nat) (a1 : Int32) (a2 : Int32) (a3 : Int32) (a4 : Int32) (I : PI) (L : PL) : RES := bI (f_X3_has N a1 I L) (fun x1 I2 L3 => (if x1 = 0 then some (none, I2, L3) else bI (f_X3_has N a2 I2 L3) (fun x4 I5 L6 => (if x4 = 0 then some (none, I5, L6) else nmI (jmax 0 a3) (fun x7 => bI (f_X3_lengthOf N a2 I5 L6) (fun x8 I9 L10 => nmI (jmin x8 24) (fun x11 => bI (f_X3_lengthOf N a1 I9 L10) (fun x12 I13 L14 => nmI (jmin (jmin x12 24) (x11 + a3)) (fun x15 => F_X4_addMeeting_83 N N a1 a2 a3 a4 x15 x7 I13 L14)))))))))
set_option maxRecDepth 100000 in
theorem ok_X4_addMeeting (N d : Nat) (a1 : Int32) (a2 : Int32) (a3 : Int32) (a4 : Int32) (I : PI) (L : PL) : MOk M_X4_addMeeting (d + 1) [.ref 4, .int a1, .int a2, .int a3, .int a4] I L (f_X4_addMeeting N a1 a2 a3 a4 I L) := by
  refine MOk.of (by decide +kernel) (Nat.le_of_ble_eq_true rfl) ?_
  show EvW _ _ 0 [(0, .ref 4), (1, .int a1), (2, .int a2), (3, .int a3), (4, .int a4)] [] I L _
  rw [f_X4_addMeeting]
  refine ev_aload_n (pc := 0) 0 dX4_addMeeting_0 rfl ?_
  refine gf_X4_9 (pc := 1) rfl dX4_addMeeting_1 ?_
  refine ev_iload_n (pc := 4) 1 dX4_addMeeting_4 rfl ?_
  refine ev_callVI (pc := 5) (d := d) (As := [.int a1]) (st := []) cv_X3_has rfl w_158 rfl (Nat.le_of_ble_eq_true rfl) (ok_X3_has N (d) a1 I L) dX4_addMeeting_5 (fun x1 I2 L3 => ?_)
  refine ev_if_eq (pc := 8) 22 (by decide) dX4_addMeeting_8 ?_ ?_
  · exact ev_vret (pc := 22) rfl dX4_addMeeting_22
  · refine ev_aload_n (pc := 11) 0 dX4_addMeeting_11 rfl ?_
    refine gf_X4_9 (pc := 12) rfl dX4_addMeeting_12 ?_
    refine ev_iload_n (pc := 15) 2 dX4_addMeeting_15 rfl ?_
    refine ev_callVI (pc := 16) (d := d) (As := [.int a2]) (st := []) cv_X3_has rfl w_158 rfl (Nat.le_of_ble_eq_true rfl) (ok_X3_has N (d) a2 I2 L3) dX4_addMeeting_16 (fun x4 I5 L6 => ?_)
    refine ev_if_ne (pc := 19) 23 (by decide) dX4_addMeeting_19 ?_ ?_
    · refine ev_aload_n (pc := 23) 0 dX4_addMeeting_23 rfl ?_
      refine gf_X4_9 (pc := 24) rfl dX4_addMeeting_24 ?_
      refine gf_X4_46 (pc := 27) rfl dX4_addMeeting_27 ?_
      refine ev_astore (pc := 30) (lv' := [(5, .ref 15), (0, .ref 4), (1, .int a1), (2, .int a2), (3, .int a3), (4, .int a4)]) dX4_addMeeting_30 rfl rfl ?_
      refine ev_iconst (pc := 32) 0 k_iconst_0 dX4_addMeeting_32 ?_
      refine ev_iload_n (pc := 33) 4 dX4_addMeeting_33 rfl ?_
      refine ev_mmax (pc := 34) (d := d) w_217 w_130 w_131 w_132 (Nat.le_of_ble_eq_true rfl) dX4_addMeeting_34 ?_
      refine ev_nmI (fun x7 => ?_)
      refine ev_istore (pc := 37) (lv' := [(6, .int x7), (5, .ref 15), (0, .ref 4), (1, .int a1), (2, .int a2), (3, .int a3), (4, .int a4)]) dX4_addMeeting_37 rfl rfl ?_
      refine ev_aload_n (pc := 39) 2 dX4_addMeeting_39 rfl ?_
      refine gf_X4_9 (pc := 40) rfl dX4_addMeeting_40 ?_
      refine ev_iload_n (pc := 43) 4 dX4_addMeeting_43 rfl ?_
      refine ev_callVI (pc := 44) (d := d) (As := [.int a2]) (st := []) cv_X3_lengthOf rfl w_162 rfl (Nat.le_of_ble_eq_true rfl) (ok_X3_lengthOf N (d) a2 I5 L6) dX4_addMeeting_44 (fun x8 I9 L10 => ?_)
      refine ev_aload_n (pc := 47) 2 dX4_addMeeting_47 rfl ?_
      refine gf_X4_21 (pc := 48) rfl dX4_addMeeting_48 ?_
      refine ev_alenI (pc := 51) 24 (by decide +kernel) kK_21 dX4_addMeeting_51 ?_
      refine ev_mmin (pc := 52) (d := d) w_218 w_134 w_131 w_135 (Nat.le_of_ble_eq_true rfl) dX4_addMeeting_52 ?_
      refine ev_nmI (fun x11 => ?_)
      refine ev_istore (pc := 55) (lv' := [(7, .int x11), (6, .int x7), (5, .ref 15), (0, .ref 4), (1, .int a1), (2, .int a2), (3, .int a3), (4, .int a4)]) dX4_addMeeting_55 rfl rfl ?_
      refine ev_aload_n (pc := 57) 3 dX4_addMeeting_57 rfl ?_
      refine gf_X4_9 (pc := 58) rfl dX4_addMeeting_58 ?_
      refine ev_iload_n (pc := 61) 4 dX4_addMeeting_61 rfl ?_
      refine ev_callVI (pc := 62) (d := d) (As := [.int a1]) (st := []) cv_X3_lengthOf rfl w_162 rfl (Nat.le_of_ble_eq_true rfl) (ok_X3_lengthOf N (d) a1 I9 L10) dX4_addMeeting_62 (fun x12 I13 L14 => ?_)
      refine ev_bipush (pc := 65) 24 k_bipush_24 dX4_addMeeting_65 ?_
      refine ev_mmin (pc := 67) (d := d) w_218 w_134 w_131 w_135 (Nat.le_of_ble_eq_true rfl) dX4_addMeeting_67 ?_
      refine ev_iload (pc := 70) 0 dX4_addMeeting_70 rfl ?_
      refine ev_iload_n (pc := 72) 6 dX4_addMeeting_72 rfl ?_
      refine ev_iadd (pc := 73) dX4_addMeeting_73 ?_
      refine ev_mmin (pc := 74) (d := d) w_218 w_134 w_131 w_135 (Nat.le_of_ble_eq_true rfl) dX4_addMeeting_74 ?_
      refine ev_nmI (fun x15 => ?_)
      refine ev_istore (pc := 77) (lv' := [(8, .int x15), (7, .int x11), (6, .int x7), (5, .ref 15), (0, .ref 4), (1, .int a1), (2, .int a2), (3, .int a3), (4, .int a4)]) dX4_addMeeting_77 rfl rfl ?_
      refine ev_iload (pc := 79) 2 dX4_addMeeting_79 rfl ?_
      refine ev_istore (pc := 81) (lv' := [(9, .int x7), (8, .int x15), (7, .int x11), (6, .int x7), (5, .ref 15), (0, .ref 4), (1, .int a1), (2, .int a2), (3, .int a3), (4, .int a4)]) dX4_addMeeting_81 rfl rfl ?_
      refine EvW.sub [5, 6, 7, 8, 9, 4, 1, 0] rfl ?_
      exact E_X4_addMeeting_83 N d N a1 a2 a3 a4 x15 x7 I13 L14
    · exact ev_vret (pc := 22) rfl dX4_addMeeting_22
def f_X4_power (N : Nat) (I : PI) (L : PL) : RES := some (some (.int (((I 4 4) * (I 4 4)) + ((I 4 5) * (I 4 5)))), I, L)
set_option maxRecDepth 100000 in
theorem ok_X4_power (N d : Nat) (I : PI) (L : PL) : MOk M_X4_power (d) [.ref 4] I L (f_X4_power N I L) := by
  refine MOk.of (by decide +kernel) (Nat.le_of_ble_eq_true rfl) ?_
  show EvW _ _ 0 [(0, .ref 4)] [] I L _
  rw [f_X4_power]
  refine ev_aload_n (pc := 0) 0 dX4_power_0 rfl ?_
  refine gf_X4_57 (pc := 1) rfl dX4_power_1 ?_
  refine ev_aload_n (pc := 4) 0 dX4_power_4 rfl ?_
  refine gf_X4_57 (pc := 5) rfl dX4_power_5 ?_
  refine ev_imul (pc := 8) dX4_power_8 ?_
  refine ev_aload_n (pc := 9) 0 dX4_power_9 rfl ?_
  refine gf_X4_61 (pc := 10) rfl dX4_power_10 ?_
  refine ev_aload_n (pc := 13) 0 dX4_power_13 rfl ?_
  refine gf_X4_61 (pc := 14) rfl dX4_power_14 ?_
  refine ev_imul (pc := 17) dX4_power_17 ?_
  refine ev_iadd (pc := 18) dX4_power_18 ?_
  exact ev_iret (pc := 19) rfl dX4_power_19
def f_X4_powerOf (N : Nat) (a1 : Int32) (a2 : Int32) (a3 : Int32) (a4 : Int32) (I : PI) (L : PL) : RES := nmW (uI I 4 4 0) (fun I1 => nmW (uI I1 4 5 0) (fun I2 => bV (f_X4_addMeeting N a1 a2 a3 a4 I2 L) (fun I4 L5 => bI (f_X4_power N I4 L5) (fun x6 I7 L8 => some (some (.int x6), I7, L8)))))
set_option maxRecDepth 100000 in
theorem ok_X4_powerOf (N d : Nat) (a1 : Int32) (a2 : Int32) (a3 : Int32) (a4 : Int32) (I : PI) (L : PL) : MOk M_X4_powerOf (d + 2) [.ref 4, .int a1, .int a2, .int a3, .int a4] I L (f_X4_powerOf N a1 a2 a3 a4 I L) := by
  refine MOk.of (by decide +kernel) (Nat.le_of_ble_eq_true rfl) ?_
  show EvW _ _ 0 [(0, .ref 4), (1, .int a1), (2, .int a2), (3, .int a3), (4, .int a4)] [] I L _
  rw [f_X4_powerOf]
  refine ev_aload_n (pc := 0) 0 dX4_powerOf_0 rfl ?_
  refine ev_iconst (pc := 1) 0 k_iconst_0 dX4_powerOf_1 ?_
  refine pf_X4_57 (pc := 2) rfl dX4_powerOf_2 ?_
  refine ev_nmW (fun I1 => ?_)
  refine ev_aload_n (pc := 5) 0 dX4_powerOf_5 rfl ?_
  refine ev_iconst (pc := 6) 0 k_iconst_0 dX4_powerOf_6 ?_
  refine pf_X4_61 (pc := 7) rfl dX4_powerOf_7 ?_
  refine ev_nmW (fun I2 => ?_)
  refine ev_aload_n (pc := 10) 0 dX4_powerOf_10 rfl ?_
  refine ev_iload_n (pc := 11) 1 dX4_powerOf_11 rfl ?_
  refine ev_iload_n (pc := 12) 2 dX4_powerOf_12 rfl ?_
  refine ev_iload_n (pc := 13) 3 dX4_powerOf_13 rfl ?_
  refine ev_iload (pc := 14) 4 dX4_powerOf_14 rfl ?_
  refine ev_callVV (pc := 16) (d := d + 1) (As := [.int a1, .int a2, .int a3, .int a4]) (st := []) cv_X4_addMeeting rfl w_222 rfl (Nat.le_of_ble_eq_true rfl) (ok_X4_addMeeting N (d) a1 a2 a3 a4 I2 L) dX4_powerOf_16 (fun I4 L5 => ?_)
  refine ev_aload_n (pc := 19) 0 dX4_powerOf_19 rfl ?_
  refine ev_callVI (pc := 20) (d := d + 1) (As := []) (st := []) cv_X4_power rfl w_226 rfl (Nat.le_of_ble_eq_true rfl) (ok_X4_power N (d + 1) I4 L5) dX4_powerOf_20 (fun x6 I7 L8 => ?_)
  exact ev_iret (pc := 23) rfl dX4_powerOf_23
def F_X4_greatestOf_15 (N : Nat) : Nat → Int32 → Int32 → Int32 → Int32 → Int32 → PI → PL → RES
  | 0, _, _, _, _, _, _, _ => none
  | n + 1, v1, v2, v3, v4, v5, I, L => bI (f_X3_lengthOf N v1 I L) (fun x5 I6 L7 => (if x5 ≤ v5 then some (some (.int v4), I6, L7) else bI (f_X4_powerOf N v1 v2 v5 v3 I6 L7) (fun x8 I9 L10 => nmI (jmax v4 x8) (fun x11 => (F_X4_greatestOf_15 N n) v1 v2 v3 x11 (v5 + 1) I9 L10))))
set_option maxRecDepth 100000 in
theorem E_X4_greatestOf_15 (N d : Nat) : ∀ (n : Nat) (v1 : Int32) (v2 : Int32) (v3 : Int32) (v4 : Int32) (v5 : Int32) (I : PI) (L : PL), EvW M_X4_greatestOf (d + 3) 15 [(0, .ref 4), (1, .int v1), (2, .int v2), (3, .int v3), (4, .int v4), (5, .int v5)] [] I L (F_X4_greatestOf_15 N n v1 v2 v3 v4 v5 I L) := by
  intro n
  induction n with
  | zero =>
    intro v1 v2 v3 v4 v5 I L
    exact EvW.none
  | succ n hr_15 =>
    intro v1 v2 v3 v4 v5 I L
    rw [F_X4_greatestOf_15]
    refine ev_iload (pc := 15) 5 dX4_greatestOf_15 rfl ?_
    refine ev_aload_n (pc := 17) 0 dX4_greatestOf_17 rfl ?_
    refine gf_X4_9 (pc := 18) rfl dX4_greatestOf_18 ?_
    refine ev_iload_n (pc := 21) 1 dX4_greatestOf_21 rfl ?_
    refine ev_callVI (pc := 22) (d := d + 2) (As := [.int v1]) (st := [.int v5]) cv_X3_lengthOf rfl w_162 rfl (Nat.le_of_ble_eq_true rfl) (ok_X3_lengthOf N (d + 2) v1 I L) dX4_greatestOf_22 (fun x5 I6 L7 => ?_)
    refine ev_icmp_ge (pc := 25) 50 (by decide) dX4_greatestOf_25 ?_ ?_
    · refine ev_iload (pc := 50) 4 dX4_greatestOf_50 rfl ?_
      exact ev_iret (pc := 52) rfl dX4_greatestOf_52
    · refine ev_iload (pc := 28) 4 dX4_greatestOf_28 rfl ?_
      refine ev_aload_n (pc := 30) 0 dX4_greatestOf_30 rfl ?_
      refine ev_iload_n (pc := 31) 1 dX4_greatestOf_31 rfl ?_
      refine ev_iload_n (pc := 32) 2 dX4_greatestOf_32 rfl ?_
      refine ev_iload (pc := 33) 5 dX4_greatestOf_33 rfl ?_
      refine ev_iload_n (pc := 35) 3 dX4_greatestOf_35 rfl ?_
      refine ev_callVI (pc := 36) (d := d + 2) (As := [.int v1, .int v2, .int v5, .int v3]) (st := [.int v4]) cv_X4_powerOf rfl w_230 rfl (Nat.le_of_ble_eq_true rfl) (ok_X4_powerOf N (d) v1 v2 v5 v3 I6 L7) dX4_greatestOf_36 (fun x8 I9 L10 => ?_)
      refine ev_mmax (pc := 39) (d := d + 2) w_217 w_130 w_131 w_132 (Nat.le_of_ble_eq_true rfl) dX4_greatestOf_39 ?_
      refine ev_nmI (fun x11 => ?_)
      refine ev_istore (pc := 42) (lv' := [(4, .int x11), (0, .ref 4), (1, .int v1), (2, .int v2), (3, .int v3), (5, .int v5)]) dX4_greatestOf_42 rfl rfl ?_
      refine ev_iinc (pc := 44) (lv' := [(5, .int (v5 + 1)), (4, .int x11), (0, .ref 4), (1, .int v1), (2, .int v2), (3, .int v3)]) dX4_greatestOf_44 5 rfl rfl 1 k_iconst_1 rfl ?_
      refine ev_goto (pc := 47) 15 (by decide) dX4_greatestOf_47 ?_
      refine EvW.sub [2, 3, 4, 5, 1, 0] rfl ?_
      exact hr_15 v1 v2 v3 x11 (v5 + 1) I9 L10
def f_X4_greatestOf (N : Nat) (a1 : Int32) (a2 : Int32) (a3 : Int32) (I : PI) (L : PL) : RES := bI (f_X3_lengthOf N a2 I L) (fun x1 I2 L3 => nmI (1 - x1) (fun x4 => F_X4_greatestOf_15 N N a1 a2 a3 0 x4 I2 L3))
set_option maxRecDepth 100000 in
theorem ok_X4_greatestOf (N d : Nat) (a1 : Int32) (a2 : Int32) (a3 : Int32) (I : PI) (L : PL) : MOk M_X4_greatestOf (d + 3) [.ref 4, .int a1, .int a2, .int a3] I L (f_X4_greatestOf N a1 a2 a3 I L) := by
  refine MOk.of (by decide +kernel) (Nat.le_of_ble_eq_true rfl) ?_
  show EvW _ _ 0 [(0, .ref 4), (1, .int a1), (2, .int a2), (3, .int a3)] [] I L _
  rw [f_X4_greatestOf]
  refine ev_iconst (pc := 0) 0 k_iconst_0 dX4_greatestOf_0 ?_
  refine ev_istore (pc := 1) (lv' := [(4, .int 0), (0, .ref 4), (1, .int a1), (2, .int a2), (3, .int a3)]) dX4_greatestOf_1 rfl rfl ?_
  refine ev_iconst (pc := 3) 1 k_iconst_1 dX4_greatestOf_3 ?_
  refine ev_aload_n (pc := 4) 1 dX4_greatestOf_4 rfl ?_
  refine gf_X4_9 (pc := 5) rfl dX4_greatestOf_5 ?_
  refine ev_iload_n (pc := 8) 3 dX4_greatestOf_8 rfl ?_
  refine ev_callVI (pc := 9) (d := d + 2) (As := [.int a2]) (st := [.int 1]) cv_X3_lengthOf rfl w_162 rfl (Nat.le_of_ble_eq_true rfl) (ok_X3_lengthOf N (d + 2) a2 I L) dX4_greatestOf_9 (fun x1 I2 L3 => ?_)
  refine ev_isub (pc := 12) dX4_greatestOf_12 ?_
  refine ev_nmI (fun x4 => ?_)
  refine ev_istore (pc := 13) (lv' := [(5, .int x4), (4, .int 0), (0, .ref 4), (1, .int a1), (2, .int a2), (3, .int a3)]) dX4_greatestOf_13 rfl rfl ?_
  refine EvW.sub [2, 3, 4, 5, 1, 0] rfl ?_
  exact E_X4_greatestOf_15 N d N a1 a2 a3 0 x4 I2 L3
def F_X4_learn_14 (N : Nat) : Nat → Int32 → Int32 → PI → PL → RES
  | 0, _, _, _, _ => none
  | n + 1, v1, v2, I, L => (if v1 < v2 then some (none, I, L) else bV (f_X4_weigh N v2 (-1 : Int32) I L) (fun I5 L6 => bI (f_X4_greatestOf N v1 v2 0 I5 L6) (fun x7 I8 L9 => gd (inb ((v1 * 8) + v2) 64) (nmW (uI I8 22 (Int32.toNatClampNeg ((v1 * 8) + v2)) x7) (fun I10 => gd (inb ((v2 * 8) + v1) 64) (nmW (uI I10 22 (Int32.toNatClampNeg ((v2 * 8) + v1)) x7) (fun I11 => (F_X4_learn_14 N n) v1 (v2 + 1) I11 L9)))))))
set_option maxRecDepth 100000 in
theorem E_X4_learn_14 (N d : Nat) : ∀ (n : Nat) (v1 : Int32) (v2 : Int32) (I : PI) (L : PL), EvW M_X4_learn (d + 7) 14 [(0, .ref 4), (1, .int v1), (2, .int v2)] [] I L (F_X4_learn_14 N n v1 v2 I L) := by
  intro n
  induction n with
  | zero =>
    intro v1 v2 I L
    exact EvW.none
  | succ n hr_14 =>
    intro v1 v2 I L
    rw [F_X4_learn_14]
    refine ev_iload_n (pc := 14) 2 dX4_learn_14 rfl ?_
    refine ev_iload_n (pc := 15) 1 dX4_learn_15 rfl ?_
    refine ev_icmp_gt (pc := 16) 63 (by decide) dX4_learn_16 ?_ ?_
    · exact ev_vret (pc := 63) rfl dX4_learn_63
    · refine ev_aload_n (pc := 19) 0 dX4_learn_19 rfl ?_
      refine ev_iload_n (pc := 20) 2 dX4_learn_20 rfl ?_
      refine ev_iconst (pc := 21) (-1 : Int32) k_iconst_m1 dX4_learn_21 ?_
      refine ev_callVV (pc := 22) (d := d + 6) (As := [.int v2, .int (-1 : Int32)]) (st := []) cv_X4_weigh rfl w_214 rfl (Nat.le_of_ble_eq_true rfl) (ok_X4_weigh N (d) v2 (-1 : Int32) I L) dX4_learn_22 (fun I5 L6 => ?_)
      refine ev_aload_n (pc := 25) 0 dX4_learn_25 rfl ?_
      refine ev_iload_n (pc := 26) 1 dX4_learn_26 rfl ?_
      refine ev_iload_n (pc := 27) 2 dX4_learn_27 rfl ?_
      refine ev_iconst (pc := 28) 0 k_iconst_0 dX4_learn_28 ?_
      refine ev_callVI (pc := 29) (d := d + 6) (As := [.int v1, .int v2, .int 0]) (st := []) cv_X4_greatestOf rfl w_234 rfl (Nat.le_of_ble_eq_true rfl) (ok_X4_greatestOf N (d + 3) v1 v2 0 I5 L6) dX4_learn_29 (fun x7 I8 L9 => ?_)
      refine ev_istore_n (pc := 32) (lv' := [(3, .int x7), (0, .ref 4), (1, .int v1), (2, .int v2)]) dX4_learn_32 rfl rfl rfl ?_
      refine ev_aload_n (pc := 33) 1 dX4_learn_33 rfl ?_
      refine gf_X4_25 (pc := 34) rfl dX4_learn_34 ?_
      refine ev_iload_n (pc := 37) 2 dX4_learn_37 rfl ?_
      refine ev_bipush (pc := 38) 8 k_bipush_8 dX4_learn_38 ?_
      refine ev_imul (pc := 40) dX4_learn_40 ?_
      refine ev_iload_n (pc := 41) 3 dX4_learn_41 rfl ?_
      refine ev_iadd (pc := 42) dX4_learn_42 ?_
      refine ev_iload_n (pc := 43) 0 dX4_learn_43 rfl ?_
      refine ev_iast (pc := 44) kK_22 dX4_learn_44 ?_
      refine ev_nmW (fun I10 => ?_)
      refine ev_aload_n (pc := 45) 1 dX4_learn_45 rfl ?_
      refine gf_X4_25 (pc := 46) rfl dX4_learn_46 ?_
      refine ev_iload_n (pc := 49) 3 dX4_learn_49 rfl ?_
      refine ev_bipush (pc := 50) 8 k_bipush_8 dX4_learn_50 ?_
      refine ev_imul (pc := 52) dX4_learn_52 ?_
      refine ev_iload_n (pc := 53) 2 dX4_learn_53 rfl ?_
      refine ev_iadd (pc := 54) dX4_learn_54 ?_
      refine ev_iload_n (pc := 55) 0 dX4_learn_55 rfl ?_
      refine ev_iast (pc := 56) kK_22 dX4_learn_56 ?_
      refine ev_nmW (fun I11 => ?_)
      refine ev_iinc (pc := 57) (lv' := [(2, .int (v2 + 1)), (3, .int x7), (0, .ref 4), (1, .int v1)]) dX4_learn_57 3 rfl rfl 1 k_iconst_1 rfl ?_
      refine ev_goto (pc := 60) 14 (by decide) dX4_learn_60 ?_
      refine EvW.sub [2, 3, 0] rfl ?_
      exact hr_14 v1 (v2 + 1) I11 L9
def f_X4_learn (N : Nat) (a1 : Int32) (I : PI) (L : PL) : RES := bI (f_X3_has N a1 I L) (fun x1 I2 L3 => (if x1 = 0 then some (none, I2, L3) else F_X4_learn_14 N N a1 0 I2 L3))
set_option maxRecDepth 100000 in
theorem ok_X4_learn (N d : Nat) (a1 : Int32) (I : PI) (L : PL) : MOk M_X4_learn (d + 7) [.ref 4, .int a1] I L (f_X4_learn N a1 I L) := by
  refine MOk.of (by decide +kernel) (Nat.le_of_ble_eq_true rfl) ?_
  show EvW _ _ 0 [(0, .ref 4), (1, .int a1)] [] I L _
  rw [f_X4_learn]
  refine ev_aload_n (pc := 0) 0 dX4_learn_0 rfl ?_
  refine gf_X4_9 (pc := 1) rfl dX4_learn_1 ?_
  refine ev_iload_n (pc := 4) 1 dX4_learn_4 rfl ?_
  refine ev_callVI (pc := 5) (d := d + 6) (As := [.int a1]) (st := []) cv_X3_has rfl w_158 rfl (Nat.le_of_ble_eq_true rfl) (ok_X3_has N (d + 6) a1 I L) dX4_learn_5 (fun x1 I2 L3 => ?_)
  refine ev_if_ne (pc := 8) 12 (by decide) dX4_learn_8 ?_ ?_
  · refine ev_iconst (pc := 12) 0 k_iconst_0 dX4_learn_12 ?_
    refine ev_istore_n (pc := 13) (lv' := [(2, .int 0), (0, .ref 4), (1, .int a1)]) dX4_learn_13 rfl rfl rfl ?_
    refine EvW.sub [1, 2, 0] rfl ?_
    exact E_X4_learn_14 N d N a1 0 I2 L3
  · exact ev_vret (pc := 11) rfl dX4_learn_11
def f_X8_keep (N : Nat) (I : PI) (L : PL) : RES := (if (I 8 6) < 6 then nmW (uI I 8 6 ((I 8 6) + 1)) (fun I1 => some (some (.int ((I1 8 6) - 1)), I1, L)) else some (some (.int (-1 : Int32)), I, L))
set_option maxRecDepth 100000 in
theorem ok_X8_keep (N d : Nat) (I : PI) (L : PL) : MOk M_X8_keep (d) [.ref 8] I L (f_X8_keep N I L) := by
  refine MOk.of (by decide +kernel) (Nat.le_of_ble_eq_true rfl) ?_
  show EvW _ _ 0 [(0, .ref 8)] [] I L _
  rw [f_X8_keep]
  refine ev_aload_n (pc := 0) 0 dX8_keep_0 rfl ?_
  refine gf_X8_37 (pc := 1) rfl dX8_keep_1 ?_
  refine ev_bipush (pc := 4) 6 k_bipush_6 dX8_keep_4 ?_
  refine ev_icmp_lt (pc := 6) 11 (by decide) dX8_keep_6 ?_ ?_
  · refine ev_aload_n (pc := 11) 0 dX8_keep_11 rfl ?_
    refine ev_dup (pc := 12) rfl dX8_keep_12 ?_
    refine gf_X8_37 (pc := 13) rfl dX8_keep_13 ?_
    refine ev_iconst (pc := 16) 1 k_iconst_1 dX8_keep_16 ?_
    refine ev_iadd (pc := 17) dX8_keep_17 ?_
    refine pf_X8_37 (pc := 18) rfl dX8_keep_18 ?_
    refine ev_nmW (fun I1 => ?_)
    refine ev_aload_n (pc := 21) 0 dX8_keep_21 rfl ?_
    refine gf_X8_37 (pc := 22) rfl dX8_keep_22 ?_
    refine ev_iconst (pc := 25) 1 k_iconst_1 dX8_keep_25 ?_
    refine ev_isub (pc := 26) dX8_keep_26 ?_
    exact ev_iret (pc := 27) rfl dX8_keep_27
  · refine ev_iconst (pc := 9) (-1 : Int32) k_iconst_m1 dX8_keep_9 ?_
    exact ev_iret (pc := 10) rfl dX8_keep_10
def F_X7_keep_23 (N : Nat) : Nat → Int32 → Int32 → PI → PL → RES
  | 0, _, _, _, _ => none
  | n + 1, v2, v3, I, L => (if v2 ≤ v3 then gd (inb (I 7 4) 6) (nmW (uI I 19 (Int32.toNatClampNeg (I 7 4)) v2) (fun I2 => nmW (uI I2 7 4 ((I2 7 4) + 1)) (fun I3 => some (some (.int ((I3 7 4) - 1)), I3, L)))) else gd (inb v3 120) (gd (inb (((I 7 4) * 120) + v3) 720) (nmW (uI I 18 (Int32.toNatClampNeg (((I 7 4) * 120) + v3)) (I 17 (Int32.toNatClampNeg v3))) (fun I4 => (F_X7_keep_23 N n) v2 (v3 + 1) I4 L))))
set_option maxRecDepth 100000 in
theorem E_X7_keep_23 (N d : Nat) : ∀ (n : Nat) (v2 : Int32) (v3 : Int32) (I : PI) (L : PL), EvW M_X7_keep (d + 1) 23 [(0, .ref 7), (1, .ref 6), (2, .int v2), (3, .int v3)] [] I L (F_X7_keep_23 N n v2 v3 I L) := by
  intro n
  induction n with
  | zero =>
    intro v2 v3 I L
    exact EvW.none
  | succ n hr_23 =>
    intro v2 v3 I L
    rw [F_X7_keep_23]
    refine ev_iload_n (pc := 23) 3 dX7_keep_23 rfl ?_
    refine ev_iload_n (pc := 24) 2 dX7_keep_24 rfl ?_
    refine ev_icmp_ge (pc := 25) 54 (by decide) dX7_keep_25 ?_ ?_
    · refine ev_aload_n (pc := 54) 0 dX7_keep_54 rfl ?_
      refine gf_X7_17 (pc := 55) rfl dX7_keep_55 ?_
      refine ev_aload_n (pc := 58) 0 dX7_keep_58 rfl ?_
      refine gf_X7_23 (pc := 59) rfl dX7_keep_59 ?_
      refine ev_iload_n (pc := 62) 2 dX7_keep_62 rfl ?_
      refine ev_iast (pc := 63) kK_19 dX7_keep_63 ?_
      refine ev_nmW (fun I2 => ?_)
      refine ev_aload_n (pc := 64) 0 dX7_keep_64 rfl ?_
      refine ev_dup (pc := 65) rfl dX7_keep_65 ?_
      refine gf_X7_23 (pc := 66) rfl dX7_keep_66 ?_
      refine ev_iconst (pc := 69) 1 k_iconst_1 dX7_keep_69 ?_
      refine ev_iadd (pc := 70) dX7_keep_70 ?_
      refine pf_X7_23 (pc := 71) rfl dX7_keep_71 ?_
      refine ev_nmW (fun I3 => ?_)
      refine ev_aload_n (pc := 74) 0 dX7_keep_74 rfl ?_
      refine gf_X7_23 (pc := 75) rfl dX7_keep_75 ?_
      refine ev_iconst (pc := 78) 1 k_iconst_1 dX7_keep_78 ?_
      refine ev_isub (pc := 79) dX7_keep_79 ?_
      exact ev_iret (pc := 80) rfl dX7_keep_80
    · refine ev_aload_n (pc := 28) 0 dX7_keep_28 rfl ?_
      refine gf_X7_13 (pc := 29) rfl dX7_keep_29 ?_
      refine ev_aload_n (pc := 32) 0 dX7_keep_32 rfl ?_
      refine gf_X7_23 (pc := 33) rfl dX7_keep_33 ?_
      refine ev_bipush (pc := 36) 120 k_bipush_120 dX7_keep_36 ?_
      refine ev_imul (pc := 38) dX7_keep_38 ?_
      refine ev_iload_n (pc := 39) 3 dX7_keep_39 rfl ?_
      refine ev_iadd (pc := 40) dX7_keep_40 ?_
      refine ev_aload_n (pc := 41) 1 dX7_keep_41 rfl ?_
      refine gf_X7_38 (pc := 42) rfl dX7_keep_42 ?_
      refine ev_iload_n (pc := 45) 3 dX7_keep_45 rfl ?_
      refine ev_iald (pc := 46) kK_17 dX7_keep_46 ?_
      refine ev_iast (pc := 47) kK_18 dX7_keep_47 ?_
      refine ev_nmW (fun I4 => ?_)
      refine ev_iinc (pc := 48) (lv' := [(3, .int (v3 + 1)), (0, .ref 7), (1, .ref 6), (2, .int v2)]) dX7_keep_48 3 rfl rfl 1 k_iconst_1 rfl ?_
      refine ev_goto (pc := 51) 23 (by decide) dX7_keep_51 ?_
      refine EvW.sub [1, 2, 3, 0] rfl ?_
      exact hr_23 v2 (v3 + 1) I4 L
def f_X7_keep (N : Nat) (I : PI) (L : PL) : RES := (if (I 7 4) < 6 then nmI (jmin (I 6 2) 120) (fun x1 => F_X7_keep_23 N N x1 0 I L) else some (some (.int (-1 : Int32)), I, L))
set_option maxRecDepth 100000 in
theorem ok_X7_keep (N d : Nat) (I : PI) (L : PL) : MOk M_X7_keep (d + 1) [.ref 7, .ref 6] I L (f_X7_keep N I L) := by
  refine MOk.of (by decide +kernel) (Nat.le_of_ble_eq_true rfl) ?_
  show EvW _ _ 0 [(0, .ref 7), (1, .ref 6)] [] I L _
  rw [f_X7_keep]
  refine ev_aload_n (pc := 0) 0 dX7_keep_0 rfl ?_
  refine gf_X7_23 (pc := 1) rfl dX7_keep_1 ?_
  refine ev_bipush (pc := 4) 6 k_bipush_6 dX7_keep_4 ?_
  refine ev_icmp_lt (pc := 6) 11 (by decide) dX7_keep_6 ?_ ?_
  · refine ev_aload_n (pc := 11) 1 dX7_keep_11 rfl ?_
    refine gf_X7_27 (pc := 12) rfl dX7_keep_12 ?_
    refine ev_bipush (pc := 15) 120 k_bipush_120 dX7_keep_15 ?_
    refine ev_mmin (pc := 17) (d := d) w_201 w_134 w_131 w_135 (Nat.le_of_ble_eq_true rfl) dX7_keep_17 ?_
    refine ev_nmI (fun x1 => ?_)
    refine ev_istore_n (pc := 20) (lv' := [(2, .int x1), (0, .ref 7), (1, .ref 6)]) dX7_keep_20 rfl rfl rfl ?_
    refine ev_iconst (pc := 21) 0 k_iconst_0 dX7_keep_21 ?_
    refine ev_istore_n (pc := 22) (lv' := [(3, .int 0), (2, .int x1), (0, .ref 7), (1, .ref 6)]) dX7_keep_22 rfl rfl rfl ?_
    refine EvW.sub [2, 3, 1, 0] rfl ?_
    exact E_X7_keep_23 N d N x1 0 I L
  · refine ev_iconst (pc := 9) (-1 : Int32) k_iconst_m1 dX7_keep_9 ?_
    exact ev_iret (pc := 10) rfl dX7_keep_10
def f_X11_keep (N : Nat) (a1 : Int32) (I : PI) (L : PL) : RES := (if a1 = 1 then bI (f_X7_keep N I L) (fun x10 I11 L12 => some (some (.int x10), I11, L12)) else (if a1 = 2 then bI (f_X8_keep N I L) (fun x7 I8 L9 => some (some (.int x7), I8, L9)) else bI (f_X3_keep N I L) (fun x1 I2 L3 => (if x1 = (-1 : Int32) then some (some (.int x1), I2, L3) else bV (f_X4_learn N x1 I2 L3) (fun I5 L6 => some (some (.int x1), I5, L6))))))
set_option maxRecDepth 100000 in
theorem ok_X11_keep (N d : Nat) (a1 : Int32) (I : PI) (L : PL) : MOk M_X11_keep (d + 8) [.ref 11, .int a1] I L (f_X11_keep N a1 I L) := by
  refine MOk.of (by decide +kernel) (Nat.le_of_ble_eq_true rfl) ?_
  show EvW _ _ 0 [(0, .ref 11), (1, .int a1)] [] I L _
  rw [f_X11_keep]
  refine ev_iload_n (pc := 0) 1 dX11_keep_0 rfl ?_
  refine ev_iconst (pc := 1) 1 k_iconst_1 dX11_keep_1 ?_
  refine ev_icmp_ne (pc := 2) 17 (by decide) dX11_keep_2 ?_ ?_
  · refine ev_iload_n (pc := 17) 1 dX11_keep_17 rfl ?_
    refine ev_iconst (pc := 18) 2 k_iconst_2 dX11_keep_18 ?_
    refine ev_icmp_ne (pc := 19) 30 (by decide) dX11_keep_19 ?_ ?_
    · refine ev_aload_n (pc := 30) 0 dX11_keep_30 rfl ?_
      refine gf_X11_23 (pc := 31) rfl dX11_keep_31 ?_
      refine ev_callVI (pc := 34) (d := d + 7) (As := []) (st := []) cv_X3_keep rfl w_152 rfl (Nat.le_of_ble_eq_true rfl) (ok_X3_keep N (d + 7) I L) dX11_keep_34 (fun x1 I2 L3 => ?_)
      refine ev_istore_n (pc := 37) (lv' := [(2, .int x1), (0, .ref 11), (1, .int a1)]) dX11_keep_37 rfl rfl rfl ?_
      refine ev_iload_n (pc := 38) 0 dX11_keep_38 rfl ?_
      refine ev_iconst (pc := 39) (-1 : Int32) k_iconst_m1 dX11_keep_39 ?_
      refine ev_icmp_eq (pc := 40) 51 (by decide) dX11_keep_40 ?_ ?_
      · refine ev_iload_n (pc := 51) 0 dX11_keep_51 rfl ?_
        exact ev_iret (pc := 52) rfl dX11_keep_52
      · refine ev_aload_n (pc := 43) 1 dX11_keep_43 rfl ?_
        refine gf_X11_48 (pc := 44) rfl dX11_keep_44 ?_
        refine ev_iload_n (pc := 47) 0 dX11_keep_47 rfl ?_
        refine ev_callVV (pc := 48) (d := d + 7) (As := [.int x1]) (st := []) cv_X4_learn rfl w_239 rfl (Nat.le_of_ble_eq_true rfl) (ok_X4_learn N (d) x1 I2 L3) dX11_keep_48 (fun I5 L6 => ?_)
        refine ev_iload_n (pc := 51) 0 dX11_keep_51 rfl ?_
        exact ev_iret (pc := 52) rfl dX11_keep_52
    · refine ev_aload_n (pc := 22) 0 dX11_keep_22 rfl ?_
      refine gf_X11_66 (pc := 23) rfl dX11_keep_23 ?_
      refine ev_callVI (pc := 26) (d := d + 7) (As := []) (st := []) cv_X8_keep rfl w_243 rfl (Nat.le_of_ble_eq_true rfl) (ok_X8_keep N (d + 7) I L) dX11_keep_26 (fun x7 I8 L9 => ?_)
      exact ev_iret (pc := 29) rfl dX11_keep_29
  · refine ev_aload_n (pc := 5) 0 dX11_keep_5 rfl ?_
    refine gf_X11_39 (pc := 6) rfl dX11_keep_6 ?_
    refine ev_aload_n (pc := 9) 0 dX11_keep_9 rfl ?_
    refine gf_X11_32 (pc := 10) rfl dX11_keep_10 ?_
    refine ev_callVI (pc := 13) (d := d + 7) (As := [.ref 6]) (st := []) cv_X7_keep rfl w_248 rfl (Nat.le_of_ble_eq_true rfl) (ok_X7_keep N (d + 6) I L) dX11_keep_13 (fun x10 I11 L12 => ?_)
    exact ev_iret (pc := 16) rfl dX11_keep_16
def f_X11_text (N : Nat) (a1 : Int32) (I : PI) (L : PL) : RES := bI (f_X11_isSort N a1 I L) (fun x1 I2 L3 => (if x1 = 0 then some (some (.int (-1 : Int32)), I2, L3) else bI (f_X11_faultOf N a1 I2 L3) (fun x4 I5 L6 => (if x4 = (-1 : Int32) then bI (f_X11_keep N a1 I5 L6) (fun x7 I8 L9 => (if x7 = (-1 : Int32) then some (some (.int x7), I8, L9) else bI (f_X10_cutTo N 0 I8 L9) (fun x10 I11 L12 => some (some (.int x7), I11, L12)))) else some (some (.int (-1 : Int32)), I5, L6)))))
set_option maxRecDepth 100000 in
theorem ok_X11_text (N d : Nat) (a1 : Int32) (I : PI) (L : PL) : MOk M_X11_text (d + 107) [.ref 11, .int a1] I L (f_X11_text N a1 I L) := by
  refine MOk.of (by decide +kernel) (Nat.le_of_ble_eq_true rfl) ?_
  show EvW _ _ 0 [(0, .ref 11), (1, .int a1)] [] I L _
  rw [f_X11_text]
  refine ev_iload_n (pc := 0) 1 dX11_text_0 rfl ?_
  refine ev_callSI (pc := 1) (d := d + 106) (As := [.int a1]) (st := []) cv_X11_isSort rfl w_21 rfl (Nat.le_of_ble_eq_true rfl) (ok_X11_isSort N (d + 105) a1 I L) dX11_text_1 (fun x1 I2 L3 => ?_)
  refine ev_if_eq (pc := 4) 16 (by decide) dX11_text_4 ?_ ?_
  · refine ev_iconst (pc := 16) (-1 : Int32) k_iconst_m1 dX11_text_16 ?_
    exact ev_iret (pc := 17) rfl dX11_text_17
  · refine ev_aload_n (pc := 7) 0 dX11_text_7 rfl ?_
    refine ev_iload_n (pc := 8) 1 dX11_text_8 rfl ?_
    refine ev_callVI (pc := 9) (d := d + 106) (As := [.int a1]) (st := []) cv_X11_faultOf rfl w_148 rfl (Nat.le_of_ble_eq_true rfl) (ok_X11_faultOf N (d) a1 I2 L3) dX11_text_9 (fun x4 I5 L6 => ?_)
    refine ev_iconst (pc := 12) (-1 : Int32) k_iconst_m1 dX11_text_12 ?_
    refine ev_icmp_eq (pc := 13) 18 (by decide) dX11_text_13 ?_ ?_
    · refine ev_aload_n (pc := 18) 0 dX11_text_18 rfl ?_
      refine ev_iload_n (pc := 19) 1 dX11_text_19 rfl ?_
      refine ev_callVI (pc := 20) (d := d + 106) (As := [.int a1]) (st := []) cv_X11_keep rfl w_252 rfl (Nat.le_of_ble_eq_true rfl) (ok_X11_keep N (d + 98) a1 I5 L6) dX11_text_20 (fun x7 I8 L9 => ?_)
      refine ev_istore_n (pc := 23) (lv' := [(2, .int x7), (0, .ref 11), (1, .int a1)]) dX11_text_23 rfl rfl rfl ?_
      refine ev_iload_n (pc := 24) 0 dX11_text_24 rfl ?_
      refine ev_iconst (pc := 25) (-1 : Int32) k_iconst_m1 dX11_text_25 ?_
      refine ev_icmp_eq (pc := 26) 38 (by decide) dX11_text_26 ?_ ?_
      · refine ev_iload_n (pc := 38) 0 dX11_text_38 rfl ?_
        exact ev_iret (pc := 39) rfl dX11_text_39
      · refine ev_aload_n (pc := 29) 1 dX11_text_29 rfl ?_
        refine gf_X11_16 (pc := 30) rfl dX11_text_30 ?_
        refine ev_iconst (pc := 33) 0 k_iconst_0 dX11_text_33 ?_
        refine ev_callVI (pc := 34) (d := d + 106) (As := [.int 0]) (st := []) cv_X10_cutTo rfl w_14 rfl (Nat.le_of_ble_eq_true rfl) (ok_X10_cutTo N (d + 106) 0 I8 L9) dX11_text_34 (fun x10 I11 L12 => ?_)
        refine ev_pop (pc := 37) rfl dX11_text_37 ?_
        refine ev_iload_n (pc := 38) 0 dX11_text_38 rfl ?_
        exact ev_iret (pc := 39) rfl dX11_text_39
    · refine ev_iconst (pc := 16) (-1 : Int32) k_iconst_m1 dX11_text_16 ?_
      exact ev_iret (pc := 17) rfl dX11_text_17
def f_X8_has (N : Nat) (a1 : Int32) (I : PI) (L : PL) : RES := (if a1 < 0 then gd (decide (0 &&& 1 = 0)) (some (some (.int 0), I, L)) else (if (I 8 6) ≤ a1 then gd (decide (0 &&& 1 = 0)) (some (some (.int 0), I, L)) else gd (decide (1 &&& 1 = 1)) (some (some (.int 1), I, L))))
set_option maxRecDepth 100000 in
theorem ok_X8_has (N d : Nat) (a1 : Int32) (I : PI) (L : PL) : MOk M_X8_has (d) [.ref 8, .int a1] I L (f_X8_has N a1 I L) := by
  refine MOk.of (by decide +kernel) (Nat.le_of_ble_eq_true rfl) ?_
  show EvW _ _ 0 [(0, .ref 8), (1, .int a1)] [] I L _
  rw [f_X8_has]
  refine ev_iload_n (pc := 0) 1 dX8_has_0 rfl ?_
  refine ev_if_lt (pc := 1) 16 (by decide) dX8_has_1 ?_ ?_
  · refine ev_iconst (pc := 16) 0 k_iconst_0 dX8_has_16 ?_
    exact ev_zret (pc := 17) rfl dX8_has_17
  · refine ev_iload_n (pc := 4) 1 dX8_has_4 rfl ?_
    refine ev_aload_n (pc := 5) 0 dX8_has_5 rfl ?_
    refine gf_X8_37 (pc := 6) rfl dX8_has_6 ?_
    refine ev_icmp_ge (pc := 9) 16 (by decide) dX8_has_9 ?_ ?_
    · refine ev_iconst (pc := 16) 0 k_iconst_0 dX8_has_16 ?_
      exact ev_zret (pc := 17) rfl dX8_has_17
    · refine ev_iconst (pc := 12) 1 k_iconst_1 dX8_has_12 ?_
      refine ev_goto (pc := 13) 17 (by decide) dX8_has_13 ?_
      exact ev_zret (pc := 17) rfl dX8_has_17
def f_X8_number (N : Nat) (a1 : Int32) (a2 : Int32) (I : PI) (L : PL) : RES := bI (f_X8_has N a1 I L) (fun x1 I2 L3 => (if x1 = 0 then some (some (.int (-1 : Int32)), I2, L3) else (if a2 < 0 then some (some (.int (-1 : Int32)), I2, L3) else gd (inb a1 7) ((if (I2 26 (Int32.toNatClampNeg a1)) ≤ a2 then some (some (.int (-1 : Int32)), I2, L3) else gd (inb ((a1 * 8) + a2) 56) (some (some (.int (I2 25 (Int32.toNatClampNeg ((a1 * 8) + a2)))), I2, L3)))))))
set_option maxRecDepth 100000 in
theorem ok_X8_number (N d : Nat) (a1 : Int32) (a2 : Int32) (I : PI) (L : PL) : MOk M_X8_number (d + 1) [.ref 8, .int a1, .int a2] I L (f_X8_number N a1 a2 I L) := by
  refine MOk.of (by decide +kernel) (Nat.le_of_ble_eq_true rfl) ?_
  show EvW _ _ 0 [(0, .ref 8), (1, .int a1), (2, .int a2)] [] I L _
  rw [f_X8_number]
  refine ev_aload_n (pc := 0) 0 dX8_number_0 rfl ?_
  refine ev_iload_n (pc := 1) 1 dX8_number_1 rfl ?_
  refine ev_callVI (pc := 2) (d := d) (As := [.int a1]) (st := []) cv_X8_has rfl w_257 rfl (Nat.le_of_ble_eq_true rfl) (ok_X8_has N (d) a1 I L) dX8_number_2 (fun x1 I2 L3 => ?_)
  refine ev_if_eq (pc := 5) 36 (by decide) dX8_number_5 ?_ ?_
  · refine ev_iconst (pc := 36) (-1 : Int32) k_iconst_m1 dX8_number_36 ?_
    exact ev_iret (pc := 37) rfl dX8_number_37
  · refine ev_iload_n (pc := 8) 2 dX8_number_8 rfl ?_
    refine ev_if_lt (pc := 9) 36 (by decide) dX8_number_9 ?_ ?_
    · refine ev_iconst (pc := 36) (-1 : Int32) k_iconst_m1 dX8_number_36 ?_
      exact ev_iret (pc := 37) rfl dX8_number_37
    · refine ev_iload_n (pc := 12) 2 dX8_number_12 rfl ?_
      refine ev_aload_n (pc := 13) 0 dX8_number_13 rfl ?_
      refine gf_X8_18 (pc := 14) rfl dX8_number_14 ?_
      refine ev_iload_n (pc := 17) 1 dX8_number_17 rfl ?_
      refine ev_iald (pc := 18) kK_26 dX8_number_18 ?_
      refine ev_icmp_ge (pc := 19) 36 (by decide) dX8_number_19 ?_ ?_
      · refine ev_iconst (pc := 36) (-1 : Int32) k_iconst_m1 dX8_number_36 ?_
        exact ev_iret (pc := 37) rfl dX8_number_37
      · refine ev_aload_n (pc := 22) 0 dX8_number_22 rfl ?_
        refine gf_X8_15 (pc := 23) rfl dX8_number_23 ?_
        refine ev_iload_n (pc := 26) 1 dX8_number_26 rfl ?_
        refine ev_bipush (pc := 27) 8 k_bipush_8 dX8_number_27 ?_
        refine ev_imul (pc := 29) dX8_number_29 ?_
        refine ev_iload_n (pc := 30) 2 dX8_number_30 rfl ?_
        refine ev_iadd (pc := 31) dX8_number_31 ?_
        refine ev_iald (pc := 32) kK_25 dX8_number_32 ?_
        refine ev_goto (pc := 33) 37 (by decide) dX8_number_33 ?_
        exact ev_iret (pc := 37) rfl dX8_number_37
def f_X8_lengthOf (N : Nat) (a1 : Int32) (I : PI) (L : PL) : RES := (if a1 < 0 then some (some (.int 0), I, L) else (if 7 ≤ a1 then some (some (.int 0), I, L) else gd (inb a1 7) (some (some (.int (I 26 (Int32.toNatClampNeg a1))), I, L))))
set_option maxRecDepth 100000 in
theorem ok_X8_lengthOf (N d : Nat) (a1 : Int32) (I : PI) (L : PL) : MOk M_X8_lengthOf (d) [.ref 8, .int a1] I L (f_X8_lengthOf N a1 I L) := by
  refine MOk.of (by decide +kernel) (Nat.le_of_ble_eq_true rfl) ?_
  show EvW _ _ 0 [(0, .ref 8), (1, .int a1)] [] I L _
  rw [f_X8_lengthOf]
  refine ev_iload_n (pc := 0) 1 dX8_lengthOf_0 rfl ?_
  refine ev_if_lt (pc := 1) 22 (by decide) dX8_lengthOf_1 ?_ ?_
  · refine ev_iconst (pc := 22) 0 k_iconst_0 dX8_lengthOf_22 ?_
    exact ev_iret (pc := 23) rfl dX8_lengthOf_23
  · refine ev_iload_n (pc := 4) 1 dX8_lengthOf_4 rfl ?_
    refine ev_aload_n (pc := 5) 0 dX8_lengthOf_5 rfl ?_
    refine gf_X8_18 (pc := 6) rfl dX8_lengthOf_6 ?_
    refine ev_alenI (pc := 9) 7 (by decide +kernel) kK_26 dX8_lengthOf_9 ?_
    refine ev_icmp_ge (pc := 10) 22 (by decide) dX8_lengthOf_10 ?_ ?_
    · refine ev_iconst (pc := 22) 0 k_iconst_0 dX8_lengthOf_22 ?_
      exact ev_iret (pc := 23) rfl dX8_lengthOf_23
    · refine ev_aload_n (pc := 13) 0 dX8_lengthOf_13 rfl ?_
      refine gf_X8_18 (pc := 14) rfl dX8_lengthOf_14 ?_
      refine ev_iload_n (pc := 17) 1 dX8_lengthOf_17 rfl ?_
      refine ev_iald (pc := 18) kK_26 dX8_lengthOf_18 ?_
      refine ev_goto (pc := 19) 23 (by decide) dX8_lengthOf_19 ?_
      exact ev_iret (pc := 23) rfl dX8_lengthOf_23
def f_X11_rest (N : Nat) (a1 : Int32) (a2 : Int32) (I : PI) (L : PL) : RES := bI (f_X8_has N a1 I L) (fun x1 I2 L3 => (if x1 = 0 then some (some (.int (-1 : Int32)), I2, L3) else (if (-1 : Int32) ≤ a2 then (if a2 = (-1 : Int32) then bI (f_X8_lengthOf N a1 I2 L3) (fun x7 I8 L9 => some (some (.int x7), I8, L9)) else bI (f_X8_number N a1 a2 I2 L3) (fun x4 I5 L6 => some (some (.int x4), I5, L6))) else some (some (.int (-1 : Int32)), I2, L3))))
set_option maxRecDepth 100000 in
theorem ok_X11_rest (N d : Nat) (a1 : Int32) (a2 : Int32) (I : PI) (L : PL) : MOk M_X11_rest (d + 2) [.ref 11, .int a1, .int a2] I L (f_X11_rest N a1 a2 I L) := by
  refine MOk.of (by decide +kernel) (Nat.le_of_ble_eq_true rfl) ?_
  show EvW _ _ 0 [(0, .ref 11), (1, .int a1), (2, .int a2)] [] I L _
  rw [f_X11_rest]
  refine ev_aload_n (pc := 0) 0 dX11_rest_0 rfl ?_
  refine gf_X11_66 (pc := 1) rfl dX11_rest_1 ?_
  refine ev_iload_n (pc := 4) 1 dX11_rest_4 rfl ?_
  refine ev_callVI (pc := 5) (d := d + 1) (As := [.int a1]) (st := []) cv_X8_has rfl w_256 rfl (Nat.le_of_ble_eq_true rfl) (ok_X8_has N (d + 1) a1 I L) dX11_rest_5 (fun x1 I2 L3 => ?_)
  refine ev_if_eq (pc := 8) 16 (by decide) dX11_rest_8 ?_ ?_
  · refine ev_iconst (pc := 16) (-1 : Int32) k_iconst_m1 dX11_rest_16 ?_
    exact ev_iret (pc := 17) rfl dX11_rest_17
  · refine ev_iload_n (pc := 11) 2 dX11_rest_11 rfl ?_
    refine ev_iconst (pc := 12) (-1 : Int32) k_iconst_m1 dX11_rest_12 ?_
    refine ev_icmp_ge (pc := 13) 18 (by decide) dX11_rest_13 ?_ ?_
    · refine ev_iload_n (pc := 18) 2 dX11_rest_18 rfl ?_
      refine ev_iconst (pc := 19) (-1 : Int32) k_iconst_m1 dX11_rest_19 ?_
      refine ev_icmp_ne (pc := 20) 34 (by decide) dX11_rest_20 ?_ ?_
      · refine ev_aload_n (pc := 34) 0 dX11_rest_34 rfl ?_
        refine gf_X11_66 (pc := 35) rfl dX11_rest_35 ?_
        refine ev_iload_n (pc := 38) 1 dX11_rest_38 rfl ?_
        refine ev_iload_n (pc := 39) 2 dX11_rest_39 rfl ?_
        refine ev_callVI (pc := 40) (d := d + 1) (As := [.int a1, .int a2]) (st := []) cv_X8_number rfl w_261 rfl (Nat.le_of_ble_eq_true rfl) (ok_X8_number N (d) a1 a2 I2 L3) dX11_rest_40 (fun x4 I5 L6 => ?_)
        exact ev_iret (pc := 43) rfl dX11_rest_43
      · refine ev_aload_n (pc := 23) 0 dX11_rest_23 rfl ?_
        refine gf_X11_66 (pc := 24) rfl dX11_rest_24 ?_
        refine ev_iload_n (pc := 27) 1 dX11_rest_27 rfl ?_
        refine ev_callVI (pc := 28) (d := d + 1) (As := [.int a1]) (st := []) cv_X8_lengthOf rfl w_265 rfl (Nat.le_of_ble_eq_true rfl) (ok_X8_lengthOf N (d + 1) a1 I2 L3) dX11_rest_28 (fun x7 I8 L9 => ?_)
        refine ev_goto (pc := 31) 43 (by decide) dX11_rest_31 ?_
        exact ev_iret (pc := 43) rfl dX11_rest_43
    · refine ev_iconst (pc := 16) (-1 : Int32) k_iconst_m1 dX11_rest_16 ?_
      exact ev_iret (pc := 17) rfl dX11_rest_17
def f_X7_hasOrNone (N : Nat) (a1 : Int32) (I : PI) (L : PL) : RES := (if a1 < (-1 : Int32) then gd (decide (0 &&& 1 = 0)) (some (some (.int 0), I, L)) else (if (I 7 4) ≤ a1 then gd (decide (0 &&& 1 = 0)) (some (some (.int 0), I, L)) else gd (decide (1 &&& 1 = 1)) (some (some (.int 1), I, L))))
set_option maxRecDepth 100000 in
theorem ok_X7_hasOrNone (N d : Nat) (a1 : Int32) (I : PI) (L : PL) : MOk M_X7_hasOrNone (d) [.ref 7, .int a1] I L (f_X7_hasOrNone N a1 I L) := by
  refine MOk.of (by decide +kernel) (Nat.le_of_ble_eq_true rfl) ?_
  show EvW _ _ 0 [(0, .ref 7), (1, .int a1)] [] I L _
  rw [f_X7_hasOrNone]
  refine ev_iload_n (pc := 0) 1 dX7_hasOrNone_0 rfl ?_
  refine ev_iconst (pc := 1) (-1 : Int32) k_iconst_m1 dX7_hasOrNone_1 ?_
  refine ev_icmp_lt (pc := 2) 17 (by decide) dX7_hasOrNone_2 ?_ ?_
  · refine ev_iconst (pc := 17) 0 k_iconst_0 dX7_hasOrNone_17 ?_
    exact ev_zret (pc := 18) rfl dX7_hasOrNone_18
  · refine ev_iload_n (pc := 5) 1 dX7_hasOrNone_5 rfl ?_
    refine ev_aload_n (pc := 6) 0 dX7_hasOrNone_6 rfl ?_
    refine gf_X7_23 (pc := 7) rfl dX7_hasOrNone_7 ?_
    refine ev_icmp_ge (pc := 10) 17 (by decide) dX7_hasOrNone_10 ?_ ?_
    · refine ev_iconst (pc := 17) 0 k_iconst_0 dX7_hasOrNone_17 ?_
      exact ev_zret (pc := 18) rfl dX7_hasOrNone_18
    · refine ev_iconst (pc := 13) 1 k_iconst_1 dX7_hasOrNone_13 ?_
      refine ev_goto (pc := 14) 18 (by decide) dX7_hasOrNone_14 ?_
      exact ev_zret (pc := 18) rfl dX7_hasOrNone_18
def f_X11_weight (N : Nat) (a1 : Int32) (a2 : Int32) (a3 : Int32) (I : PI) (L : PL) : RES := bI (f_X3_has N a1 I L) (fun x1 I2 L3 => (if x1 = 0 then some (some (.int (-1000000 : Int32)), I2, L3) else bI (f_X7_hasOrNone N a2 I2 L3) (fun x4 I5 L6 => (if x4 = 0 then some (some (.int (-1000000 : Int32)), I5, L6) else bI (f_X3_lengthOf N a1 I5 L6) (fun x7 I8 L9 => bI (f_X11_within N a3 0 (x7 - 1) I8 L9) (fun x10 I11 L12 => (if x10 = 0 then some (some (.int (-1000000 : Int32)), I11, L12) else bI (f_X3_lengthOf N a1 I11 L12) (fun x13 I14 L15 => bI (f_X3_turn N a1 a3 I14 L15) (fun x16 I17 L18 => bI (f_X7_weightOf N a2 a3 x13 x16 I17 L18) (fun x19 I20 L21 => some (some (.int x19), I20, L21)))))))))))
set_option maxRecDepth 100000 in
theorem ok_X11_weight (N d : Nat) (a1 : Int32) (a2 : Int32) (a3 : Int32) (I : PI) (L : PL) : MOk M_X11_weight (d + 6) [.ref 11, .int a1, .int a2, .int a3] I L (f_X11_weight N a1 a2 a3 I L) := by
  refine MOk.of (by decide +kernel) (Nat.le_of_ble_eq_true rfl) ?_
  show EvW _ _ 0 [(0, .ref 11), (1, .int a1), (2, .int a2), (3, .int a3)] [] I L _
  rw [f_X11_weight]
  refine ev_aload_n (pc := 0) 0 dX11_weight_0 rfl ?_
  refine gf_X11_23 (pc := 1) rfl dX11_weight_1 ?_
  refine ev_iload_n (pc := 4) 1 dX11_weight_4 rfl ?_
  refine ev_callVI (pc := 5) (d := d + 5) (As := [.int a1]) (st := []) cv_X3_has rfl w_266 rfl (Nat.le_of_ble_eq_true rfl) (ok_X3_has N (d + 5) a1 I L) dX11_weight_5 (fun x1 I2 L3 => ?_)
  refine ev_if_eq (pc := 8) 40 (by decide) dX11_weight_8 ?_ ?_
  · refine ev_ldc (pc := 40) w_267 dX11_weight_40 ?_
    exact ev_iret (pc := 42) rfl dX11_weight_42
  · refine ev_aload_n (pc := 11) 0 dX11_weight_11 rfl ?_
    refine gf_X11_39 (pc := 12) rfl dX11_weight_12 ?_
    refine ev_iload_n (pc := 15) 2 dX11_weight_15 rfl ?_
    refine ev_callVI (pc := 16) (d := d + 5) (As := [.int a2]) (st := []) cv_X7_hasOrNone rfl w_271 rfl (Nat.le_of_ble_eq_true rfl) (ok_X7_hasOrNone N (d + 5) a2 I2 L3) dX11_weight_16 (fun x4 I5 L6 => ?_)
    refine ev_if_eq (pc := 19) 40 (by decide) dX11_weight_19 ?_ ?_
    · refine ev_ldc (pc := 40) w_267 dX11_weight_40 ?_
      exact ev_iret (pc := 42) rfl dX11_weight_42
    · refine ev_iload_n (pc := 22) 3 dX11_weight_22 rfl ?_
      refine ev_iconst (pc := 23) 0 k_iconst_0 dX11_weight_23 ?_
      refine ev_aload_n (pc := 24) 0 dX11_weight_24 rfl ?_
      refine gf_X11_23 (pc := 25) rfl dX11_weight_25 ?_
      refine ev_iload_n (pc := 28) 1 dX11_weight_28 rfl ?_
      refine ev_callVI (pc := 29) (d := d + 5) (As := [.int a1]) (st := [.int 0, .int a3]) cv_X3_lengthOf rfl w_272 rfl (Nat.le_of_ble_eq_true rfl) (ok_X3_lengthOf N (d + 5) a1 I5 L6) dX11_weight_29 (fun x7 I8 L9 => ?_)
      refine ev_iconst (pc := 32) 1 k_iconst_1 dX11_weight_32 ?_
      refine ev_isub (pc := 33) dX11_weight_33 ?_
      refine ev_callSI (pc := 34) (d := d + 5) (As := [.int a3, .int 0, .int (x7 - 1)]) (st := []) cv_X11_within rfl w_18 rfl (Nat.le_of_ble_eq_true rfl) (ok_X11_within N (d + 5) a3 0 (x7 - 1) I8 L9) dX11_weight_34 (fun x10 I11 L12 => ?_)
      refine ev_if_ne (pc := 37) 43 (by decide) dX11_weight_37 ?_ ?_
      · refine ev_aload_n (pc := 43) 0 dX11_weight_43 rfl ?_
        refine gf_X11_39 (pc := 44) rfl dX11_weight_44 ?_
        refine ev_iload_n (pc := 47) 2 dX11_weight_47 rfl ?_
        refine ev_iload_n (pc := 48) 3 dX11_weight_48 rfl ?_
        refine ev_aload_n (pc := 49) 0 dX11_weight_49 rfl ?_
        refine gf_X11_23 (pc := 50) rfl dX11_weight_50 ?_
        refine ev_iload_n (pc := 53) 1 dX11_weight_53 rfl ?_
        refine ev_callVI (pc := 54) (d := d + 5) (As := [.int a1]) (st := [.int a3, .int a2, .ref 7]) cv_X3_lengthOf rfl w_272 rfl (Nat.le_of_ble_eq_true rfl) (ok_X3_lengthOf N (d + 5) a1 I11 L12) dX11_weight_54 (fun x13 I14 L15 => ?_)
        refine ev_aload_n (pc := 57) 0 dX11_weight_57 rfl ?_
        refine gf_X11_23 (pc := 58) rfl dX11_weight_58 ?_
        refine ev_iload_n (pc := 61) 1 dX11_weight_61 rfl ?_
        refine ev_iload_n (pc := 62) 3 dX11_weight_62 rfl ?_
        refine ev_callVI (pc := 63) (d := d + 5) (As := [.int a1, .int a3]) (st := [.int x13, .int a3, .int a2, .ref 7]) cv_X3_turn rfl w_273 rfl (Nat.le_of_ble_eq_true rfl) (ok_X3_turn N (d + 4) a1 a3 I14 L15) dX11_weight_63 (fun x16 I17 L18 => ?_)
        refine ev_callVI (pc := 66) (d := d + 5) (As := [.int a2, .int a3, .int x13, .int x16]) (st := []) cv_X7_weightOf rfl w_274 rfl (Nat.le_of_ble_eq_true rfl) (ok_X7_weightOf N (d) a2 a3 x13 x16 I17 L18) dX11_weight_66 (fun x19 I20 L21 => ?_)
        exact ev_iret (pc := 69) rfl dX11_weight_69
      · refine ev_ldc (pc := 40) w_267 dX11_weight_40 ?_
        exact ev_iret (pc := 42) rfl dX11_weight_42
def f_X11_comes (N : Nat) (a1 : Int32) (a2 : Int32) (a3 : Int32) (a4 : Int32) (a5 : Int32) (a6 : Int32) (I : PI) (L : PL) : RES := bI (f_X3_has N a1 I L) (fun x1 I2 L3 => (if x1 = 0 then some (some (.int (-1000000 : Int32)), I2, L3) else bI (f_X3_has N a2 I2 L3) (fun x4 I5 L6 => (if x4 = 0 then some (some (.int (-1000000 : Int32)), I5, L6) else bI (f_X7_hasOrNone N a3 I5 L6) (fun x7 I8 L9 => (if x7 = 0 then some (some (.int (-1000000 : Int32)), I8, L9) else bI (f_X11_within N a4 (-23 : Int32) 23 I8 L9) (fun x10 I11 L12 => (if x10 = 0 then some (some (.int (-1000000 : Int32)), I11, L12) else bI (f_X11_within N a5 0 3 I11 L12) (fun x13 I14 L15 => (if x13 = 0 then some (some (.int (-1000000 : Int32)), I14, L15) else bI (f_X11_within N a6 0 2 I14 L15) (fun x16 I17 L18 => (if x16 = 0 then some (some (.int (-1000000 : Int32)), I17, L18) else bV (f_X4_weigh N a2 a3 I17 L18) (fun I20 L21 => bI (f_X4_powerOf N a1 a2 a4 a5 I20 L21) (fun x22 I23 L24 => (if a6 = 2 then some (some (.int x22), I23, L24) else (if a6 = 0 then some (some (.int (I23 4 4)), I23, L24) else some (some (.int (I23 4 5)), I23, L24)))))))))))))))))
set_option maxRecDepth 100000 in
theorem ok_X11_comes (N d : Nat) (a1 : Int32) (a2 : Int32) (a3 : Int32) (a4 : Int32) (a5 : Int32) (a6 : Int32) (I : PI) (L : PL) : MOk M_X11_comes (d + 7) [.ref 11, .int a1, .int a2, .int a3, .int a4, .int a5, .int a6] I L (f_X11_comes N a1 a2 a3 a4 a5 a6 I L) := by
  refine MOk.of (by decide +kernel) (Nat.le_of_ble_eq_true rfl) ?_
  show EvW _ _ 0 [(0, .ref 11), (1, .int a1), (2, .int a2), (3, .int a3), (4, .int a4), (5, .int a5), (6, .int a6)] [] I L _
  rw [f_X11_comes]
  refine ev_aload_n (pc := 0) 0 dX11_comes_0 rfl ?_
  refine gf_X11_23 (pc := 1) rfl dX11_comes_1 ?_
  refine ev_iload_n (pc := 4) 1 dX11_comes_4 rfl ?_
  refine ev_callVI (pc := 5) (d := d + 6) (As := [.int a1]) (st := []) cv_X3_has rfl w_266 rfl (Nat.le_of_ble_eq_true rfl) (ok_X3_has N (d + 6) a1 I L) dX11_comes_5 (fun x1 I2 L3 => ?_)
  refine ev_if_eq (pc := 8) 65 (by decide) dX11_comes_8 ?_ ?_
  · refine ev_ldc (pc := 65) w_267 dX11_comes_65 ?_
    exact ev_iret (pc := 67) rfl dX11_comes_67
  · refine ev_aload_n (pc := 11) 0 dX11_comes_11 rfl ?_
    refine gf_X11_23 (pc := 12) rfl dX11_comes_12 ?_
    refine ev_iload_n (pc := 15) 2 dX11_comes_15 rfl ?_
    refine ev_callVI (pc := 16) (d := d + 6) (As := [.int a2]) (st := []) cv_X3_has rfl w_266 rfl (Nat.le_of_ble_eq_true rfl) (ok_X3_has N (d + 6) a2 I2 L3) dX11_comes_16 (fun x4 I5 L6 => ?_)
    refine ev_if_eq (pc := 19) 65 (by decide) dX11_comes_19 ?_ ?_
    · refine ev_ldc (pc := 65) w_267 dX11_comes_65 ?_
      exact ev_iret (pc := 67) rfl dX11_comes_67
    · refine ev_aload_n (pc := 22) 0 dX11_comes_22 rfl ?_
      refine gf_X11_39 (pc := 23) rfl dX11_comes_23 ?_
      refine ev_iload_n (pc := 26) 3 dX11_comes_26 rfl ?_
      refine ev_callVI (pc := 27) (d := d + 6) (As := [.int a3]) (st := []) cv_X7_hasOrNone rfl w_271 rfl (Nat.le_of_ble_eq_true rfl) (ok_X7_hasOrNone N (d + 6) a3 I5 L6) dX11_comes_27 (fun x7 I8 L9 => ?_)
      refine ev_if_eq (pc := 30) 65 (by decide) dX11_comes_30 ?_ ?_
      · refine ev_ldc (pc := 65) w_267 dX11_comes_65 ?_
        exact ev_iret (pc := 67) rfl dX11_comes_67
      · refine ev_iload (pc := 33) 4 dX11_comes_33 rfl ?_
        refine ev_bipush (pc := 35) (-23 : Int32) k_bipush_m23 dX11_comes_35 ?_
        refine ev_bipush (pc := 37) 23 k_bipush_23 dX11_comes_37 ?_
        refine ev_callSI (pc := 39) (d := d + 6) (As := [.int a4, .int (-23 : Int32), .int 23]) (st := []) cv_X11_within rfl w_18 rfl (Nat.le_of_ble_eq_true rfl) (ok_X11_within N (d + 6) a4 (-23 : Int32) 23 I8 L9) dX11_comes_39 (fun x10 I11 L12 => ?_)
        refine ev_if_eq (pc := 42) 65 (by decide) dX11_comes_42 ?_ ?_
        · refine ev_ldc (pc := 65) w_267 dX11_comes_65 ?_
          exact ev_iret (pc := 67) rfl dX11_comes_67
        · refine ev_iload (pc := 45) 5 dX11_comes_45 rfl ?_
          refine ev_iconst (pc := 47) 0 k_iconst_0 dX11_comes_47 ?_
          refine ev_iconst (pc := 48) 3 k_iconst_3 dX11_comes_48 ?_
          refine ev_callSI (pc := 49) (d := d + 6) (As := [.int a5, .int 0, .int 3]) (st := []) cv_X11_within rfl w_18 rfl (Nat.le_of_ble_eq_true rfl) (ok_X11_within N (d + 6) a5 0 3 I11 L12) dX11_comes_49 (fun x13 I14 L15 => ?_)
          refine ev_if_eq (pc := 52) 65 (by decide) dX11_comes_52 ?_ ?_
          · refine ev_ldc (pc := 65) w_267 dX11_comes_65 ?_
            exact ev_iret (pc := 67) rfl dX11_comes_67
          · refine ev_iload (pc := 55) 6 dX11_comes_55 rfl ?_
            refine ev_iconst (pc := 57) 0 k_iconst_0 dX11_comes_57 ?_
            refine ev_iconst (pc := 58) 2 k_iconst_2 dX11_comes_58 ?_
            refine ev_callSI (pc := 59) (d := d + 6) (As := [.int a6, .int 0, .int 2]) (st := []) cv_X11_within rfl w_18 rfl (Nat.le_of_ble_eq_true rfl) (ok_X11_within N (d + 6) a6 0 2 I14 L15) dX11_comes_59 (fun x16 I17 L18 => ?_)
            refine ev_if_ne (pc := 62) 68 (by decide) dX11_comes_62 ?_ ?_
            · refine ev_aload_n (pc := 68) 0 dX11_comes_68 rfl ?_
              refine gf_X11_48 (pc := 69) rfl dX11_comes_69 ?_
              refine ev_iload_n (pc := 72) 2 dX11_comes_72 rfl ?_
              refine ev_iload_n (pc := 73) 3 dX11_comes_73 rfl ?_
              refine ev_callVV (pc := 74) (d := d + 6) (As := [.int a2, .int a3]) (st := []) cv_X4_weigh rfl w_275 rfl (Nat.le_of_ble_eq_true rfl) (ok_X4_weigh N (d) a2 a3 I17 L18) dX11_comes_74 (fun I20 L21 => ?_)
              refine ev_aload_n (pc := 77) 0 dX11_comes_77 rfl ?_
              refine gf_X11_48 (pc := 78) rfl dX11_comes_78 ?_
              refine ev_iload_n (pc := 81) 1 dX11_comes_81 rfl ?_
              refine ev_iload_n (pc := 82) 2 dX11_comes_82 rfl ?_
              refine ev_iload (pc := 83) 4 dX11_comes_83 rfl ?_
              refine ev_iload (pc := 85) 5 dX11_comes_85 rfl ?_
              refine ev_callVI (pc := 87) (d := d + 6) (As := [.int a1, .int a2, .int a4, .int a5]) (st := []) cv_X4_powerOf rfl w_276 rfl (Nat.le_of_ble_eq_true rfl) (ok_X4_powerOf N (d + 4) a1 a2 a4 a5 I20 L21) dX11_comes_87 (fun x22 I23 L24 => ?_)
              refine ev_istore (pc := 90) (lv' := [(7, .int x22), (0, .ref 11), (1, .int a1), (2, .int a2), (3, .int a3), (4, .int a4), (5, .int a5), (6, .int a6)]) dX11_comes_90 rfl rfl ?_
              refine ev_iload (pc := 92) 7 dX11_comes_92 rfl ?_
              refine ev_iconst (pc := 94) 2 k_iconst_2 dX11_comes_94 ?_
              refine ev_icmp_ne (pc := 95) 101 (by decide) dX11_comes_95 ?_ ?_
              · refine ev_iload (pc := 101) 7 dX11_comes_101 rfl ?_
                refine ev_if_ne (pc := 103) 116 (by decide) dX11_comes_103 ?_ ?_
                · refine ev_aload_n (pc := 116) 1 dX11_comes_116 rfl ?_
                  refine gf_X11_48 (pc := 117) rfl dX11_comes_117 ?_
                  refine gf_X11_183 (pc := 120) rfl dX11_comes_120 ?_
                  exact ev_iret (pc := 123) rfl dX11_comes_123
                · refine ev_aload_n (pc := 106) 1 dX11_comes_106 rfl ?_
                  refine gf_X11_48 (pc := 107) rfl dX11_comes_107 ?_
                  refine gf_X11_180 (pc := 110) rfl dX11_comes_110 ?_
                  refine ev_goto (pc := 113) 123 (by decide) dX11_comes_113 ?_
                  exact ev_iret (pc := 123) rfl dX11_comes_123
              · refine ev_iload (pc := 98) 0 dX11_comes_98 rfl ?_
                exact ev_iret (pc := 100) rfl dX11_comes_100
            · refine ev_ldc (pc := 65) w_267 dX11_comes_65 ?_
              exact ev_iret (pc := 67) rfl dX11_comes_67
def f_X4_peak (N : Nat) (a1 : Int32) (I : PI) (L : PL) : RES := bI (f_X4_powerOf N a1 a1 0 0 I L) (fun x1 I2 L3 => some (some (.int x1), I2, L3))
set_option maxRecDepth 100000 in
theorem ok_X4_peak (N d : Nat) (a1 : Int32) (I : PI) (L : PL) : MOk M_X4_peak (d + 3) [.ref 4, .int a1] I L (f_X4_peak N a1 I L) := by
  refine MOk.of (by decide +kernel) (Nat.le_of_ble_eq_true rfl) ?_
  show EvW _ _ 0 [(0, .ref 4), (1, .int a1)] [] I L _
  rw [f_X4_peak]
  refine ev_aload_n (pc := 0) 0 dX4_peak_0 rfl ?_
  refine ev_iload_n (pc := 1) 1 dX4_peak_1 rfl ?_
  refine ev_iload_n (pc := 2) 1 dX4_peak_2 rfl ?_
  refine ev_iconst (pc := 3) 0 k_iconst_0 dX4_peak_3 ?_
  refine ev_iconst (pc := 4) 0 k_iconst_0 dX4_peak_4 ?_
  refine ev_callVI (pc := 5) (d := d + 2) (As := [.int a1, .int a1, .int 0, .int 0]) (st := []) cv_X4_powerOf rfl w_230 rfl (Nat.le_of_ble_eq_true rfl) (ok_X4_powerOf N (d) a1 a1 0 0 I L) dX4_peak_5 (fun x1 I2 L3 => ?_)
  exact ev_iret (pc := 8) rfl dX4_peak_8
def F_X4_side_4 (N : Nat) : Nat → Int32 → Int32 → Int32 → PI → PL → RES
  | 0, _, _, _, _, _ => none
  | n + 1, v1, v2, v3, I, L => bI (f_X3_lengthOf N v1 I L) (fun x1 I2 L3 => (if x1 ≤ v3 then some (some (.int v2), I2, L3) else bI (f_X4_powerOf N v1 v1 v3 0 I2 L3) (fun x4 I5 L6 => nmI (jmax v2 x4) (fun x7 => bI (f_X4_powerOf N v1 v1 (-v3) 0 I5 L6) (fun x8 I9 L10 => nmI (jmax x7 x8) (fun x11 => (F_X4_side_4 N n) v1 x11 (v3 + 1) I9 L10))))))
set_option maxRecDepth 100000 in
theorem E_X4_side_4 (N d : Nat) : ∀ (n : Nat) (v1 : Int32) (v2 : Int32) (v3 : Int32) (I : PI) (L : PL), EvW M_X4_side (d + 3) 4 [(0, .ref 4), (1, .int v1), (2, .int v2), (3, .int v3)] [] I L (F_X4_side_4 N n v1 v2 v3 I L) := by
  intro n
  induction n with
  | zero =>
    intro v1 v2 v3 I L
    exact EvW.none
  | succ n hr_4 =>
    intro v1 v2 v3 I L
    rw [F_X4_side_4]
    refine ev_iload_n (pc := 4) 3 dX4_side_4 rfl ?_
    refine ev_aload_n (pc := 5) 0 dX4_side_5 rfl ?_
    refine gf_X4_9 (pc := 6) rfl dX4_side_6 ?_
    refine ev_iload_n (pc := 9) 1 dX4_side_9 rfl ?_
    refine ev_callVI (pc := 10) (d := d + 2) (As := [.int v1]) (st := [.int v3]) cv_X3_lengthOf rfl w_162 rfl (Nat.le_of_ble_eq_true rfl) (ok_X3_lengthOf N (d + 2) v1 I L) dX4_side_10 (fun x1 I2 L3 => ?_)
    refine ev_icmp_ge (pc := 13) 49 (by decide) dX4_side_13 ?_ ?_
    · refine ev_iload_n (pc := 49) 2 dX4_side_49 rfl ?_
      exact ev_iret (pc := 50) rfl dX4_side_50
    · refine ev_iload_n (pc := 16) 2 dX4_side_16 rfl ?_
      refine ev_aload_n (pc := 17) 0 dX4_side_17 rfl ?_
      refine ev_iload_n (pc := 18) 1 dX4_side_18 rfl ?_
      refine ev_iload_n (pc := 19) 1 dX4_side_19 rfl ?_
      refine ev_iload_n (pc := 20) 3 dX4_side_20 rfl ?_
      refine ev_iconst (pc := 21) 0 k_iconst_0 dX4_side_21 ?_
      refine ev_callVI (pc := 22) (d := d + 2) (As := [.int v1, .int v1, .int v3, .int 0]) (st := [.int v2]) cv_X4_powerOf rfl w_230 rfl (Nat.le_of_ble_eq_true rfl) (ok_X4_powerOf N (d) v1 v1 v3 0 I2 L3) dX4_side_22 (fun x4 I5 L6 => ?_)
      refine ev_mmax (pc := 25) (d := d + 2) w_217 w_130 w_131 w_132 (Nat.le_of_ble_eq_true rfl) dX4_side_25 ?_
      refine ev_nmI (fun x7 => ?_)
      refine ev_istore_n (pc := 28) (lv' := [(2, .int x7), (0, .ref 4), (1, .int v1), (3, .int v3)]) dX4_side_28 rfl rfl rfl ?_
      refine ev_iload_n (pc := 29) 0 dX4_side_29 rfl ?_
      refine ev_aload_n (pc := 30) 1 dX4_side_30 rfl ?_
      refine ev_iload_n (pc := 31) 2 dX4_side_31 rfl ?_
      refine ev_iload_n (pc := 32) 2 dX4_side_32 rfl ?_
      refine ev_iload_n (pc := 33) 3 dX4_side_33 rfl ?_
      refine ev_ineg (pc := 34) dX4_side_34 ?_
      refine ev_iconst (pc := 35) 0 k_iconst_0 dX4_side_35 ?_
      refine ev_callVI (pc := 36) (d := d + 2) (As := [.int v1, .int v1, .int (-v3), .int 0]) (st := [.int x7]) cv_X4_powerOf rfl w_230 rfl (Nat.le_of_ble_eq_true rfl) (ok_X4_powerOf N (d) v1 v1 (-v3) 0 I5 L6) dX4_side_36 (fun x8 I9 L10 => ?_)
      refine ev_mmax (pc := 39) (d := d + 2) w_217 w_130 w_131 w_132 (Nat.le_of_ble_eq_true rfl) dX4_side_39 ?_
      refine ev_nmI (fun x11 => ?_)
      refine ev_istore_n (pc := 42) (lv' := [(2, .int x11), (0, .ref 4), (1, .int v1), (3, .int v3)]) dX4_side_42 rfl rfl rfl ?_
      refine ev_iinc (pc := 43) (lv' := [(3, .int (v3 + 1)), (2, .int x11), (0, .ref 4), (1, .int v1)]) dX4_side_43 3 rfl rfl 1 k_iconst_1 rfl ?_
      refine ev_goto (pc := 46) 4 (by decide) dX4_side_46 ?_
      refine EvW.sub [2, 3, 1, 0] rfl ?_
      exact hr_4 v1 x11 (v3 + 1) I9 L10
def f_X4_side (N : Nat) (a1 : Int32) (I : PI) (L : PL) : RES := F_X4_side_4 N N a1 0 1 I L
set_option maxRecDepth 100000 in
theorem ok_X4_side (N d : Nat) (a1 : Int32) (I : PI) (L : PL) : MOk M_X4_side (d + 3) [.ref 4, .int a1] I L (f_X4_side N a1 I L) := by
  refine MOk.of (by decide +kernel) (Nat.le_of_ble_eq_true rfl) ?_
  show EvW _ _ 0 [(0, .ref 4), (1, .int a1)] [] I L _
  rw [f_X4_side]
  refine ev_iconst (pc := 0) 0 k_iconst_0 dX4_side_0 ?_
  refine ev_istore_n (pc := 1) (lv' := [(2, .int 0), (0, .ref 4), (1, .int a1)]) dX4_side_1 rfl rfl rfl ?_
  refine ev_iconst (pc := 2) 1 k_iconst_1 dX4_side_2 ?_
  refine ev_istore_n (pc := 3) (lv' := [(3, .int 1), (2, .int 0), (0, .ref 4), (1, .int a1)]) dX4_side_3 rfl rfl rfl ?_
  refine EvW.sub [2, 3, 1, 0] rfl ?_
  exact E_X4_side_4 N d N a1 0 1 I L
def F_X4_sides_4 (N : Nat) : Nat → Int32 → Int32 → Int32 → PI → PL → RES
  | 0, _, _, _, _, _ => none
  | n + 1, v1, v2, v3, I, L => bI (f_X3_lengthOf N v1 I L) (fun x1 I2 L3 => (if x1 ≤ v3 then some (some (.int v2), I2, L3) else bI (f_X4_powerOf N v1 v1 v3 0 I2 L3) (fun x4 I5 L6 => bI (f_X4_powerOf N v1 v1 (-v3) 0 I5 L6) (fun x7 I8 L9 => nmI (v2 + (x4 + x7)) (fun x10 => (F_X4_sides_4 N n) v1 x10 (v3 + 1) I8 L9)))))
set_option maxRecDepth 100000 in
theorem E_X4_sides_4 (N d : Nat) : ∀ (n : Nat) (v1 : Int32) (v2 : Int32) (v3 : Int32) (I : PI) (L : PL), EvW M_X4_sides (d + 3) 4 [(0, .ref 4), (1, .int v1), (2, .int v2), (3, .int v3)] [] I L (F_X4_sides_4 N n v1 v2 v3 I L) := by
  intro n
  induction n with
  | zero =>
    intro v1 v2 v3 I L
    exact EvW.none
  | succ n hr_4 =>
    intro v1 v2 v3 I L
    rw [F_X4_sides_4]
    refine ev_iload_n (pc := 4) 3 dX4_sides_4 rfl ?_
    refine ev_aload_n (pc := 5) 0 dX4_sides_5 rfl ?_
    refine gf_X4_9 (pc := 6) rfl dX4_sides_6 ?_
    refine ev_iload_n (pc := 9) 1 dX4_sides_9 rfl ?_
    refine ev_callVI (pc := 10) (d := d + 2) (As := [.int v1]) (st := [.int v3]) cv_X3_lengthOf rfl w_162 rfl (Nat.le_of_ble_eq_true rfl) (ok_X3_lengthOf N (d + 2) v1 I L) dX4_sides_10 (fun x1 I2 L3 => ?_)
    refine ev_icmp_ge (pc := 13) 43 (by decide) dX4_sides_13 ?_ ?_
    · refine ev_iload_n (pc := 43) 2 dX4_sides_43 rfl ?_
      exact ev_iret (pc := 44) rfl dX4_sides_44
    · refine ev_iload_n (pc := 16) 2 dX4_sides_16 rfl ?_
      refine ev_aload_n (pc := 17) 0 dX4_sides_17 rfl ?_
      refine ev_iload_n (pc := 18) 1 dX4_sides_18 rfl ?_
      refine ev_iload_n (pc := 19) 1 dX4_sides_19 rfl ?_
      refine ev_iload_n (pc := 20) 3 dX4_sides_20 rfl ?_
      refine ev_iconst (pc := 21) 0 k_iconst_0 dX4_sides_21 ?_
      refine ev_callVI (pc := 22) (d := d + 2) (As := [.int v1, .int v1, .int v3, .int 0]) (st := [.int v2]) cv_X4_powerOf rfl w_230 rfl (Nat.le_of_ble_eq_true rfl) (ok_X4_powerOf N (d) v1 v1 v3 0 I2 L3) dX4_sides_22 (fun x4 I5 L6 => ?_)
      refine ev_aload_n (pc := 25) 0 dX4_sides_25 rfl ?_
      refine ev_iload_n (pc := 26) 1 dX4_sides_26 rfl ?_
      refine ev_iload_n (pc := 27) 1 dX4_sides_27 rfl ?_
      refine ev_iload_n (pc := 28) 3 dX4_sides_28 rfl ?_
      refine ev_ineg (pc := 29) dX4_sides_29 ?_
      refine ev_iconst (pc := 30) 0 k_iconst_0 dX4_sides_30 ?_
      refine ev_callVI (pc := 31) (d := d + 2) (As := [.int v1, .int v1, .int (-v3), .int 0]) (st := [.int x4, .int v2]) cv_X4_powerOf rfl w_230 rfl (Nat.le_of_ble_eq_true rfl) (ok_X4_powerOf N (d) v1 v1 (-v3) 0 I5 L6) dX4_sides_31 (fun x7 I8 L9 => ?_)
      refine ev_iadd (pc := 34) dX4_sides_34 ?_
      refine ev_iadd (pc := 35) dX4_sides_35 ?_
      refine ev_nmI (fun x10 => ?_)
      refine ev_istore_n (pc := 36) (lv' := [(2, .int x10), (0, .ref 4), (1, .int v1), (3, .int v3)]) dX4_sides_36 rfl rfl rfl ?_
      refine ev_iinc (pc := 37) (lv' := [(3, .int (v3 + 1)), (2, .int x10), (0, .ref 4), (1, .int v1)]) dX4_sides_37 3 rfl rfl 1 k_iconst_1 rfl ?_
      refine ev_goto (pc := 40) 4 (by decide) dX4_sides_40 ?_
      refine EvW.sub [2, 3, 1, 0] rfl ?_
      exact hr_4 v1 x10 (v3 + 1) I8 L9
def f_X4_sides (N : Nat) (a1 : Int32) (I : PI) (L : PL) : RES := F_X4_sides_4 N N a1 0 1 I L
set_option maxRecDepth 100000 in
theorem ok_X4_sides (N d : Nat) (a1 : Int32) (I : PI) (L : PL) : MOk M_X4_sides (d + 3) [.ref 4, .int a1] I L (f_X4_sides N a1 I L) := by
  refine MOk.of (by decide +kernel) (Nat.le_of_ble_eq_true rfl) ?_
  show EvW _ _ 0 [(0, .ref 4), (1, .int a1)] [] I L _
  rw [f_X4_sides]
  refine ev_iconst (pc := 0) 0 k_iconst_0 dX4_sides_0 ?_
  refine ev_istore_n (pc := 1) (lv' := [(2, .int 0), (0, .ref 4), (1, .int a1)]) dX4_sides_1 rfl rfl rfl ?_
  refine ev_iconst (pc := 2) 1 k_iconst_1 dX4_sides_2 ?_
  refine ev_istore_n (pc := 3) (lv' := [(3, .int 1), (2, .int 0), (0, .ref 4), (1, .int a1)]) dX4_sides_3 rfl rfl rfl ?_
  refine EvW.sub [2, 3, 1, 0] rfl ?_
  exact E_X4_sides_4 N d N a1 0 1 I L
