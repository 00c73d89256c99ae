theorem cw_136 : Cond.methodLink RX12 3 Lib.objectInit ∈ WL := wl_of (List.mem_append_right _ (in_t5 (List.mem_of_getElem? (i := 190) rfl))) rfl
theorem cw_137 : Cond.fieldLink RX12 9 "PulsePartsModel" "tape" "[I" ∈ WL := wl_of (List.mem_append_right _ (in_t5 (List.mem_of_getElem? (i := 192) rfl))) rfl
theorem kc_sipush_1820 : (Int16.ofInt (1820)).toInt32 = 1820 := by decide +kernel
theorem cw_138 : Cond.fieldLink RX12 13 "PulsePartsModel" "code" "[I" ∈ WL := wl_of (List.mem_append_right _ (in_t5 (List.mem_of_getElem? (i := 197) rfl))) rfl
theorem cw_139 : Cond.fieldLink RX12 16 "PulsePartsModel" "value" "[I" ∈ WL := wl_of (List.mem_append_right _ (in_t5 (List.mem_of_getElem? (i := 198) rfl))) rfl
theorem cw_140 : Cond.fieldLink RX12 19 "PulsePartsModel" "codes" "[I" ∈ WL := wl_of (List.mem_append_right _ (in_t5 (List.mem_of_getElem? (i := 199) rfl))) rfl
theorem cw_141 : Cond.fieldLink RX12 22 "PulsePartsModel" "clauses" "[I" ∈ WL := wl_of (List.mem_append_right _ (in_t5 (List.mem_of_getElem? (i := 200) rfl))) rfl
theorem kc_sipush_630 : (Int16.ofInt (630)).toInt32 = 630 := by decide +kernel
theorem cw_142 : Cond.fieldLink RX12 25 "PulsePartsModel" "testFrom" "[I" ∈ WL := wl_of (List.mem_append_right _ (in_t5 (List.mem_of_getElem? (i := 201) rfl))) rfl
theorem cw_143 : Cond.fieldLink RX12 28 "PulsePartsModel" "sumFrom" "[I" ∈ WL := wl_of (List.mem_append_right _ (in_t5 (List.mem_of_getElem? (i := 202) rfl))) rfl
theorem cw_144 : Cond.fieldLink RX12 31 "PulsePartsModel" "sumTo" "[I" ∈ WL := wl_of (List.mem_append_right _ (in_t5 (List.mem_of_getElem? (i := 203) rfl))) rfl
theorem cw_145 : Cond.fieldLink RX12 34 "PulsePartsModel" "letters" "[I" ∈ WL := wl_of (List.mem_append_right _ (in_t5 (List.mem_of_getElem? (i := 206) rfl))) rfl
theorem kc_bipush_80 : (Int8.ofInt (80)).toInt32 = 80 := by decide +kernel
theorem cw_146 : Cond.fieldLink RX12 37 "PulsePartsModel" "stack" "[I" ∈ WL := wl_of (List.mem_append_right _ (in_t5 (List.mem_of_getElem? (i := 207) rfl))) rfl
theorem cw_147 : Cond.fieldLink RX12 40 "PulsePartsModel" "signs" "[I" ∈ WL := wl_of (List.mem_append_right _ (in_t5 (List.mem_of_getElem? (i := 208) rfl))) rfl
theorem cw_148 : Cond.fieldLink RX12 43 "PulsePartsModel" "lengths" "[I" ∈ WL := wl_of (List.mem_append_right _ (in_t5 (List.mem_of_getElem? (i := 209) rfl))) rfl
theorem cw_149 : Cond.fieldLink RX12 46 "PulsePartsModel" "restAt" "[I" ∈ WL := wl_of (List.mem_append_right _ (in_t5 (List.mem_of_getElem? (i := 210) rfl))) rfl
theorem cw_150 : Cond.fieldLink RX12 49 "PulsePartsModel" "restMany" "[I" ∈ WL := wl_of (List.mem_append_right _ (in_t5 (List.mem_of_getElem? (i := 211) rfl))) rfl
theorem cw_151 : Cond.fieldLink RX12 52 "PulsePartsModel" "weights" "[I" ∈ WL := wl_of (List.mem_append_right _ (in_t5 (List.mem_of_getElem? (i := 214) rfl))) rfl
theorem cw_152 : Cond.fieldLink RX12 55 "PulsePartsModel" "blind" "I" ∈ WL := wl_of (List.mem_append_right _ (in_t5 (List.mem_of_getElem? (i := 223) rfl))) rfl
theorem cw_153 : Cond.fieldLink RX12 59 "PulsePartsModel" "need" "I" ∈ WL := wl_of (List.mem_append_right _ (in_t5 (List.mem_of_getElem? (i := 224) rfl))) rfl
theorem cw_154 : Cond.fieldLink RX12 62 "PulsePartsModel" "guard" "I" ∈ WL := wl_of (List.mem_append_right _ (in_t5 (List.mem_of_getElem? (i := 225) rfl))) rfl
theorem cw_155 : Cond.fieldLink RX12 65 "PulsePartsModel" "sideCells" "I" ∈ WL := wl_of (List.mem_append_right _ (in_t5 (List.mem_of_getElem? (i := 226) rfl))) rfl
theorem cw_156 : Cond.fieldLink RX12 68 "PulsePartsModel" "order" "I" ∈ WL := wl_of (List.mem_append_right _ (in_t5 (List.mem_of_getElem? (i := 227) rfl))) rfl
theorem cw_157 : Cond.fieldLink RX12 71 "PulsePartsModel" "factor" "I" ∈ WL := wl_of (List.mem_append_right _ (in_t5 (List.mem_of_getElem? (i := 228) rfl))) rfl
theorem cw_158 : Cond.fieldLink RX12 74 "PulsePartsModel" "readings" "[I" ∈ WL := wl_of (List.mem_append_right _ (in_t5 (List.mem_of_getElem? (i := 229) rfl))) rfl
theorem kc_bipush_41 : (Int8.ofInt (41)).toInt32 = 41 := by decide +kernel
theorem cw_159 : Cond.fieldLink RX12 77 "PulsePartsModel" "now" "[I" ∈ WL := wl_of (List.mem_append_right _ (in_t5 (List.mem_of_getElem? (i := 230) rfl))) rfl
theorem kc_sipush_1230 : (Int16.ofInt (1230)).toInt32 = 1230 := by decide +kernel
theorem cw_160 : Cond.fieldLink RX12 80 "PulsePartsModel" "undone" "[I" ∈ WL := wl_of (List.mem_append_right _ (in_t5 (List.mem_of_getElem? (i := 231) rfl))) rfl
theorem cw_161 : Cond.fieldLink RX12 83 "PulsePartsModel" "again" "[I" ∈ WL := wl_of (List.mem_append_right _ (in_t5 (List.mem_of_getElem? (i := 232) rfl))) rfl
theorem cw_162 : Cond.fieldLink RX12 86 "PulsePartsModel" "image" "[I" ∈ WL := wl_of (List.mem_append_right _ (in_t5 (List.mem_of_getElem? (i := 233) rfl))) rfl
theorem cw_163 : Cond.fieldLink RX12 89 "PulsePartsModel" "window" "[I" ∈ WL := wl_of (List.mem_append_right _ (in_t5 (List.mem_of_getElem? (i := 237) rfl))) rfl
theorem cw_164 : Cond.fieldLink RX12 92 "PulsePartsModel" "times" "[I" ∈ WL := wl_of (List.mem_append_right _ (in_t5 (List.mem_of_getElem? (i := 238) rfl))) rfl
theorem cw_165 : Cond.fieldLink RX12 95 "PulsePartsModel" "dues" "[I" ∈ WL := wl_of (List.mem_append_right _ (in_t5 (List.mem_of_getElem? (i := 239) rfl))) rfl
theorem cw_166 : Cond.fieldLink RX12 98 "PulsePartsModel" "worths" "[I" ∈ WL := wl_of (List.mem_append_right _ (in_t6 (List.mem_of_getElem? (i := 0) rfl))) rfl
theorem cw_167 : Cond.instanceMethod yX12_init ∈ WL := wl_of (List.mem_append_right _ (in_t5 (List.mem_of_getElem? (i := 188) rfl))) rfl
theorem cw_168 : Cond.initialized RX12 ∈ WL := wl_of (List.mem_append_right _ (in_t1 (List.mem_of_getElem? (i := 14) rfl))) rfl
theorem cw_169 : Cond.code yX12_init cX12_init 2 none ∈ WL := wl_of (List.mem_append_right _ (in_t5 (List.mem_of_getElem? (i := 189) rfl))) rfl
theorem ci_X12_init : CalI M_X12_init_i 0 := ⟨cw_167, cw_168, cw_169, rfl, by decide +kernel, by decide, rfl⟩
set_option maxRecDepth 100000 in
set_option maxHeartbeats 4000000 in
theorem ct_X12_init (d : Nat) (I : PI) (L : PL) (hI39 : I 39 = fun _ => 0) (hI40 : I 40 = fun _ => 0) (hI41 : I 41 = fun _ => 0) (hI42 : I 42 = fun _ => 0) (hI43 : I 43 = fun _ => 0) (hI44 : I 44 = fun _ => 0) (hI45 : I 45 = fun _ => 0) (hI46 : I 46 = fun _ => 0) (hI47 : I 47 = fun _ => 0) (hI48 : I 48 = fun _ => 0) (hI49 : I 49 = fun _ => 0) (hI50 : I 50 = fun _ => 0) (hI51 : I 51 = fun _ => 0) (hI52 : I 52 = fun _ => 0) (hI53 : I 53 = fun _ => 0) (hI54 : I 54 = fun _ => 0) (hI55 : I 55 = fun _ => 0) (hI56 : I 56 = fun _ => 0) (hI57 : I 57 = fun _ => 0) (hI58 : I 58 = fun _ => 0) (hI59 : I 59 = fun _ => 0) (hI60 : I 60 = fun _ => 0) (hI61 : I 61 = fun _ => 0) (hI62 : I 62 = fun _ => 0) : CtorOk M_X12_init_i (d + 1) [.ref 12] [12] [(12, 14, 0, [0, 2, 0, 0, 0, 0, 2, 2, 2, 2, 2, 2, 2, 0, 0, 2, 2, 2, 2, 2, 2, 0, 0, 2, 0, 0, 0, 0, 0, 0, 0, 0, 0, 0, 0, 0, 0, 0, 2, 2, 2, 2, 2, 0, 0, 0, 2, 2, 2, 2, 0])] I L [(12, 14, 0, [0, 42, 0, 0, 0, 0, 43, 44, 45, 46, 47, 48, 49, 0, 0, 50, 51, 52, 53, 54, 55, 0, 0, 56, 0, 0, 0, 0, 0, 0, 0, 0, 0, 0, 0, 0, 0, 0, 57, 58, 59, 60, 61, 0, 0, 0, 62, 63, 64, 65, 0]), (39, 0, 120, []), (40, 0, 1820, []), (41, 0, 1820, []), (42, 0, 7, []), (43, 0, 7, []), (44, 0, 630, []), (45, 0, 630, []), (46, 0, 630, []), (47, 0, 4, []), (48, 0, 80, []), (49, 0, 216, []), (50, 0, 9, []), (51, 0, 56, []), (52, 0, 7, []), (53, 0, 24, []), (54, 0, 8, []), (55, 0, 41, []), (56, 0, 1230, []), (57, 0, 1230, []), (58, 0, 41, []), (59, 0, 16, []), (60, 0, 8, []), (61, 0, 8, []), (62, 0, 8, [])] (uI (uI (uI (uI (uI (uI (uI (uI (uI (uI (uI (uI (uI (uI I 12 32 1) 12 33 1) 12 34 1) 12 35 3) 12 36 3) 12 37 20) 54 (Int32.toNatClampNeg 0) (-1 : Int32)) 54 (Int32.toNatClampNeg 1) (-1 : Int32)) 54 (Int32.toNatClampNeg 2) (-1 : Int32)) 54 (Int32.toNatClampNeg 3) (-1 : Int32)) 54 (Int32.toNatClampNeg 4) (-1 : Int32)) 54 (Int32.toNatClampNeg 5) (-1 : Int32)) 54 (Int32.toNatClampNeg 6) (-1 : Int32)) 54 (Int32.toNatClampNeg 7) (-1 : Int32)) (L) (24, 8650) := by
  refine CtorOk.of (by decide +kernel) (Nat.le_of_ble_eq_true rfl) ?_
  show EvN _ _ _ _ _ _ _ _ 0 [(0, .ref 12)] [] I L
  refine en_aload_n (pc := 0) 0 dX12_init_0 rfl ?_
  refine en_objInit (d := d) (pc := 1) cw_136 cw_4 cw_5 (Nat.le_of_ble_eq_true rfl) dX12_init_1 ?_
  refine en_aload_n (pc := 4) 0 dX12_init_4 rfl ?_
  refine en_bipush (pc := 5) 120 kc_bipush_120 dX12_init_5 ?_
  refine en_newaI (pc := 7) 39 120 hI39 cw_6 (by decide +kernel) (by decide +kernel) (by decide +kernel) (by decide +kernel) (by decide +kernel) (by decide +kernel) (by decide +kernel) ⟨by decide +kernel, by decide +kernel⟩ dX12_init_7 ?_
  refine en_putR (ci := 12) (k9 := 1) (pc := 9) 0 tyX12 rfl inW12 tyX12_ok nmX12 (by decide) cw_137 rfl rfl rfl rfl (by decide) (fun _ => rfl) (fun _ => rfl) (by decide +kernel) (Ks' := [(12, 14, 0, [0, 42, 0, 0, 0, 0, 2, 2, 2, 2, 2, 2, 2, 0, 0, 2, 2, 2, 2, 2, 2, 0, 0, 2, 0, 0, 0, 0, 0, 0, 0, 0, 0, 0, 0, 0, 0, 0, 2, 2, 2, 2, 2, 0, 0, 0, 2, 2, 2, 2, 0]), (39, 0, 120, [])]) (by decide +kernel) dX12_init_9 ?_
  refine en_aload_n (pc := 12) 0 dX12_init_12 rfl ?_
  refine en_sipush (pc := 13) 1820 kc_sipush_1820 dX12_init_13 ?_
  refine en_newaI (pc := 16) 40 1820 hI40 cw_6 (by decide +kernel) (by decide +kernel) (by decide +kernel) (by decide +kernel) (by decide +kernel) (by decide +kernel) (by decide +kernel) ⟨by decide +kernel, by decide +kernel⟩ dX12_init_16 ?_
  refine en_putR (ci := 12) (k9 := 6) (pc := 18) 0 tyX12 rfl inW12 tyX12_ok nmX12 (by decide) cw_138 rfl rfl rfl rfl (by decide) (fun _ => rfl) (fun _ => rfl) (by decide +kernel) (Ks' := [(12, 14, 0, [0, 42, 0, 0, 0, 0, 43, 2, 2, 2, 2, 2, 2, 0, 0, 2, 2, 2, 2, 2, 2, 0, 0, 2, 0, 0, 0, 0, 0, 0, 0, 0, 0, 0, 0, 0, 0, 0, 2, 2, 2, 2, 2, 0, 0, 0, 2, 2, 2, 2, 0]), (39, 0, 120, []), (40, 0, 1820, [])]) (by decide +kernel) dX12_init_18 ?_
  refine en_aload_n (pc := 21) 0 dX12_init_21 rfl ?_
  refine en_sipush (pc := 22) 1820 kc_sipush_1820 dX12_init_22 ?_
  refine en_newaI (pc := 25) 41 1820 hI41 cw_6 (by decide +kernel) (by decide +kernel) (by decide +kernel) (by decide +kernel) (by decide +kernel) (by decide +kernel) (by decide +kernel) ⟨by decide +kernel, by decide +kernel⟩ dX12_init_25 ?_
  refine en_putR (ci := 12) (k9 := 7) (pc := 27) 0 tyX12 rfl inW12 tyX12_ok nmX12 (by decide) cw_139 rfl rfl rfl rfl (by decide) (fun _ => rfl) (fun _ => rfl) (by decide +kernel) (Ks' := [(12, 14, 0, [0, 42, 0, 0, 0, 0, 43, 44, 2, 2, 2, 2, 2, 0, 0, 2, 2, 2, 2, 2, 2, 0, 0, 2, 0, 0, 0, 0, 0, 0, 0, 0, 0, 0, 0, 0, 0, 0, 2, 2, 2, 2, 2, 0, 0, 0, 2, 2, 2, 2, 0]), (39, 0, 120, []), (40, 0, 1820, []), (41, 0, 1820, [])]) (by decide +kernel) dX12_init_27 ?_
  refine en_aload_n (pc := 30) 0 dX12_init_30 rfl ?_
  refine en_bipush (pc := 31) 7 kc_bipush_7 dX12_init_31 ?_
  refine en_newaI (pc := 33) 42 7 hI42 cw_6 (by decide +kernel) (by decide +kernel) (by decide +kernel) (by decide +kernel) (by decide +kernel) (by decide +kernel) (by decide +kernel) ⟨by decide +kernel, by decide +kernel⟩ dX12_init_33 ?_
  refine en_putR (ci := 12) (k9 := 8) (pc := 35) 0 tyX12 rfl inW12 tyX12_ok nmX12 (by decide) cw_140 rfl rfl rfl rfl (by decide) (fun _ => rfl) (fun _ => rfl) (by decide +kernel) (Ks' := [(12, 14, 0, [0, 42, 0, 0, 0, 0, 43, 44, 45, 2, 2, 2, 2, 0, 0, 2, 2, 2, 2, 2, 2, 0, 0, 2, 0, 0, 0, 0, 0, 0, 0, 0, 0, 0, 0, 0, 0, 0, 2, 2, 2, 2, 2, 0, 0, 0, 2, 2, 2, 2, 0]), (39, 0, 120, []), (40, 0, 1820, []), (41, 0, 1820, []), (42, 0, 7, [])]) (by decide +kernel) dX12_init_35 ?_
  refine en_aload_n (pc := 38) 0 dX12_init_38 rfl ?_
  refine en_bipush (pc := 39) 7 kc_bipush_7 dX12_init_39 ?_
  refine en_newaI (pc := 41) 43 7 hI43 cw_6 (by decide +kernel) (by decide +kernel) (by decide +kernel) (by decide +kernel) (by decide +kernel) (by decide +kernel) (by decide +kernel) ⟨by decide +kernel, by decide +kernel⟩ dX12_init_41 ?_
  refine en_putR (ci := 12) (k9 := 9) (pc := 43) 0 tyX12 rfl inW12 tyX12_ok nmX12 (by decide) cw_141 rfl rfl rfl rfl (by decide) (fun _ => rfl) (fun _ => rfl) (by decide +kernel) (Ks' := [(12, 14, 0, [0, 42, 0, 0, 0, 0, 43, 44, 45, 46, 2, 2, 2, 0, 0, 2, 2, 2, 2, 2, 2, 0, 0, 2, 0, 0, 0, 0, 0, 0, 0, 0, 0, 0, 0, 0, 0, 0, 2, 2, 2, 2, 2, 0, 0, 0, 2, 2, 2, 2, 0]), (39, 0, 120, []), (40, 0, 1820, []), (41, 0, 1820, []), (42, 0, 7, []), (43, 0, 7, [])]) (by decide +kernel) dX12_init_43 ?_
  refine en_aload_n (pc := 46) 0 dX12_init_46 rfl ?_
  refine en_sipush (pc := 47) 630 kc_sipush_630 dX12_init_47 ?_
  refine en_newaI (pc := 50) 44 630 hI44 cw_6 (by decide +kernel) (by decide +kernel) (by decide +kernel) (by decide +kernel) (by decide +kernel) (by decide +kernel) (by decide +kernel) ⟨by decide +kernel, by decide +kernel⟩ dX12_init_50 ?_
  refine en_putR (ci := 12) (k9 := 10) (pc := 52) 0 tyX12 rfl inW12 tyX12_ok nmX12 (by decide) cw_142 rfl rfl rfl rfl (by decide) (fun _ => rfl) (fun _ => rfl) (by decide +kernel) (Ks' := [(12, 14, 0, [0, 42, 0, 0, 0, 0, 43, 44, 45, 46, 47, 2, 2, 0, 0, 2, 2, 2, 2, 2, 2, 0, 0, 2, 0, 0, 0, 0, 0, 0, 0, 0, 0, 0, 0, 0, 0, 0, 2, 2, 2, 2, 2, 0, 0, 0, 2, 2, 2, 2, 0]), (39, 0, 120, []), (40, 0, 1820, []), (41, 0, 1820, []), (42, 0, 7, []), (43, 0, 7, []), (44, 0, 630, [])]) (by decide +kernel) dX12_init_52 ?_
  refine en_aload_n (pc := 55) 0 dX12_init_55 rfl ?_
  refine en_sipush (pc := 56) 630 kc_sipush_630 dX12_init_56 ?_
  refine en_newaI (pc := 59) 45 630 hI45 cw_6 (by decide +kernel) (by decide +kernel) (by decide +kernel) (by decide +kernel) (by decide +kernel) (by decide +kernel) (by decide +kernel) ⟨by decide +kernel, by decide +kernel⟩ dX12_init_59 ?_
  refine en_putR (ci := 12) (k9 := 11) (pc := 61) 0 tyX12 rfl inW12 tyX12_ok nmX12 (by decide) cw_143 rfl rfl rfl rfl (by decide) (fun _ => rfl) (fun _ => rfl) (by decide +kernel) (Ks' := [(12, 14, 0, [0, 42, 0, 0, 0, 0, 43, 44, 45, 46, 47, 48, 2, 0, 0, 2, 2, 2, 2, 2, 2, 0, 0, 2, 0, 0, 0, 0, 0, 0, 0, 0, 0, 0, 0, 0, 0, 0, 2, 2, 2, 2, 2, 0, 0, 0, 2, 2, 2, 2, 0]), (39, 0, 120, []), (40, 0, 1820, []), (41, 0, 1820, []), (42, 0, 7, []), (43, 0, 7, []), (44, 0, 630, []), (45, 0, 630, [])]) (by decide +kernel) dX12_init_61 ?_
  refine en_aload_n (pc := 64) 0 dX12_init_64 rfl ?_
  refine en_sipush (pc := 65) 630 kc_sipush_630 dX12_init_65 ?_
  refine en_newaI (pc := 68) 46 630 hI46 cw_6 (by decide +kernel) (by decide +kernel) (by decide +kernel) (by decide +kernel) (by decide +kernel) (by decide +kernel) (by decide +kernel) ⟨by decide +kernel, by decide +kernel⟩ dX12_init_68 ?_
  refine en_putR (ci := 12) (k9 := 12) (pc := 70) 0 tyX12 rfl inW12 tyX12_ok nmX12 (by decide) cw_144 rfl rfl rfl rfl (by decide) (fun _ => rfl) (fun _ => rfl) (by decide +kernel) (Ks' := [(12, 14, 0, [0, 42, 0, 0, 0, 0, 43, 44, 45, 46, 47, 48, 49, 0, 0, 2, 2, 2, 2, 2, 2, 0, 0, 2, 0, 0, 0, 0, 0, 0, 0, 0, 0, 0, 0, 0, 0, 0, 2, 2, 2, 2, 2, 0, 0, 0, 2, 2, 2, 2, 0]), (39, 0, 120, []), (40, 0, 1820, []), (41, 0, 1820, []), (42, 0, 7, []), (43, 0, 7, []), (44, 0, 630, []), (45, 0, 630, []), (46, 0, 630, [])]) (by decide +kernel) dX12_init_70 ?_
  refine en_aload_n (pc := 73) 0 dX12_init_73 rfl ?_
  refine en_iconst (pc := 74) 4 kc_iconst_4 dX12_init_74 ?_
  refine en_newaI (pc := 75) 47 4 hI47 cw_6 (by decide +kernel) (by decide +kernel) (by decide +kernel) (by decide +kernel) (by decide +kernel) (by decide +kernel) (by decide +kernel) ⟨by decide +kernel, by decide +kernel⟩ dX12_init_75 ?_
  refine en_putR (ci := 12) (k9 := 15) (pc := 77) 0 tyX12 rfl inW12 tyX12_ok nmX12 (by decide) cw_145 rfl rfl rfl rfl (by decide) (fun _ => rfl) (fun _ => rfl) (by decide +kernel) (Ks' := [(12, 14, 0, [0, 42, 0, 0, 0, 0, 43, 44, 45, 46, 47, 48, 49, 0, 0, 50, 2, 2, 2, 2, 2, 0, 0, 2, 0, 0, 0, 0, 0, 0, 0, 0, 0, 0, 0, 0, 0, 0, 2, 2, 2, 2, 2, 0, 0, 0, 2, 2, 2, 2, 0]), (39, 0, 120, []), (40, 0, 1820, []), (41, 0, 1820, []), (42, 0, 7, []), (43, 0, 7, []), (44, 0, 630, []), (45, 0, 630, []), (46, 0, 630, []), (47, 0, 4, [])]) (by decide +kernel) dX12_init_77 ?_
  refine en_aload_n (pc := 80) 0 dX12_init_80 rfl ?_
  refine en_bipush (pc := 81) 80 kc_bipush_80 dX12_init_81 ?_
  refine en_newaI (pc := 83) 48 80 hI48 cw_6 (by decide +kernel) (by decide +kernel) (by decide +kernel) (by decide +kernel) (by decide +kernel) (by decide +kernel) (by decide +kernel) ⟨by decide +kernel, by decide +kernel⟩ dX12_init_83 ?_
  refine en_putR (ci := 12) (k9 := 16) (pc := 85) 0 tyX12 rfl inW12 tyX12_ok nmX12 (by decide) cw_146 rfl rfl rfl rfl (by decide) (fun _ => rfl) (fun _ => rfl) (by decide +kernel) (Ks' := [(12, 14, 0, [0, 42, 0, 0, 0, 0, 43, 44, 45, 46, 47, 48, 49, 0, 0, 50, 51, 2, 2, 2, 2, 0, 0, 2, 0, 0, 0, 0, 0, 0, 0, 0, 0, 0, 0, 0, 0, 0, 2, 2, 2, 2, 2, 0, 0, 0, 2, 2, 2, 2, 0]), (39, 0, 120, []), (40, 0, 1820, []), (41, 0, 1820, []), (42, 0, 7, []), (43, 0, 7, []), (44, 0, 630, []), (45, 0, 630, []), (46, 0, 630, []), (47, 0, 4, []), (48, 0, 80, [])]) (by decide +kernel) dX12_init_85 ?_
  refine en_aload_n (pc := 88) 0 dX12_init_88 rfl ?_
  refine en_sipush (pc := 89) 216 kc_sipush_216 dX12_init_89 ?_
  refine en_newaI (pc := 92) 49 216 hI49 cw_6 (by decide +kernel) (by decide +kernel) (by decide +kernel) (by decide +kernel) (by decide +kernel) (by decide +kernel) (by decide +kernel) ⟨by decide +kernel, by decide +kernel⟩ dX12_init_92 ?_
  refine en_putR (ci := 12) (k9 := 17) (pc := 94) 0 tyX12 rfl inW12 tyX12_ok nmX12 (by decide) cw_147 rfl rfl rfl rfl (by decide) (fun _ => rfl) (fun _ => rfl) (by decide +kernel) (Ks' := [(12, 14, 0, [0, 42, 0, 0, 0, 0, 43, 44, 45, 46, 47, 48, 49, 0, 0, 50, 51, 52, 2, 2, 2, 0, 0, 2, 0, 0, 0, 0, 0, 0, 0, 0, 0, 0, 0, 0, 0, 0, 2, 2, 2, 2, 2, 0, 0, 0, 2, 2, 2, 2, 0]), (39, 0, 120, []), (40, 0, 1820, []), (41, 0, 1820, []), (42, 0, 7, []), (43, 0, 7, []), (44, 0, 630, []), (45, 0, 630, []), (46, 0, 630, []), (47, 0, 4, []), (48, 0, 80, []), (49, 0, 216, [])]) (by decide +kernel) dX12_init_94 ?_
  refine en_aload_n (pc := 97) 0 dX12_init_97 rfl ?_
  refine en_bipush (pc := 98) 9 kc_bipush_9 dX12_init_98 ?_
  refine en_newaI (pc := 100) 50 9 hI50 cw_6 (by decide +kernel) (by decide +kernel) (by decide +kernel) (by decide +kernel) (by decide +kernel) (by decide +kernel) (by decide +kernel) ⟨by decide +kernel, by decide +kernel⟩ dX12_init_100 ?_
  refine en_putR (ci := 12) (k9 := 18) (pc := 102) 0 tyX12 rfl inW12 tyX12_ok nmX12 (by decide) cw_148 rfl rfl rfl rfl (by decide) (fun _ => rfl) (fun _ => rfl) (by decide +kernel) (Ks' := [(12, 14, 0, [0, 42, 0, 0, 0, 0, 43, 44, 45, 46, 47, 48, 49, 0, 0, 50, 51, 52, 53, 2, 2, 0, 0, 2, 0, 0, 0, 0, 0, 0, 0, 0, 0, 0, 0, 0, 0, 0, 2, 2, 2, 2, 2, 0, 0, 0, 2, 2, 2, 2, 0]), (39, 0, 120, []), (40, 0, 1820, []), (41, 0, 1820, []), (42, 0, 7, []), (43, 0, 7, []), (44, 0, 630, []), (45, 0, 630, []), (46, 0, 630, []), (47, 0, 4, []), (48, 0, 80, []), (49, 0, 216, []), (50, 0, 9, [])]) (by decide +kernel) dX12_init_102 ?_
  refine en_aload_n (pc := 105) 0 dX12_init_105 rfl ?_
  refine en_bipush (pc := 106) 56 kc_bipush_56 dX12_init_106 ?_
  refine en_newaI (pc := 108) 51 56 hI51 cw_6 (by decide +kernel) (by decide +kernel) (by decide +kernel) (by decide +kernel) (by decide +kernel) (by decide +kernel) (by decide +kernel) ⟨by decide +kernel, by decide +kernel⟩ dX12_init_108 ?_
  refine en_putR (ci := 12) (k9 := 19) (pc := 110) 0 tyX12 rfl inW12 tyX12_ok nmX12 (by decide) cw_149 rfl rfl rfl rfl (by decide) (fun _ => rfl) (fun _ => rfl) (by decide +kernel) (Ks' := [(12, 14, 0, [0, 42, 0, 0, 0, 0, 43, 44, 45, 46, 47, 48, 49, 0, 0, 50, 51, 52, 53, 54, 2, 0, 0, 2, 0, 0, 0, 0, 0, 0, 0, 0, 0, 0, 0, 0, 0, 0, 2, 2, 2, 2, 2, 0, 0, 0, 2, 2, 2, 2, 0]), (39, 0, 120, []), (40, 0, 1820, []), (41, 0, 1820, []), (42, 0, 7, []), (43, 0, 7, []), (44, 0, 630, []), (45, 0, 630, []), (46, 0, 630, []), (47, 0, 4, []), (48, 0, 80, []), (49, 0, 216, []), (50, 0, 9, []), (51, 0, 56, [])]) (by decide +kernel) dX12_init_110 ?_
  refine en_aload_n (pc := 113) 0 dX12_init_113 rfl ?_
  refine en_bipush (pc := 114) 7 kc_bipush_7 dX12_init_114 ?_
  refine en_newaI (pc := 116) 52 7 hI52 cw_6 (by decide +kernel) (by decide +kernel) (by decide +kernel) (by decide +kernel) (by decide +kernel) (by decide +kernel) (by decide +kernel) ⟨by decide +kernel, by decide +kernel⟩ dX12_init_116 ?_
  refine en_putR (ci := 12) (k9 := 20) (pc := 118) 0 tyX12 rfl inW12 tyX12_ok nmX12 (by decide) cw_150 rfl rfl rfl rfl (by decide) (fun _ => rfl) (fun _ => rfl) (by decide +kernel) (Ks' := [(12, 14, 0, [0, 42, 0, 0, 0, 0, 43, 44, 45, 46, 47, 48, 49, 0, 0, 50, 51, 52, 53, 54, 55, 0, 0, 2, 0, 0, 0, 0, 0, 0, 0, 0, 0, 0, 0, 0, 0, 0, 2, 2, 2, 2, 2, 0, 0, 0, 2, 2, 2, 2, 0]), (39, 0, 120, []), (40, 0, 1820, []), (41, 0, 1820, []), (42, 0, 7, []), (43, 0, 7, []), (44, 0, 630, []), (45, 0, 630, []), (46, 0, 630, []), (47, 0, 4, []), (48, 0, 80, []), (49, 0, 216, []), (50, 0, 9, []), (51, 0, 56, []), (52, 0, 7, [])]) (by decide +kernel) dX12_init_118 ?_
  refine en_aload_n (pc := 121) 0 dX12_init_121 rfl ?_
  refine en_bipush (pc := 122) 24 kc_bipush_24 dX12_init_122 ?_
  refine en_newaI (pc := 124) 53 24 hI53 cw_6 (by decide +kernel) (by decide +kernel) (by decide +kernel) (by decide +kernel) (by decide +kernel) (by decide +kernel) (by decide +kernel) ⟨by decide +kernel, by decide +kernel⟩ dX12_init_124 ?_
  refine en_putR (ci := 12) (k9 := 23) (pc := 126) 0 tyX12 rfl inW12 tyX12_ok nmX12 (by decide) cw_151 rfl rfl rfl rfl (by decide) (fun _ => rfl) (fun _ => rfl) (by decide +kernel) (Ks' := [(12, 14, 0, [0, 42, 0, 0, 0, 0, 43, 44, 45, 46, 47, 48, 49, 0, 0, 50, 51, 52, 53, 54, 55, 0, 0, 56, 0, 0, 0, 0, 0, 0, 0, 0, 0, 0, 0, 0, 0, 0, 2, 2, 2, 2, 2, 0, 0, 0, 2, 2, 2, 2, 0]), (39, 0, 120, []), (40, 0, 1820, []), (41, 0, 1820, []), (42, 0, 7, []), (43, 0, 7, []), (44, 0, 630, []), (45, 0, 630, []), (46, 0, 630, []), (47, 0, 4, []), (48, 0, 80, []), (49, 0, 216, []), (50, 0, 9, []), (51, 0, 56, []), (52, 0, 7, []), (53, 0, 24, [])]) (by decide +kernel) dX12_init_126 ?_
  refine en_aload_n (pc := 129) 0 dX12_init_129 rfl ?_
  refine en_iconst (pc := 130) 1 kc_iconst_1 dX12_init_130 ?_
  refine en_putI (ci := 12) (k9 := 32) (pc := 131) 0 tyX12 rfl inW12 tyX12_ok nmX12 (by decide) cw_152 rfl rfl rfl rfl rfl (by decide +kernel) (by decide +kernel) dX12_init_131 ?_
  refine en_aload_n (pc := 134) 0 dX12_init_134 rfl ?_
  refine en_iconst (pc := 135) 1 kc_iconst_1 dX12_init_135 ?_
  refine en_putI (ci := 12) (k9 := 33) (pc := 136) 0 tyX12 rfl inW12 tyX12_ok nmX12 (by decide) cw_153 rfl rfl rfl rfl rfl (by decide +kernel) (by decide +kernel) dX12_init_136 ?_
  refine en_aload_n (pc := 139) 0 dX12_init_139 rfl ?_
  refine en_iconst (pc := 140) 1 kc_iconst_1 dX12_init_140 ?_
  refine en_putI (ci := 12) (k9 := 34) (pc := 141) 0 tyX12 rfl inW12 tyX12_ok nmX12 (by decide) cw_154 rfl rfl rfl rfl rfl (by decide +kernel) (by decide +kernel) dX12_init_141 ?_
  refine en_aload_n (pc := 144) 0 dX12_init_144 rfl ?_
  refine en_iconst (pc := 145) 3 kc_iconst_3 dX12_init_145 ?_
  refine en_putI (ci := 12) (k9 := 35) (pc := 146) 0 tyX12 rfl inW12 tyX12_ok nmX12 (by decide) cw_155 rfl rfl rfl rfl rfl (by decide +kernel) (by decide +kernel) dX12_init_146 ?_
  refine en_aload_n (pc := 149) 0 dX12_init_149 rfl ?_
  refine en_iconst (pc := 150) 3 kc_iconst_3 dX12_init_150 ?_
  refine en_putI (ci := 12) (k9 := 36) (pc := 151) 0 tyX12 rfl inW12 tyX12_ok nmX12 (by decide) cw_156 rfl rfl rfl rfl rfl (by decide +kernel) (by decide +kernel) dX12_init_151 ?_
  refine en_aload_n (pc := 154) 0 dX12_init_154 rfl ?_
  refine en_bipush (pc := 155) 20 kc_bipush_20 dX12_init_155 ?_
  refine en_putI (ci := 12) (k9 := 37) (pc := 157) 0 tyX12 rfl inW12 tyX12_ok nmX12 (by decide) cw_157 rfl rfl rfl rfl rfl (by decide +kernel) (by decide +kernel) dX12_init_157 ?_
  refine en_aload_n (pc := 160) 0 dX12_init_160 rfl ?_
  refine en_bipush (pc := 161) 8 kc_bipush_8 dX12_init_161 ?_
  refine en_newaI (pc := 163) 54 8 ((uI_o (by decide)).trans ((uI_o (by decide)).trans ((uI_o (by decide)).trans ((uI_o (by decide)).trans ((uI_o (by decide)).trans ((uI_o (by decide)).trans hI54)))))) cw_6 (by decide +kernel) (by decide +kernel) (by decide +kernel) (by decide +kernel) (by decide +kernel) (by decide +kernel) (by decide +kernel) ⟨by decide +kernel, by decide +kernel⟩ dX12_init_163 ?_
  refine en_putR (ci := 12) (k9 := 38) (pc := 165) 0 tyX12 rfl inW12 tyX12_ok nmX12 (by decide) cw_158 rfl rfl rfl rfl (by decide) (fun _ => rfl) (fun _ => rfl) (by decide +kernel) (Ks' := [(12, 14, 0, [0, 42, 0, 0, 0, 0, 43, 44, 45, 46, 47, 48, 49, 0, 0, 50, 51, 52, 53, 54, 55, 0, 0, 56, 0, 0, 0, 0, 0, 0, 0, 0, 0, 0, 0, 0, 0, 0, 57, 2, 2, 2, 2, 0, 0, 0, 2, 2, 2, 2, 0]), (39, 0, 120, []), (40, 0, 1820, []), (41, 0, 1820, []), (42, 0, 7, []), (43, 0, 7, []), (44, 0, 630, []), (45, 0, 630, []), (46, 0, 630, []), (47, 0, 4, []), (48, 0, 80, []), (49, 0, 216, []), (50, 0, 9, []), (51, 0, 56, []), (52, 0, 7, []), (53, 0, 24, []), (54, 0, 8, [])]) (by decide +kernel) dX12_init_165 ?_
  refine en_aload_n (pc := 168) 0 dX12_init_168 rfl ?_
  refine en_bipush (pc := 169) 41 kc_bipush_41 dX12_init_169 ?_
  refine en_newaI (pc := 171) 55 41 ((uI_o (by decide)).trans ((uI_o (by decide)).trans ((uI_o (by decide)).trans ((uI_o (by decide)).trans ((uI_o (by decide)).trans ((uI_o (by decide)).trans hI55)))))) cw_6 (by decide +kernel) (by decide +kernel) (by decide +kernel) (by decide +kernel) (by decide +kernel) (by decide +kernel) (by decide +kernel) ⟨by decide +kernel, by decide +kernel⟩ dX12_init_171 ?_
  refine en_putR (ci := 12) (k9 := 39) (pc := 173) 0 tyX12 rfl inW12 tyX12_ok nmX12 (by decide) cw_159 rfl rfl rfl rfl (by decide) (fun _ => rfl) (fun _ => rfl) (by decide +kernel) (Ks' := [(12, 14, 0, [0, 42, 0, 0, 0, 0, 43, 44, 45, 46, 47, 48, 49, 0, 0, 50, 51, 52, 53, 54, 55, 0, 0, 56, 0, 0, 0, 0, 0, 0, 0, 0, 0, 0, 0, 0, 0, 0, 57, 58, 2, 2, 2, 0, 0, 0, 2, 2, 2, 2, 0]), (39, 0, 120, []), (40, 0, 1820, []), (41, 0, 1820, []), (42, 0, 7, []), (43, 0, 7, []), (44, 0, 630, []), (45, 0, 630, []), (46, 0, 630, []), (47, 0, 4, []), (48, 0, 80, []), (49, 0, 216, []), (50, 0, 9, []), (51, 0, 56, []), (52, 0, 7, []), (53, 0, 24, []), (54, 0, 8, []), (55, 0, 41, [])]) (by decide +kernel) dX12_init_173 ?_
  refine en_aload_n (pc := 176) 0 dX12_init_176 rfl ?_
  refine en_sipush (pc := 177) 1230 kc_sipush_1230 dX12_init_177 ?_
  refine en_newaI (pc := 180) 56 1230 ((uI_o (by decide)).trans ((uI_o (by decide)).trans ((uI_o (by decide)).trans ((uI_o (by decide)).trans ((uI_o (by decide)).trans ((uI_o (by decide)).trans hI56)))))) cw_6 (by decide +kernel) (by decide +kernel) (by decide +kernel) (by decide +kernel) (by decide +kernel) (by decide +kernel) (by decide +kernel) ⟨by decide +kernel, by decide +kernel⟩ dX12_init_180 ?_
  refine en_putR (ci := 12) (k9 := 40) (pc := 182) 0 tyX12 rfl inW12 tyX12_ok nmX12 (by decide) cw_160 rfl rfl rfl rfl (by decide) (fun _ => rfl) (fun _ => rfl) (by decide +kernel) (Ks' := [(12, 14, 0, [0, 42, 0, 0, 0, 0, 43, 44, 45, 46, 47, 48, 49, 0, 0, 50, 51, 52, 53, 54, 55, 0, 0, 56, 0, 0, 0, 0, 0, 0, 0, 0, 0, 0, 0, 0, 0, 0, 57, 58, 59, 2, 2, 0, 0, 0, 2, 2, 2, 2, 0]), (39, 0, 120, []), (40, 0, 1820, []), (41, 0, 1820, []), (42, 0, 7, []), (43, 0, 7, []), (44, 0, 630, []), (45, 0, 630, []), (46, 0, 630, []), (47, 0, 4, []), (48, 0, 80, []), (49, 0, 216, []), (50, 0, 9, []), (51, 0, 56, []), (52, 0, 7, []), (53, 0, 24, []), (54, 0, 8, []), (55, 0, 41, []), (56, 0, 1230, [])]) (by decide +kernel) dX12_init_182 ?_
  refine en_aload_n (pc := 185) 0 dX12_init_185 rfl ?_
  refine en_sipush (pc := 186) 1230 kc_sipush_1230 dX12_init_186 ?_
  refine en_newaI (pc := 189) 57 1230 ((uI_o (by decide)).trans ((uI_o (by decide)).trans ((uI_o (by decide)).trans ((uI_o (by decide)).trans ((uI_o (by decide)).trans ((uI_o (by decide)).trans hI57)))))) cw_6 (by decide +kernel) (by decide +kernel) (by decide +kernel) (by decide +kernel) (by decide +kernel) (by decide +kernel) (by decide +kernel) ⟨by decide +kernel, by decide +kernel⟩ dX12_init_189 ?_
  refine en_putR (ci := 12) (k9 := 41) (pc := 191) 0 tyX12 rfl inW12 tyX12_ok nmX12 (by decide) cw_161 rfl rfl rfl rfl (by decide) (fun _ => rfl) (fun _ => rfl) (by decide +kernel) (Ks' := [(12, 14, 0, [0, 42, 0, 0, 0, 0, 43, 44, 45, 46, 47, 48, 49, 0, 0, 50, 51, 52, 53, 54, 55, 0, 0, 56, 0, 0, 0, 0, 0, 0, 0, 0, 0, 0, 0, 0, 0, 0, 57, 58, 59, 60, 2, 0, 0, 0, 2, 2, 2, 2, 0]), (39, 0, 120, []), (40, 0, 1820, []), (41, 0, 1820, []), (42, 0, 7, []), (43, 0, 7, []), (44, 0, 630, []), (45, 0, 630, []), (46, 0, 630, []), (47, 0, 4, []), (48, 0, 80, []), (49, 0, 216, []), (50, 0, 9, []), (51, 0, 56, []), (52, 0, 7, []), (53, 0, 24, []), (54, 0, 8, []), (55, 0, 41, []), (56, 0, 1230, []), (57, 0, 1230, [])]) (by decide +kernel) dX12_init_191 ?_
  refine en_aload_n (pc := 194) 0 dX12_init_194 rfl ?_
  refine en_bipush (pc := 195) 41 kc_bipush_41 dX12_init_195 ?_
  refine en_newaI (pc := 197) 58 41 ((uI_o (by decide)).trans ((uI_o (by decide)).trans ((uI_o (by decide)).trans ((uI_o (by decide)).trans ((uI_o (by decide)).trans ((uI_o (by decide)).trans hI58)))))) cw_6 (by decide +kernel) (by decide +kernel) (by decide +kernel) (by decide +kernel) (by decide +kernel) (by decide +kernel) (by decide +kernel) ⟨by decide +kernel, by decide +kernel⟩ dX12_init_197 ?_
  refine en_putR (ci := 12) (k9 := 42) (pc := 199) 0 tyX12 rfl inW12 tyX12_ok nmX12 (by decide) cw_162 rfl rfl rfl rfl (by decide) (fun _ => rfl) (fun _ => rfl) (by decide +kernel) (Ks' := [(12, 14, 0, [0, 42, 0, 0, 0, 0, 43, 44, 45, 46, 47, 48, 49, 0, 0, 50, 51, 52, 53, 54, 55, 0, 0, 56, 0, 0, 0, 0, 0, 0, 0, 0, 0, 0, 0, 0, 0, 0, 57, 58, 59, 60, 61, 0, 0, 0, 2, 2, 2, 2, 0]), (39, 0, 120, []), (40, 0, 1820, []), (41, 0, 1820, []), (42, 0, 7, []), (43, 0, 7, []), (44, 0, 630, []), (45, 0, 630, []), (46, 0, 630, []), (47, 0, 4, []), (48, 0, 80, []), (49, 0, 216, []), (50, 0, 9, []), (51, 0, 56, []), (52, 0, 7, []), (53, 0, 24, []), (54, 0, 8, []), (55, 0, 41, []), (56, 0, 1230, []), (57, 0, 1230, []), (58, 0, 41, [])]) (by decide +kernel) dX12_init_199 ?_
  refine en_aload_n (pc := 202) 0 dX12_init_202 rfl ?_
  refine en_bipush (pc := 203) 16 kc_bipush_16 dX12_init_203 ?_
  refine en_newaI (pc := 205) 59 16 ((uI_o (by decide)).trans ((uI_o (by decide)).trans ((uI_o (by decide)).trans ((uI_o (by decide)).trans ((uI_o (by decide)).trans ((uI_o (by decide)).trans hI59)))))) cw_6 (by decide +kernel) (by decide +kernel) (by decide +kernel) (by decide +kernel) (by decide +kernel) (by decide +kernel) (by decide +kernel) ⟨by decide +kernel, by decide +kernel⟩ dX12_init_205 ?_
  refine en_putR (ci := 12) (k9 := 46) (pc := 207) 0 tyX12 rfl inW12 tyX12_ok nmX12 (by decide) cw_163 rfl rfl rfl rfl (by decide) (fun _ => rfl) (fun _ => rfl) (by decide +kernel) (Ks' := [(12, 14, 0, [0, 42, 0, 0, 0, 0, 43, 44, 45, 46, 47, 48, 49, 0, 0, 50, 51, 52, 53, 54, 55, 0, 0, 56, 0, 0, 0, 0, 0, 0, 0, 0, 0, 0, 0, 0, 0, 0, 57, 58, 59, 60, 61, 0, 0, 0, 62, 2, 2, 2, 0]), (39, 0, 120, []), (40, 0, 1820, []), (41, 0, 1820, []), (42, 0, 7, []), (43, 0, 7, []), (44, 0, 630, []), (45, 0, 630, []), (46, 0, 630, []), (47, 0, 4, []), (48, 0, 80, []), (49, 0, 216, []), (50, 0, 9, []), (51, 0, 56, []), (52, 0, 7, []), (53, 0, 24, []), (54, 0, 8, []), (55, 0, 41, []), (56, 0, 1230, []), (57, 0, 1230, []), (58, 0, 41, []), (59, 0, 16, [])]) (by decide +kernel) dX12_init_207 ?_
  refine en_aload_n (pc := 210) 0 dX12_init_210 rfl ?_
  refine en_bipush (pc := 211) 8 kc_bipush_8 dX12_init_211 ?_
  refine en_newaI (pc := 213) 60 8 ((uI_o (by decide)).trans ((uI_o (by decide)).trans ((uI_o (by decide)).trans ((uI_o (by decide)).trans ((uI_o (by decide)).trans ((uI_o (by decide)).trans hI60)))))) cw_6 (by decide +kernel) (by decide +kernel) (by decide +kernel) (by decide +kernel) (by decide +kernel) (by decide +kernel) (by decide +kernel) ⟨by decide +kernel, by decide +kernel⟩ dX12_init_213 ?_
  refine en_putR (ci := 12) (k9 := 47) (pc := 215) 0 tyX12 rfl inW12 tyX12_ok nmX12 (by decide) cw_164 rfl rfl rfl rfl (by decide) (fun _ => rfl) (fun _ => rfl) (by decide +kernel) (Ks' := [(12, 14, 0, [0, 42, 0, 0, 0, 0, 43, 44, 45, 46, 47, 48, 49, 0, 0, 50, 51, 52, 53, 54, 55, 0, 0, 56, 0, 0, 0, 0, 0, 0, 0, 0, 0, 0, 0, 0, 0, 0, 57, 58, 59, 60, 61, 0, 0, 0, 62, 63, 2, 2, 0]), (39, 0, 120, []), (40, 0, 1820, []), (41, 0, 1820, []), (42, 0, 7, []), (43, 0, 7, []), (44, 0, 630, []), (45, 0, 630, []), (46, 0, 630, []), (47, 0, 4, []), (48, 0, 80, []), (49, 0, 216, []), (50, 0, 9, []), (51, 0, 56, []), (52, 0, 7, []), (53, 0, 24, []), (54, 0, 8, []), (55, 0, 41, []), (56, 0, 1230, []), (57, 0, 1230, []), (58, 0, 41, []), (59, 0, 16, []), (60, 0, 8, [])]) (by decide +kernel) dX12_init_215 ?_
  refine en_aload_n (pc := 218) 0 dX12_init_218 rfl ?_
  refine en_bipush (pc := 219) 8 kc_bipush_8 dX12_init_219 ?_
  refine en_newaI (pc := 221) 61 8 ((uI_o (by decide)).trans ((uI_o (by decide)).trans ((uI_o (by decide)).trans ((uI_o (by decide)).trans ((uI_o (by decide)).trans ((uI_o (by decide)).trans hI61)))))) cw_6 (by decide +kernel) (by decide +kernel) (by decide +kernel) (by decide +kernel) (by decide +kernel) (by decide +kernel) (by decide +kernel) ⟨by decide +kernel, by decide +kernel⟩ dX12_init_221 ?_
  refine en_putR (ci := 12) (k9 := 48) (pc := 223) 0 tyX12 rfl inW12 tyX12_ok nmX12 (by decide) cw_165 rfl rfl rfl rfl (by decide) (fun _ => rfl) (fun _ => rfl) (by decide +kernel) (Ks' := [(12, 14, 0, [0, 42, 0, 0, 0, 0, 43, 44, 45, 46, 47, 48, 49, 0, 0, 50, 51, 52, 53, 54, 55, 0, 0, 56, 0, 0, 0, 0, 0, 0, 0, 0, 0, 0, 0, 0, 0, 0, 57, 58, 59, 60, 61, 0, 0, 0, 62, 63, 64, 2, 0]), (39, 0, 120, []), (40, 0, 1820, []), (41, 0, 1820, []), (42, 0, 7, []), (43, 0, 7, []), (44, 0, 630, []), (45, 0, 630, []), (46, 0, 630, []), (47, 0, 4, []), (48, 0, 80, []), (49, 0, 216, []), (50, 0, 9, []), (51, 0, 56, []), (52, 0, 7, []), (53, 0, 24, []), (54, 0, 8, []), (55, 0, 41, []), (56, 0, 1230, []), (57, 0, 1230, []), (58, 0, 41, []), (59, 0, 16, []), (60, 0, 8, []), (61, 0, 8, [])]) (by decide +kernel) dX12_init_223 ?_
  refine en_aload_n (pc := 226) 0 dX12_init_226 rfl ?_
  refine en_bipush (pc := 227) 8 kc_bipush_8 dX12_init_227 ?_
  refine en_newaI (pc := 229) 62 8 ((uI_o (by decide)).trans ((uI_o (by decide)).trans ((uI_o (by decide)).trans ((uI_o (by decide)).trans ((uI_o (by decide)).trans ((uI_o (by decide)).trans hI62)))))) cw_6 (by decide +kernel) (by decide +kernel) (by decide +kernel) (by decide +kernel) (by decide +kernel) (by decide +kernel) (by decide +kernel) ⟨by decide +kernel, by decide +kernel⟩ dX12_init_229 ?_
  refine en_putR (ci := 12) (k9 := 49) (pc := 231) 0 tyX12 rfl inW12 tyX12_ok nmX12 (by decide) cw_166 rfl rfl rfl rfl (by decide) (fun _ => rfl) (fun _ => rfl) (by decide +kernel) (Ks' := [(12, 14, 0, [0, 42, 0, 0, 0, 0, 43, 44, 45, 46, 47, 48, 49, 0, 0, 50, 51, 52, 53, 54, 55, 0, 0, 56, 0, 0, 0, 0, 0, 0, 0, 0, 0, 0, 0, 0, 0, 0, 57, 58, 59, 60, 61, 0, 0, 0, 62, 63, 64, 65, 0]), (39, 0, 120, []), (40, 0, 1820, []), (41, 0, 1820, []), (42, 0, 7, []), (43, 0, 7, []), (44, 0, 630, []), (45, 0, 630, []), (46, 0, 630, []), (47, 0, 4, []), (48, 0, 80, []), (49, 0, 216, []), (50, 0, 9, []), (51, 0, 56, []), (52, 0, 7, []), (53, 0, 24, []), (54, 0, 8, []), (55, 0, 41, []), (56, 0, 1230, []), (57, 0, 1230, []), (58, 0, 41, []), (59, 0, 16, []), (60, 0, 8, []), (61, 0, 8, []), (62, 0, 8, [])]) (by decide +kernel) dX12_init_231 ?_
  refine en_iconst (pc := 234) 0 kc_iconst_0 dX12_init_234 ?_
  refine en_istore_n (pc := 235) (lv' := [(1, .int 0), (0, .ref 12)]) dX12_init_235 rfl rfl rfl ?_
  refine en_iload_n (pc := 236) 0 dX12_init_236 rfl ?_
  refine en_bipush (pc := 237) 8 kc_bipush_8 dX12_init_237 ?_
  refine en_icmp_ge (pc := 239) 255 (by decide) dX12_init_239 (fun h9 => absurd h9 (by decide +kernel)) (fun _ => ?_)
  refine en_aload_n (pc := 242) 1 dX12_init_242 rfl ?_
  refine en_getR (ci := 12) (k9 := 38) (pc := 243) 0 rfl inW12 (by decide) cw_158 rfl rfl dX12_init_243 ?_
  refine en_iload_n (pc := 246) 0 dX12_init_246 rfl ?_
  refine en_iconst (pc := 247) (-1 : Int32) kc_iconst_m1 dX12_init_247 ?_
  refine en_iast (pc := 248) 16 rfl (by decide +kernel) (by unfold vp_in; decide +kernel) (by decide +kernel) dX12_init_248 ?_
  refine en_iinc (pc := 249) (lv' := [(1, .int 1), (0, .ref 12)]) dX12_init_249 0 rfl rfl 1 (by decide +kernel) rfl ?_
  refine en_goto (pc := 252) 236 (by decide) dX12_init_252 ?_
  refine en_iload_n (pc := 236) 0 dX12_init_236 rfl ?_
  refine en_bipush (pc := 237) 8 kc_bipush_8 dX12_init_237 ?_
  refine en_icmp_ge (pc := 239) 255 (by decide) dX12_init_239 (fun h9 => absurd h9 (by decide +kernel)) (fun _ => ?_)
  refine en_aload_n (pc := 242) 1 dX12_init_242 rfl ?_
  refine en_getR (ci := 12) (k9 := 38) (pc := 243) 0 rfl inW12 (by decide) cw_158 rfl rfl dX12_init_243 ?_
  refine en_iload_n (pc := 246) 0 dX12_init_246 rfl ?_
  refine en_iconst (pc := 247) (-1 : Int32) kc_iconst_m1 dX12_init_247 ?_
  refine en_iast (pc := 248) 16 rfl (by decide +kernel) (by unfold vp_in; decide +kernel) (by decide +kernel) dX12_init_248 ?_
  refine en_iinc (pc := 249) (lv' := [(1, .int 2), (0, .ref 12)]) dX12_init_249 0 rfl rfl 2 (by decide +kernel) rfl ?_
  refine en_goto (pc := 252) 236 (by decide) dX12_init_252 ?_
  refine en_iload_n (pc := 236) 0 dX12_init_236 rfl ?_
  refine en_bipush (pc := 237) 8 kc_bipush_8 dX12_init_237 ?_
  refine en_icmp_ge (pc := 239) 255 (by decide) dX12_init_239 (fun h9 => absurd h9 (by decide +kernel)) (fun _ => ?_)
  refine en_aload_n (pc := 242) 1 dX12_init_242 rfl ?_
  refine en_getR (ci := 12) (k9 := 38) (pc := 243) 0 rfl inW12 (by decide) cw_158 rfl rfl dX12_init_243 ?_
  refine en_iload_n (pc := 246) 0 dX12_init_246 rfl ?_
  refine en_iconst (pc := 247) (-1 : Int32) kc_iconst_m1 dX12_init_247 ?_
  refine en_iast (pc := 248) 16 rfl (by decide +kernel) (by unfold vp_in; decide +kernel) (by decide +kernel) dX12_init_248 ?_
  refine en_iinc (pc := 249) (lv' := [(1, .int 3), (0, .ref 12)]) dX12_init_249 0 rfl rfl 3 (by decide +kernel) rfl ?_
  refine en_goto (pc := 252) 236 (by decide) dX12_init_252 ?_
  refine en_iload_n (pc := 236) 0 dX12_init_236 rfl ?_
  refine en_bipush (pc := 237) 8 kc_bipush_8 dX12_init_237 ?_
  refine en_icmp_ge (pc := 239) 255 (by decide) dX12_init_239 (fun h9 => absurd h9 (by decide +kernel)) (fun _ => ?_)
  refine en_aload_n (pc := 242) 1 dX12_init_242 rfl ?_
  refine en_getR (ci := 12) (k9 := 38) (pc := 243) 0 rfl inW12 (by decide) cw_158 rfl rfl dX12_init_243 ?_
  refine en_iload_n (pc := 246) 0 dX12_init_246 rfl ?_
  refine en_iconst (pc := 247) (-1 : Int32) kc_iconst_m1 dX12_init_247 ?_
  refine en_iast (pc := 248) 16 rfl (by decide +kernel) (by unfold vp_in; decide +kernel) (by decide +kernel) dX12_init_248 ?_
  refine en_iinc (pc := 249) (lv' := [(1, .int 4), (0, .ref 12)]) dX12_init_249 0 rfl rfl 4 (by decide +kernel) rfl ?_
  refine en_goto (pc := 252) 236 (by decide) dX12_init_252 ?_
  refine en_iload_n (pc := 236) 0 dX12_init_236 rfl ?_
  refine en_bipush (pc := 237) 8 kc_bipush_8 dX12_init_237 ?_
  refine en_icmp_ge (pc := 239) 255 (by decide) dX12_init_239 (fun h9 => absurd h9 (by decide +kernel)) (fun _ => ?_)
  refine en_aload_n (pc := 242) 1 dX12_init_242 rfl ?_
  refine en_getR (ci := 12) (k9 := 38) (pc := 243) 0 rfl inW12 (by decide) cw_158 rfl rfl dX12_init_243 ?_
  refine en_iload_n (pc := 246) 0 dX12_init_246 rfl ?_
  refine en_iconst (pc := 247) (-1 : Int32) kc_iconst_m1 dX12_init_247 ?_
  refine en_iast (pc := 248) 16 rfl (by decide +kernel) (by unfold vp_in; decide +kernel) (by decide +kernel) dX12_init_248 ?_
  refine en_iinc (pc := 249) (lv' := [(1, .int 5), (0, .ref 12)]) dX12_init_249 0 rfl rfl 5 (by decide +kernel) rfl ?_
  refine en_goto (pc := 252) 236 (by decide) dX12_init_252 ?_
  refine en_iload_n (pc := 236) 0 dX12_init_236 rfl ?_
  refine en_bipush (pc := 237) 8 kc_bipush_8 dX12_init_237 ?_
  refine en_icmp_ge (pc := 239) 255 (by decide) dX12_init_239 (fun h9 => absurd h9 (by decide +kernel)) (fun _ => ?_)
  refine en_aload_n (pc := 242) 1 dX12_init_242 rfl ?_
  refine en_getR (ci := 12) (k9 := 38) (pc := 243) 0 rfl inW12 (by decide) cw_158 rfl rfl dX12_init_243 ?_
  refine en_iload_n (pc := 246) 0 dX12_init_246 rfl ?_
  refine en_iconst (pc := 247) (-1 : Int32) kc_iconst_m1 dX12_init_247 ?_
  refine en_iast (pc := 248) 16 rfl (by decide +kernel) (by unfold vp_in; decide +kernel) (by decide +kernel) dX12_init_248 ?_
  refine en_iinc (pc := 249) (lv' := [(1, .int 6), (0, .ref 12)]) dX12_init_249 0 rfl rfl 6 (by decide +kernel) rfl ?_
  refine en_goto (pc := 252) 236 (by decide) dX12_init_252 ?_
  refine en_iload_n (pc := 236) 0 dX12_init_236 rfl ?_
  refine en_bipush (pc := 237) 8 kc_bipush_8 dX12_init_237 ?_
  refine en_icmp_ge (pc := 239) 255 (by decide) dX12_init_239 (fun h9 => absurd h9 (by decide +kernel)) (fun _ => ?_)
  refine en_aload_n (pc := 242) 1 dX12_init_242 rfl ?_
  refine en_getR (ci := 12) (k9 := 38) (pc := 243) 0 rfl inW12 (by decide) cw_158 rfl rfl dX12_init_243 ?_
  refine en_iload_n (pc := 246) 0 dX12_init_246 rfl ?_
  refine en_iconst (pc := 247) (-1 : Int32) kc_iconst_m1 dX12_init_247 ?_
  refine en_iast (pc := 248) 16 rfl (by decide +kernel) (by unfold vp_in; decide +kernel) (by decide +kernel) dX12_init_248 ?_
  refine en_iinc (pc := 249) (lv' := [(1, .int 7), (0, .ref 12)]) dX12_init_249 0 rfl rfl 7 (by decide +kernel) rfl ?_
  refine en_goto (pc := 252) 236 (by decide) dX12_init_252 ?_
  refine en_iload_n (pc := 236) 0 dX12_init_236 rfl ?_
  refine en_bipush (pc := 237) 8 kc_bipush_8 dX12_init_237 ?_
  refine en_icmp_ge (pc := 239) 255 (by decide) dX12_init_239 (fun h9 => absurd h9 (by decide +kernel)) (fun _ => ?_)
  refine en_aload_n (pc := 242) 1 dX12_init_242 rfl ?_
  refine en_getR (ci := 12) (k9 := 38) (pc := 243) 0 rfl inW12 (by decide) cw_158 rfl rfl dX12_init_243 ?_
  refine en_iload_n (pc := 246) 0 dX12_init_246 rfl ?_
  refine en_iconst (pc := 247) (-1 : Int32) kc_iconst_m1 dX12_init_247 ?_
  refine en_iast (pc := 248) 16 rfl (by decide +kernel) (by unfold vp_in; decide +kernel) (by decide +kernel) dX12_init_248 ?_
  refine en_iinc (pc := 249) (lv' := [(1, .int 8), (0, .ref 12)]) dX12_init_249 0 rfl rfl 8 (by decide +kernel) rfl ?_
  refine en_goto (pc := 252) 236 (by decide) dX12_init_252 ?_
  refine en_iload_n (pc := 236) 0 dX12_init_236 rfl ?_
  refine en_bipush (pc := 237) 8 kc_bipush_8 dX12_init_237 ?_
  refine en_icmp_ge (pc := 239) 255 (by decide) dX12_init_239 (fun _ => ?_) (fun h9 => absurd (by decide +kernel) h9)
  exact en_ret rfl rfl rfl rfl rfl dX12_init_255
