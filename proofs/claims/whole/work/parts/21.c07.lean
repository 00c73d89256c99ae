theorem cw_59 : Cond.methodLink RX2 5 Lib.objectInit ∈ WL := wl_of (List.mem_append_right _ (in_t1 (List.mem_of_getElem? (i := 217) rfl))) rfl
theorem kc_sipush_1240 : (Int16.ofInt (1240)).toInt32 = 1240 := by decide +kernel
theorem cw_60 : Cond.fieldLink RX2 11 "PulseParts$Cells" "states" "[I" ∈ WL := wl_of (List.mem_append_right _ (in_t1 (List.mem_of_getElem? (i := 218) rfl))) rfl
theorem kc_bipush_31 : (Int8.ofInt (31)).toInt32 = 31 := by decide +kernel
theorem cw_61 : Cond.fieldLink RX2 15 "PulseParts$Cells" "sizes" "[I" ∈ WL := wl_of (List.mem_append_right _ (in_t1 (List.mem_of_getElem? (i := 219) rfl))) rfl
theorem kc_bipush_40 : (Int8.ofInt (40)).toInt32 = 40 := by decide +kernel
theorem cw_62 : Cond.fieldLink RX2 18 "PulseParts$Cells" "image" "[I" ∈ WL := wl_of (List.mem_append_right _ (in_t1 (List.mem_of_getElem? (i := 220) rfl))) rfl
theorem cw_63 : Cond.fieldLink RX2 21 "PulseParts$Cells" "imageSize" "I" ∈ WL := wl_of (List.mem_append_right _ (in_t1 (List.mem_of_getElem? (i := 221) rfl))) rfl
theorem cw_64 : Cond.instanceMethod yX2_init ∈ WL := wl_of (List.mem_append_right _ (in_t1 (List.mem_of_getElem? (i := 215) rfl))) rfl
theorem cw_65 : Cond.initialized RX2 ∈ WL := wl_of (List.mem_append_right _ (in_t1 (List.mem_of_getElem? (i := 10) rfl))) rfl
theorem cw_66 : Cond.code yX2_init cX2_init 1 none ∈ WL := wl_of (List.mem_append_right _ (in_t1 (List.mem_of_getElem? (i := 216) rfl))) rfl
theorem ci_X2_init : CalI M_X2_init_i 0 := ⟨cw_64, cw_65, cw_66, rfl, by decide +kernel, by decide, rfl⟩
set_option maxRecDepth 100000 in
set_option maxHeartbeats 4000000 in
theorem ct_X2_init (d : Nat) (I : PI) (L : PL) (hI30 : I 30 = fun _ => 0) (hI31 : I 31 = fun _ => 0) (hI32 : I 32 = fun _ => 0) : CtorOk M_X2_init_i (d + 1) [.ref 2] [2] [(2, 4, 0, [2, 2, 2, 0, 0, 0, 0])] I L [(2, 4, 0, [33, 34, 35, 0, 0, 0, 0]), (30, 0, 1240, []), (31, 0, 31, []), (32, 0, 40, [])] (uI I 2 3 (-1 : Int32)) (L) (3, 1311) := by
  refine CtorOk.of (by decide +kernel) (Nat.le_of_ble_eq_true rfl) ?_
  show EvN _ _ _ _ _ _ _ _ 0 [(0, .ref 2)] [] I L
  refine en_aload_n (pc := 0) 0 dX2_init_0 rfl ?_
  refine en_objInit (d := d) (pc := 1) cw_59 cw_4 cw_5 (Nat.le_of_ble_eq_true rfl) dX2_init_1 ?_
  refine en_aload_n (pc := 4) 0 dX2_init_4 rfl ?_
  refine en_sipush (pc := 5) 1240 kc_sipush_1240 dX2_init_5 ?_
  refine en_newaI (pc := 8) 30 1240 hI30 cw_6 (by decide +kernel) (by decide +kernel) (by decide +kernel) (by decide +kernel) (by decide +kernel) (by decide +kernel) (by decide +kernel) ⟨by decide +kernel, by decide +kernel⟩ dX2_init_8 ?_
  refine en_putR (ci := 2) (k9 := 0) (pc := 10) 0 tyX2 rfl inW2 tyX2_ok nmX2 (by decide) cw_60 rfl rfl rfl rfl (by decide) (fun _ => rfl) (fun _ => rfl) (by decide +kernel) (Ks' := [(2, 4, 0, [33, 2, 2, 0, 0, 0, 0]), (30, 0, 1240, [])]) (by decide +kernel) dX2_init_10 ?_
  refine en_aload_n (pc := 13) 0 dX2_init_13 rfl ?_
  refine en_bipush (pc := 14) 31 kc_bipush_31 dX2_init_14 ?_
  refine en_newaI (pc := 16) 31 31 hI31 cw_6 (by decide +kernel) (by decide +kernel) (by decide +kernel) (by decide +kernel) (by decide +kernel) (by decide +kernel) (by decide +kernel) ⟨by decide +kernel, by decide +kernel⟩ dX2_init_16 ?_
  refine en_putR (ci := 2) (k9 := 1) (pc := 18) 0 tyX2 rfl inW2 tyX2_ok nmX2 (by decide) cw_61 rfl rfl rfl rfl (by decide) (fun _ => rfl) (fun _ => rfl) (by decide +kernel) (Ks' := [(2, 4, 0, [33, 34, 2, 0, 0, 0, 0]), (30, 0, 1240, []), (31, 0, 31, [])]) (by decide +kernel) dX2_init_18 ?_
  refine en_aload_n (pc := 21) 0 dX2_init_21 rfl ?_
  refine en_bipush (pc := 22) 40 kc_bipush_40 dX2_init_22 ?_
  refine en_newaI (pc := 24) 32 40 hI32 cw_6 (by decide +kernel) (by decide +kernel) (by decide +kernel) (by decide +kernel) (by decide +kernel) (by decide +kernel) (by decide +kernel) ⟨by decide +kernel, by decide +kernel⟩ dX2_init_24 ?_
  refine en_putR (ci := 2) (k9 := 2) (pc := 26) 0 tyX2 rfl inW2 tyX2_ok nmX2 (by decide) cw_62 rfl rfl rfl rfl (by decide) (fun _ => rfl) (fun _ => rfl) (by decide +kernel) (Ks' := [(2, 4, 0, [33, 34, 35, 0, 0, 0, 0]), (30, 0, 1240, []), (31, 0, 31, []), (32, 0, 40, [])]) (by decide +kernel) dX2_init_26 ?_
  refine en_aload_n (pc := 29) 0 dX2_init_29 rfl ?_
  refine en_iconst (pc := 30) (-1 : Int32) kc_iconst_m1 dX2_init_30 ?_
  refine en_putI (ci := 2) (k9 := 3) (pc := 31) 0 tyX2 rfl inW2 tyX2_ok nmX2 (by decide) cw_63 rfl rfl rfl rfl rfl (by decide +kernel) (by decide +kernel) dX2_init_31 ?_
  exact en_ret rfl rfl rfl rfl rfl dX2_init_34
