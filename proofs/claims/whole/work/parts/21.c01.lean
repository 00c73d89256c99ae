theorem cw_11 : Cond.methodLink RX3 3 Lib.objectInit ∈ WL := wl_of (List.mem_append_right _ (in_t1 (List.mem_of_getElem? (i := 56) rfl))) rfl
theorem kc_sipush_216 : (Int16.ofInt (216)).toInt32 = 216 := by decide +kernel
theorem cw_12 : Cond.fieldLink RX3 11 "PulseParts$Codes" "turns" "[I" ∈ WL := wl_of (List.mem_append_right _ (in_t1 (List.mem_of_getElem? (i := 57) rfl))) rfl
theorem kc_bipush_9 : (Int8.ofInt (9)).toInt32 = 9 := by decide +kernel
theorem cw_13 : Cond.fieldLink RX3 15 "PulseParts$Codes" "lengths" "[I" ∈ WL := wl_of (List.mem_append_right _ (in_t1 (List.mem_of_getElem? (i := 59) rfl))) rfl
theorem cw_14 : Cond.instanceMethod yX3_init ∈ WL := wl_of (List.mem_append_right _ (in_t1 (List.mem_of_getElem? (i := 54) rfl))) rfl
theorem cw_15 : Cond.initialized RX3 ∈ WL := wl_of (List.mem_append_right _ (in_t1 (List.mem_of_getElem? (i := 3) rfl))) rfl
theorem cw_16 : Cond.code yX3_init cX3_init 1 none ∈ WL := wl_of (List.mem_append_right _ (in_t1 (List.mem_of_getElem? (i := 55) rfl))) rfl
theorem ci_X3_init : CalI M_X3_init_i 0 := ⟨cw_14, cw_15, cw_16, rfl, by decide +kernel, by decide, rfl⟩
set_option maxRecDepth 100000 in
set_option maxHeartbeats 4000000 in
theorem ct_X3_init (d : Nat) (I : PI) (L : PL) (hI15 : I 15 = fun _ => 0) (hI16 : I 16 = fun _ => 0) : CtorOk M_X3_init_i (d + 1) [.ref 3] [3] [(3, 5, 0, [2, 2, 0])] I L [(3, 5, 0, [18, 19, 0]), (15, 0, 216, []), (16, 0, 9, [])] (I) (L) (2, 225) := by
  refine CtorOk.of (by decide +kernel) (Nat.le_of_ble_eq_true rfl) ?_
  show EvN _ _ _ _ _ _ _ _ 0 [(0, .ref 3)] [] I L
  refine en_aload_n (pc := 0) 0 dX3_init_0 rfl ?_
  refine en_objInit (d := d) (pc := 1) cw_11 cw_4 cw_5 (Nat.le_of_ble_eq_true rfl) dX3_init_1 ?_
  refine en_aload_n (pc := 4) 0 dX3_init_4 rfl ?_
  refine en_sipush (pc := 5) 216 kc_sipush_216 dX3_init_5 ?_
  refine en_newaI (pc := 8) 15 216 hI15 cw_6 (by decide +kernel) (by decide +kernel) (by decide +kernel) (by decide +kernel) (by decide +kernel) (by decide +kernel) (by decide +kernel) ⟨by decide +kernel, by decide +kernel⟩ dX3_init_8 ?_
  refine en_putR (ci := 3) (k9 := 0) (pc := 10) 0 tyX3 rfl inW3 tyX3_ok nmX3 (by decide) cw_12 rfl rfl rfl rfl (by decide) (fun _ => rfl) (fun _ => rfl) (by decide +kernel) (Ks' := [(3, 5, 0, [18, 2, 0]), (15, 0, 216, [])]) (by decide +kernel) dX3_init_10 ?_
  refine en_aload_n (pc := 13) 0 dX3_init_13 rfl ?_
  refine en_bipush (pc := 14) 9 kc_bipush_9 dX3_init_14 ?_
  refine en_newaI (pc := 16) 16 9 hI16 cw_6 (by decide +kernel) (by decide +kernel) (by decide +kernel) (by decide +kernel) (by decide +kernel) (by decide +kernel) (by decide +kernel) ⟨by decide +kernel, by decide +kernel⟩ dX3_init_16 ?_
  refine en_putR (ci := 3) (k9 := 1) (pc := 18) 0 tyX3 rfl inW3 tyX3_ok nmX3 (by decide) cw_13 rfl rfl rfl rfl (by decide) (fun _ => rfl) (fun _ => rfl) (by decide +kernel) (Ks' := [(3, 5, 0, [18, 19, 0]), (15, 0, 216, []), (16, 0, 9, [])]) (by decide +kernel) dX3_init_18 ?_
  exact en_ret rfl rfl rfl rfl rfl dX3_init_21
