theorem cw_23 : Cond.methodLink RX7 3 Lib.objectInit ∈ WL := wl_of (List.mem_append_right _ (in_t1 (List.mem_of_getElem? (i := 93) rfl))) rfl
theorem kc_sipush_720 : (Int16.ofInt (720)).toInt32 = 720 := by decide +kernel
theorem cw_24 : Cond.fieldLink RX7 13 "PulseParts$Laws" "steps" "[I" ∈ WL := wl_of (List.mem_append_right _ (in_t1 (List.mem_of_getElem? (i := 94) rfl))) rfl
theorem kc_bipush_6 : (Int8.ofInt (6)).toInt32 = 6 := by decide +kernel
theorem cw_25 : Cond.fieldLink RX7 17 "PulseParts$Laws" "lengths" "[I" ∈ WL := wl_of (List.mem_append_right _ (in_t1 (List.mem_of_getElem? (i := 95) rfl))) rfl
theorem cw_26 : Cond.fieldLink RX7 20 "PulseParts$Laws" "stack" "[I" ∈ WL := wl_of (List.mem_append_right _ (in_t1 (List.mem_of_getElem? (i := 96) rfl))) rfl
theorem cw_27 : Cond.instanceMethod yX7_init ∈ WL := wl_of (List.mem_append_right _ (in_t1 (List.mem_of_getElem? (i := 91) rfl))) rfl
theorem cw_28 : Cond.initialized RX7 ∈ WL := wl_of (List.mem_append_right _ (in_t1 (List.mem_of_getElem? (i := 5) rfl))) rfl
theorem cw_29 : Cond.code yX7_init cX7_init 1 none ∈ WL := wl_of (List.mem_append_right _ (in_t1 (List.mem_of_getElem? (i := 92) rfl))) rfl
theorem ci_X7_init : CalI M_X7_init_i 0 := ⟨cw_27, cw_28, cw_29, rfl, by decide +kernel, by decide, rfl⟩
set_option maxRecDepth 100000 in
set_option maxHeartbeats 4000000 in
theorem ct_X7_init (d : Nat) (I : PI) (L : PL) (hI18 : I 18 = fun _ => 0) (hI19 : I 19 = fun _ => 0) (hI20 : I 20 = fun _ => 0) : CtorOk M_X7_init_i (d + 1) [.ref 7] [7] [(7, 9, 0, [2, 2, 2, 0, 0])] I L [(7, 9, 0, [21, 22, 23, 0, 0]), (18, 0, 720, []), (19, 0, 6, []), (20, 0, 120, [])] (I) (L) (3, 846) := by
  refine CtorOk.of (by decide +kernel) (Nat.le_of_ble_eq_true rfl) ?_
  show EvN _ _ _ _ _ _ _ _ 0 [(0, .ref 7)] [] I L
  refine en_aload_n (pc := 0) 0 dX7_init_0 rfl ?_
  refine en_objInit (d := d) (pc := 1) cw_23 cw_4 cw_5 (Nat.le_of_ble_eq_true rfl) dX7_init_1 ?_
  refine en_aload_n (pc := 4) 0 dX7_init_4 rfl ?_
  refine en_sipush (pc := 5) 720 kc_sipush_720 dX7_init_5 ?_
  refine en_newaI (pc := 8) 18 720 hI18 cw_6 (by decide +kernel) (by decide +kernel) (by decide +kernel) (by decide +kernel) (by decide +kernel) (by decide +kernel) (by decide +kernel) ⟨by decide +kernel, by decide +kernel⟩ dX7_init_8 ?_
  refine en_putR (ci := 7) (k9 := 0) (pc := 10) 0 tyX7 rfl inW7 tyX7_ok nmX7 (by decide) cw_24 rfl rfl rfl rfl (by decide) (fun _ => rfl) (fun _ => rfl) (by decide +kernel) (Ks' := [(7, 9, 0, [21, 2, 2, 0, 0]), (18, 0, 720, [])]) (by decide +kernel) dX7_init_10 ?_
  refine en_aload_n (pc := 13) 0 dX7_init_13 rfl ?_
  refine en_bipush (pc := 14) 6 kc_bipush_6 dX7_init_14 ?_
  refine en_newaI (pc := 16) 19 6 hI19 cw_6 (by decide +kernel) (by decide +kernel) (by decide +kernel) (by decide +kernel) (by decide +kernel) (by decide +kernel) (by decide +kernel) ⟨by decide +kernel, by decide +kernel⟩ dX7_init_16 ?_
  refine en_putR (ci := 7) (k9 := 1) (pc := 18) 0 tyX7 rfl inW7 tyX7_ok nmX7 (by decide) cw_25 rfl rfl rfl rfl (by decide) (fun _ => rfl) (fun _ => rfl) (by decide +kernel) (Ks' := [(7, 9, 0, [21, 22, 2, 0, 0]), (18, 0, 720, []), (19, 0, 6, [])]) (by decide +kernel) dX7_init_18 ?_
  refine en_aload_n (pc := 21) 0 dX7_init_21 rfl ?_
  refine en_bipush (pc := 22) 120 kc_bipush_120 dX7_init_22 ?_
  refine en_newaI (pc := 24) 20 120 hI20 cw_6 (by decide +kernel) (by decide +kernel) (by decide +kernel) (by decide +kernel) (by decide +kernel) (by decide +kernel) (by decide +kernel) ⟨by decide +kernel, by decide +kernel⟩ dX7_init_24 ?_
  refine en_putR (ci := 7) (k9 := 2) (pc := 26) 0 tyX7 rfl inW7 tyX7_ok nmX7 (by decide) cw_26 rfl rfl rfl rfl (by decide) (fun _ => rfl) (fun _ => rfl) (by decide +kernel) (Ks' := [(7, 9, 0, [21, 22, 23, 0, 0]), (18, 0, 720, []), (19, 0, 6, []), (20, 0, 120, [])]) (by decide +kernel) dX7_init_26 ?_
  exact en_ret rfl rfl rfl rfl rfl dX7_init_29
