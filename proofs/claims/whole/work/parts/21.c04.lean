theorem cw_30 : Cond.methodLink RX4 3 Lib.objectInit ∈ WL := wl_of (List.mem_append_right _ (in_t1 (List.mem_of_getElem? (i := 116) rfl))) rfl
theorem cw_31 : Cond.fieldLink RX4 9 "PulseParts$Echoes" "codes" "LPulseParts$Codes;" ∈ WL := wl_of (List.mem_append_right _ (in_t1 (List.mem_of_getElem? (i := 117) rfl))) rfl
theorem cw_32 : Cond.fieldLink RX4 15 "PulseParts$Echoes" "laws" "LPulseParts$Laws;" ∈ WL := wl_of (List.mem_append_right _ (in_t1 (List.mem_of_getElem? (i := 118) rfl))) rfl
theorem kc_bipush_24 : (Int8.ofInt (24)).toInt32 = 24 := by decide +kernel
theorem cw_33 : Cond.fieldLink RX4 21 "PulseParts$Echoes" "weights" "[I" ∈ WL := wl_of (List.mem_append_right _ (in_t1 (List.mem_of_getElem? (i := 119) rfl))) rfl
theorem kc_bipush_64 : (Int8.ofInt (64)).toInt32 = 64 := by decide +kernel
theorem cw_34 : Cond.fieldLink RX4 25 "PulseParts$Echoes" "hindrances" "[I" ∈ WL := wl_of (List.mem_append_right _ (in_t1 (List.mem_of_getElem? (i := 121) rfl))) rfl
theorem cw_35 : Cond.instanceMethod yX4_init ∈ WL := wl_of (List.mem_append_right _ (in_t1 (List.mem_of_getElem? (i := 114) rfl))) rfl
theorem cw_36 : Cond.initialized RX4 ∈ WL := wl_of (List.mem_append_right _ (in_t1 (List.mem_of_getElem? (i := 6) rfl))) rfl
theorem cw_37 : Cond.code yX4_init cX4_init 3 none ∈ WL := wl_of (List.mem_append_right _ (in_t1 (List.mem_of_getElem? (i := 115) rfl))) rfl
theorem ci_X4_init : CalI M_X4_init_i 2 := ⟨cw_35, cw_36, cw_37, rfl, by decide +kernel, by decide, rfl⟩
set_option maxRecDepth 100000 in
set_option maxHeartbeats 4000000 in
theorem ct_X4_init (d : Nat) (I : PI) (L : PL) (hI21 : I 21 = fun _ => 0) (hI22 : I 22 = fun _ => 0) : CtorOk M_X4_init_i (d + 1) [.ref 4, .ref 3, .ref 7] [4, 3, 7] [(4, 6, 0, [2, 2, 2, 2, 0, 0])] I L [(4, 6, 0, [6, 10, 24, 25, 0, 0]), (21, 0, 24, []), (22, 0, 64, [])] (I) (L) (2, 88) := by
  refine CtorOk.of (by decide +kernel) (Nat.le_of_ble_eq_true rfl) ?_
  show EvN _ _ _ _ _ _ _ _ 0 [(0, .ref 4), (1, .ref 3), (2, .ref 7)] [] I L
  refine en_aload_n (pc := 0) 0 dX4_init_0 rfl ?_
  refine en_objInit (d := d) (pc := 1) cw_30 cw_4 cw_5 (Nat.le_of_ble_eq_true rfl) dX4_init_1 ?_
  refine en_aload_n (pc := 4) 0 dX4_init_4 rfl ?_
  refine en_aload_n (pc := 5) 1 dX4_init_5 rfl ?_
  refine en_putR (ci := 4) (k9 := 0) (pc := 6) 0 tyX4 rfl inW4 tyX4_ok nmX4 (by decide) cw_31 rfl rfl rfl rfl (by decide) (fun _ => rfl) (fun _ => rfl) (by decide +kernel) (Ks' := [(4, 6, 0, [6, 2, 2, 2, 0, 0])]) (by decide +kernel) dX4_init_6 ?_
  refine en_aload_n (pc := 9) 0 dX4_init_9 rfl ?_
  refine en_aload_n (pc := 10) 2 dX4_init_10 rfl ?_
  refine en_putR (ci := 4) (k9 := 1) (pc := 11) 0 tyX4 rfl inW4 tyX4_ok nmX4 (by decide) cw_32 rfl rfl rfl rfl (by decide) (fun _ => rfl) (fun _ => rfl) (by decide +kernel) (Ks' := [(4, 6, 0, [6, 10, 2, 2, 0, 0])]) (by decide +kernel) dX4_init_11 ?_
  refine en_aload_n (pc := 14) 0 dX4_init_14 rfl ?_
  refine en_bipush (pc := 15) 24 kc_bipush_24 dX4_init_15 ?_
  refine en_newaI (pc := 17) 21 24 hI21 cw_6 (by decide +kernel) (by decide +kernel) (by decide +kernel) (by decide +kernel) (by decide +kernel) (by decide +kernel) (by decide +kernel) ⟨by decide +kernel, by decide +kernel⟩ dX4_init_17 ?_
  refine en_putR (ci := 4) (k9 := 2) (pc := 19) 0 tyX4 rfl inW4 tyX4_ok nmX4 (by decide) cw_33 rfl rfl rfl rfl (by decide) (fun _ => rfl) (fun _ => rfl) (by decide +kernel) (Ks' := [(4, 6, 0, [6, 10, 24, 2, 0, 0]), (21, 0, 24, [])]) (by decide +kernel) dX4_init_19 ?_
  refine en_aload_n (pc := 22) 0 dX4_init_22 rfl ?_
  refine en_bipush (pc := 23) 64 kc_bipush_64 dX4_init_23 ?_
  refine en_newaI (pc := 25) 22 64 hI22 cw_6 (by decide +kernel) (by decide +kernel) (by decide +kernel) (by decide +kernel) (by decide +kernel) (by decide +kernel) (by decide +kernel) ⟨by decide +kernel, by decide +kernel⟩ dX4_init_25 ?_
  refine en_putR (ci := 4) (k9 := 3) (pc := 27) 0 tyX4 rfl inW4 tyX4_ok nmX4 (by decide) cw_34 rfl rfl rfl rfl (by decide) (fun _ => rfl) (fun _ => rfl) (by decide +kernel) (Ks' := [(4, 6, 0, [6, 10, 24, 25, 0, 0]), (21, 0, 24, []), (22, 0, 64, [])]) (by decide +kernel) dX4_init_27 ?_
  exact en_ret rfl rfl rfl rfl rfl dX4_init_30
