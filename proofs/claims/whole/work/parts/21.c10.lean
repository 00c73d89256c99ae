theorem cw_79 : Cond.methodLink RX0 3 Lib.objectInit ∈ WL := wl_of (List.mem_append_right _ (in_t2 (List.mem_of_getElem? (i := 42) rfl))) rfl
theorem cw_80 : Cond.fieldLink RX0 11 "PulseParts$Beams" "times" "[I" ∈ WL := wl_of (List.mem_append_right _ (in_t2 (List.mem_of_getElem? (i := 43) rfl))) rfl
theorem cw_81 : Cond.fieldLink RX0 15 "PulseParts$Beams" "dues" "[I" ∈ WL := wl_of (List.mem_append_right _ (in_t2 (List.mem_of_getElem? (i := 44) rfl))) rfl
theorem cw_82 : Cond.fieldLink RX0 18 "PulseParts$Beams" "worths" "[I" ∈ WL := wl_of (List.mem_append_right _ (in_t2 (List.mem_of_getElem? (i := 45) rfl))) rfl
theorem cw_83 : Cond.fieldLink RX0 21 "PulseParts$Beams" "byDue" "[I" ∈ WL := wl_of (List.mem_append_right _ (in_t2 (List.mem_of_getElem? (i := 46) rfl))) rfl
theorem cw_84 : Cond.instanceMethod yX0_init ∈ WL := wl_of (List.mem_append_right _ (in_t2 (List.mem_of_getElem? (i := 40) rfl))) rfl
theorem cw_85 : Cond.initialized RX0 ∈ WL := wl_of (List.mem_append_right _ (in_t1 (List.mem_of_getElem? (i := 13) rfl))) rfl
theorem cw_86 : Cond.code yX0_init cX0_init 1 none ∈ WL := wl_of (List.mem_append_right _ (in_t2 (List.mem_of_getElem? (i := 41) rfl))) rfl
theorem ci_X0_init : CalI M_X0_init_i 0 := ⟨cw_84, cw_85, cw_86, rfl, by decide +kernel, by decide, rfl⟩
set_option maxRecDepth 100000 in
set_option maxHeartbeats 4000000 in
theorem ct_X0_init (d : Nat) (I : PI) (L : PL) (hI35 : I 35 = fun _ => 0) (hI36 : I 36 = fun _ => 0) (hI37 : I 37 = fun _ => 0) (hI38 : I 38 = fun _ => 0) : CtorOk M_X0_init_i (d + 1) [.ref 0] [0] [(0, 2, 0, [2, 2, 2, 2, 0])] I L [(0, 2, 0, [38, 39, 40, 41, 0]), (35, 0, 8, []), (36, 0, 8, []), (37, 0, 8, []), (38, 0, 8, [])] (I) (L) (4, 32) := by
  refine CtorOk.of (by decide +kernel) (Nat.le_of_ble_eq_true rfl) ?_
  show EvN _ _ _ _ _ _ _ _ 0 [(0, .ref 0)] [] I L
  refine en_aload_n (pc := 0) 0 dX0_init_0 rfl ?_
  refine en_objInit (d := d) (pc := 1) cw_79 cw_4 cw_5 (Nat.le_of_ble_eq_true rfl) dX0_init_1 ?_
  refine en_aload_n (pc := 4) 0 dX0_init_4 rfl ?_
  refine en_bipush (pc := 5) 8 kc_bipush_8 dX0_init_5 ?_
  refine en_newaI (pc := 7) 35 8 hI35 cw_6 (by decide +kernel) (by decide +kernel) (by decide +kernel) (by decide +kernel) (by decide +kernel) (by decide +kernel) (by decide +kernel) ⟨by decide +kernel, by decide +kernel⟩ dX0_init_7 ?_
  refine en_putR (ci := 0) (k9 := 0) (pc := 9) 0 tyX0 rfl inW0 tyX0_ok nmX0 (by decide) cw_80 rfl rfl rfl rfl (by decide) (fun _ => rfl) (fun _ => rfl) (by decide +kernel) (Ks' := [(0, 2, 0, [38, 2, 2, 2, 0]), (35, 0, 8, [])]) (by decide +kernel) dX0_init_9 ?_
  refine en_aload_n (pc := 12) 0 dX0_init_12 rfl ?_
  refine en_bipush (pc := 13) 8 kc_bipush_8 dX0_init_13 ?_
  refine en_newaI (pc := 15) 36 8 hI36 cw_6 (by decide +kernel) (by decide +kernel) (by decide +kernel) (by decide +kernel) (by decide +kernel) (by decide +kernel) (by decide +kernel) ⟨by decide +kernel, by decide +kernel⟩ dX0_init_15 ?_
  refine en_putR (ci := 0) (k9 := 1) (pc := 17) 0 tyX0 rfl inW0 tyX0_ok nmX0 (by decide) cw_81 rfl rfl rfl rfl (by decide) (fun _ => rfl) (fun _ => rfl) (by decide +kernel) (Ks' := [(0, 2, 0, [38, 39, 2, 2, 0]), (35, 0, 8, []), (36, 0, 8, [])]) (by decide +kernel) dX0_init_17 ?_
  refine en_aload_n (pc := 20) 0 dX0_init_20 rfl ?_
  refine en_bipush (pc := 21) 8 kc_bipush_8 dX0_init_21 ?_
  refine en_newaI (pc := 23) 37 8 hI37 cw_6 (by decide +kernel) (by decide +kernel) (by decide +kernel) (by decide +kernel) (by decide +kernel) (by decide +kernel) (by decide +kernel) ⟨by decide +kernel, by decide +kernel⟩ dX0_init_23 ?_
  refine en_putR (ci := 0) (k9 := 2) (pc := 25) 0 tyX0 rfl inW0 tyX0_ok nmX0 (by decide) cw_82 rfl rfl rfl rfl (by decide) (fun _ => rfl) (fun _ => rfl) (by decide +kernel) (Ks' := [(0, 2, 0, [38, 39, 40, 2, 0]), (35, 0, 8, []), (36, 0, 8, []), (37, 0, 8, [])]) (by decide +kernel) dX0_init_25 ?_
  refine en_aload_n (pc := 28) 0 dX0_init_28 rfl ?_
  refine en_bipush (pc := 29) 8 kc_bipush_8 dX0_init_29 ?_
  refine en_newaI (pc := 31) 38 8 hI38 cw_6 (by decide +kernel) (by decide +kernel) (by decide +kernel) (by decide +kernel) (by decide +kernel) (by decide +kernel) (by decide +kernel) ⟨by decide +kernel, by decide +kernel⟩ dX0_init_31 ?_
  refine en_putR (ci := 0) (k9 := 3) (pc := 33) 0 tyX0 rfl inW0 tyX0_ok nmX0 (by decide) cw_83 rfl rfl rfl rfl (by decide) (fun _ => rfl) (fun _ => rfl) (by decide +kernel) (Ks' := [(0, 2, 0, [38, 39, 40, 41, 0]), (35, 0, 8, []), (36, 0, 8, []), (37, 0, 8, []), (38, 0, 8, [])]) (by decide +kernel) dX0_init_33 ?_
  exact en_ret rfl rfl rfl rfl rfl dX0_init_36
