theorem cw_17 : Cond.methodLink RX6 3 Lib.objectInit ∈ WL := wl_of (List.mem_append_right _ (in_t1 (List.mem_of_getElem? (i := 75) rfl))) rfl
theorem cw_18 : Cond.fieldLink RX6 9 "PulseParts$LawReader" "tape" "LPulseParts$Tape;" ∈ WL := wl_of (List.mem_append_right _ (in_t1 (List.mem_of_getElem? (i := 76) rfl))) rfl
theorem cw_19 : Cond.fieldLink RX6 17 "PulseParts$LawReader" "steps" "[I" ∈ WL := wl_of (List.mem_append_right _ (in_t1 (List.mem_of_getElem? (i := 77) rfl))) rfl
theorem cw_20 : Cond.instanceMethod yX6_init ∈ WL := wl_of (List.mem_append_right _ (in_t1 (List.mem_of_getElem? (i := 73) rfl))) rfl
theorem cw_21 : Cond.initialized RX6 ∈ WL := wl_of (List.mem_append_right _ (in_t1 (List.mem_of_getElem? (i := 4) rfl))) rfl
theorem cw_22 : Cond.code yX6_init cX6_init 2 none ∈ WL := wl_of (List.mem_append_right _ (in_t1 (List.mem_of_getElem? (i := 74) rfl))) rfl
theorem ci_X6_init : CalI M_X6_init_i 1 := ⟨cw_20, cw_21, cw_22, rfl, by decide +kernel, by decide, rfl⟩
set_option maxRecDepth 100000 in
set_option maxHeartbeats 4000000 in
theorem ct_X6_init (d : Nat) (I : PI) (L : PL) (hI17 : I 17 = fun _ => 0) : CtorOk M_X6_init_i (d + 1) [.ref 6, .ref 10] [6, 10] [(6, 8, 0, [2, 2, 0])] I L [(6, 8, 0, [13, 20, 0]), (17, 0, 120, [])] (I) (L) (1, 120) := by
  refine CtorOk.of (by decide +kernel) (Nat.le_of_ble_eq_true rfl) ?_
  show EvN _ _ _ _ _ _ _ _ 0 [(0, .ref 6), (1, .ref 10)] [] I L
  refine en_aload_n (pc := 0) 0 dX6_init_0 rfl ?_
  refine en_objInit (d := d) (pc := 1) cw_17 cw_4 cw_5 (Nat.le_of_ble_eq_true rfl) dX6_init_1 ?_
  refine en_aload_n (pc := 4) 0 dX6_init_4 rfl ?_
  refine en_aload_n (pc := 5) 1 dX6_init_5 rfl ?_
  refine en_putR (ci := 6) (k9 := 0) (pc := 6) 0 tyX6 rfl inW6 tyX6_ok nmX6 (by decide) cw_18 rfl rfl rfl rfl (by decide) (fun _ => rfl) (fun _ => rfl) (by decide +kernel) (Ks' := [(6, 8, 0, [13, 2, 0])]) (by decide +kernel) dX6_init_6 ?_
  refine en_aload_n (pc := 9) 0 dX6_init_9 rfl ?_
  refine en_bipush (pc := 10) 120 kc_bipush_120 dX6_init_10 ?_
  refine en_newaI (pc := 12) 17 120 hI17 cw_6 (by decide +kernel) (by decide +kernel) (by decide +kernel) (by decide +kernel) (by decide +kernel) (by decide +kernel) (by decide +kernel) ⟨by decide +kernel, by decide +kernel⟩ dX6_init_12 ?_
  refine en_putR (ci := 6) (k9 := 1) (pc := 14) 0 tyX6 rfl inW6 tyX6_ok nmX6 (by decide) cw_19 rfl rfl rfl rfl (by decide) (fun _ => rfl) (fun _ => rfl) (by decide +kernel) (Ks' := [(6, 8, 0, [13, 20, 0]), (17, 0, 120, [])]) (by decide +kernel) dX6_init_14 ?_
  exact en_ret rfl rfl rfl rfl rfl dX6_init_17
