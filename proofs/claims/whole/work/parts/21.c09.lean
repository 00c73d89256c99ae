theorem cw_74 : Cond.methodLink RX9 3 Lib.objectInit ∈ WL := wl_of (List.mem_append_right _ (in_t2 (List.mem_of_getElem? (i := 26) rfl))) rfl
theorem cw_75 : Cond.fieldLink RX9 11 "PulseParts$Shares" "rowsByLevel" "[J" ∈ WL := wl_of (List.mem_append_right _ (in_t2 (List.mem_of_getElem? (i := 27) rfl))) rfl
theorem cw_76 : Cond.instanceMethod yX9_init ∈ WL := wl_of (List.mem_append_right _ (in_t2 (List.mem_of_getElem? (i := 24) rfl))) rfl
theorem cw_77 : Cond.initialized RX9 ∈ WL := wl_of (List.mem_append_right _ (in_t1 (List.mem_of_getElem? (i := 12) rfl))) rfl
theorem cw_78 : Cond.code yX9_init cX9_init 1 none ∈ WL := wl_of (List.mem_append_right _ (in_t2 (List.mem_of_getElem? (i := 25) rfl))) rfl
theorem ci_X9_init : CalI M_X9_init_i 0 := ⟨cw_76, cw_77, cw_78, rfl, by decide +kernel, by decide, rfl⟩
set_option maxRecDepth 100000 in
set_option maxHeartbeats 4000000 in
theorem ct_X9_init (d : Nat) (I : PI) (L : PL) (hL34 : L 34 = fun _ => 0) : CtorOk M_X9_init_i (d + 1) [.ref 9] [9] [(9, 11, 0, [2, 0, 1])] I L [(9, 11, 0, [37, 0, 1]), (34, 1, 9, [])] (I) (L) (1, 9) := by
  refine CtorOk.of (by decide +kernel) (Nat.le_of_ble_eq_true rfl) ?_
  show EvN _ _ _ _ _ _ _ _ 0 [(0, .ref 9)] [] I L
  refine en_aload_n (pc := 0) 0 dX9_init_0 rfl ?_
  refine en_objInit (d := d) (pc := 1) cw_74 cw_4 cw_5 (Nat.le_of_ble_eq_true rfl) dX9_init_1 ?_
  refine en_aload_n (pc := 4) 0 dX9_init_4 rfl ?_
  refine en_bipush (pc := 5) 9 kc_bipush_9 dX9_init_5 ?_
  refine en_newaL (pc := 7) 34 9 hL34 cw_53 (by decide +kernel) (by decide +kernel) (by decide +kernel) (by decide +kernel) (by decide +kernel) (by decide +kernel) (by decide +kernel) ⟨by decide +kernel, by decide +kernel⟩ dX9_init_7 ?_
  refine en_putR (ci := 9) (k9 := 0) (pc := 9) 0 tyX9 rfl inW9 tyX9_ok nmX9 (by decide) cw_75 rfl rfl rfl rfl (by decide) (fun _ => rfl) (fun _ => rfl) (by decide +kernel) (Ks' := [(9, 11, 0, [37, 0, 1]), (34, 1, 9, [])]) (by decide +kernel) dX9_init_9 ?_
  exact en_ret rfl rfl rfl rfl rfl dX9_init_12
