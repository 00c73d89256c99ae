theorem cw_67 : Cond.methodLink RX5 3 Lib.objectInit ∈ WL := wl_of (List.mem_append_right _ (in_t2 (List.mem_of_getElem? (i := 7) rfl))) rfl
theorem cw_68 : Cond.fieldLink RX5 9 "PulseParts$Finder" "cells" "LPulseParts$Cells;" ∈ WL := wl_of (List.mem_append_right _ (in_t2 (List.mem_of_getElem? (i := 8) rfl))) rfl
theorem cw_69 : Cond.fieldLink RX5 15 "PulseParts$Finder" "settings" "[I" ∈ WL := wl_of (List.mem_append_right _ (in_t2 (List.mem_of_getElem? (i := 9) rfl))) rfl
theorem kc_bipush_16 : (Int8.ofInt (16)).toInt32 = 16 := by decide +kernel
theorem cw_70 : Cond.fieldLink RX5 19 "PulseParts$Finder" "window" "[I" ∈ WL := wl_of (List.mem_append_right _ (in_t2 (List.mem_of_getElem? (i := 10) rfl))) rfl
theorem cw_71 : Cond.instanceMethod yX5_init ∈ WL := wl_of (List.mem_append_right _ (in_t2 (List.mem_of_getElem? (i := 5) rfl))) rfl
theorem cw_72 : Cond.initialized RX5 ∈ WL := wl_of (List.mem_append_right _ (in_t1 (List.mem_of_getElem? (i := 11) rfl))) rfl
theorem cw_73 : Cond.code yX5_init cX5_init 3 none ∈ WL := wl_of (List.mem_append_right _ (in_t2 (List.mem_of_getElem? (i := 6) rfl))) rfl
theorem ci_X5_init : CalI M_X5_init_i 2 := ⟨cw_71, cw_72, cw_73, rfl, by decide +kernel, by decide, rfl⟩
set_option maxRecDepth 100000 in
set_option maxHeartbeats 4000000 in
theorem ct_X5_init (d : Nat) (I : PI) (L : PL) (hI33 : I 33 = fun _ => 0) : CtorOk M_X5_init_i (d + 1) [.ref 5, .ref 2, .ref 13] [5, 2, 13] [(5, 7, 0, [2, 2, 2, 0])] I L [(5, 7, 0, [5, 16, 36, 0]), (33, 0, 16, [])] (I) (L) (1, 16) := by
  refine CtorOk.of (by decide +kernel) (Nat.le_of_ble_eq_true rfl) ?_
  show EvN _ _ _ _ _ _ _ _ 0 [(0, .ref 5), (1, .ref 2), (2, .ref 13)] [] I L
  refine en_aload_n (pc := 0) 0 dX5_init_0 rfl ?_
  refine en_objInit (d := d) (pc := 1) cw_67 cw_4 cw_5 (Nat.le_of_ble_eq_true rfl) dX5_init_1 ?_
  refine en_aload_n (pc := 4) 0 dX5_init_4 rfl ?_
  refine en_aload_n (pc := 5) 1 dX5_init_5 rfl ?_
  refine en_putR (ci := 5) (k9 := 0) (pc := 6) 0 tyX5 rfl inW5 tyX5_ok nmX5 (by decide) cw_68 rfl rfl rfl rfl (by decide) (fun _ => rfl) (fun _ => rfl) (by decide +kernel) (Ks' := [(5, 7, 0, [5, 2, 2, 0])]) (by decide +kernel) dX5_init_6 ?_
  refine en_aload_n (pc := 9) 0 dX5_init_9 rfl ?_
  refine en_aload_n (pc := 10) 2 dX5_init_10 rfl ?_
  refine en_putR (ci := 5) (k9 := 1) (pc := 11) 0 tyX5 rfl inW5 tyX5_ok nmX5 (by decide) cw_69 rfl rfl rfl rfl (by decide) (fun _ => rfl) (fun _ => rfl) (by decide +kernel) (Ks' := [(5, 7, 0, [5, 16, 2, 0])]) (by decide +kernel) dX5_init_11 ?_
  refine en_aload_n (pc := 14) 0 dX5_init_14 rfl ?_
  refine en_bipush (pc := 15) 16 kc_bipush_16 dX5_init_15 ?_
  refine en_newaI (pc := 17) 33 16 hI33 cw_6 (by decide +kernel) (by decide +kernel) (by decide +kernel) (by decide +kernel) (by decide +kernel) (by decide +kernel) (by decide +kernel) ⟨by decide +kernel, by decide +kernel⟩ dX5_init_17 ?_
  refine en_putR (ci := 5) (k9 := 2) (pc := 19) 0 tyX5 rfl inW5 tyX5_ok nmX5 (by decide) cw_70 rfl rfl rfl rfl (by decide) (fun _ => rfl) (fun _ => rfl) (by decide +kernel) (Ks' := [(5, 7, 0, [5, 16, 36, 0]), (33, 0, 16, [])]) (by decide +kernel) dX5_init_19 ?_
  exact en_ret rfl rfl rfl rfl rfl dX5_init_22
