theorem cw_47 : Cond.methodLink RX8 3 Lib.objectInit ∈ WL := wl_of (List.mem_append_right _ (in_t1 (List.mem_of_getElem? (i := 178) rfl))) rfl
theorem cw_48 : Cond.fieldLink RX8 9 "PulseParts$Rests" "settings" "[I" ∈ WL := wl_of (List.mem_append_right _ (in_t1 (List.mem_of_getElem? (i := 180) rfl))) rfl
theorem kc_bipush_56 : (Int8.ofInt (56)).toInt32 = 56 := by decide +kernel
theorem cw_49 : Cond.fieldLink RX8 15 "PulseParts$Rests" "numbers" "[I" ∈ WL := wl_of (List.mem_append_right _ (in_t1 (List.mem_of_getElem? (i := 181) rfl))) rfl
theorem kc_bipush_7 : (Int8.ofInt (7)).toInt32 = 7 := by decide +kernel
theorem cw_50 : Cond.fieldLink RX8 18 "PulseParts$Rests" "lengths" "[I" ∈ WL := wl_of (List.mem_append_right _ (in_t1 (List.mem_of_getElem? (i := 182) rfl))) rfl
theorem kc_bipush_8 : (Int8.ofInt (8)).toInt32 = 8 := by decide +kernel
theorem cw_51 : Cond.fieldLink RX8 21 "PulseParts$Rests" "readings" "[I" ∈ WL := wl_of (List.mem_append_right _ (in_t1 (List.mem_of_getElem? (i := 183) rfl))) rfl
theorem kc_sipush_256 : (Int16.ofInt (256)).toInt32 = 256 := by decide +kernel
theorem cw_52 : Cond.fieldLink RX8 24 "PulseParts$Rests" "seenByBits" "[I" ∈ WL := wl_of (List.mem_append_right _ (in_t1 (List.mem_of_getElem? (i := 184) rfl))) rfl
theorem kc_sipush_155 : (Int16.ofInt (155)).toInt32 = 155 := by decide +kernel
theorem cw_53 : Cond.arrayClass .long ∈ WL := wl_of (List.mem_append_right _ (in_t1 (List.mem_of_getElem? (i := 211) rfl))) rfl
theorem cw_54 : Cond.fieldLink RX8 27 "PulseParts$Rests" "seenWays" "[J" ∈ WL := wl_of (List.mem_append_right _ (in_t1 (List.mem_of_getElem? (i := 185) rfl))) rfl
theorem cw_55 : Cond.methodLink RX8 31 yJ7_fill_53178 ∈ WL := wl_of (List.mem_append_right _ (in_t1 (List.mem_of_getElem? (i := 179) rfl))) rfl
theorem cw_56 : Cond.instanceMethod yX8_init ∈ WL := wl_of (List.mem_append_right _ (in_t1 (List.mem_of_getElem? (i := 176) rfl))) rfl
theorem cw_57 : Cond.initialized RX8 ∈ WL := wl_of (List.mem_append_right _ (in_t1 (List.mem_of_getElem? (i := 9) rfl))) rfl
theorem cw_58 : Cond.code yX8_init cX8_init 2 none ∈ WL := wl_of (List.mem_append_right _ (in_t1 (List.mem_of_getElem? (i := 177) rfl))) rfl
theorem ci_X8_init : CalI M_X8_init_i 1 := ⟨cw_56, cw_57, cw_58, rfl, by decide +kernel, by decide, rfl⟩
set_option maxRecDepth 100000 in
set_option maxHeartbeats 4000000 in
theorem ct_X8_init (d : Nat) (I : PI) (L : PL) (hI25 : I 25 = fun _ => 0) (hI26 : I 26 = fun _ => 0) (hI27 : I 27 = fun _ => 0) (hI28 : I 28 = fun _ => 0) (hL29 : L 29 = fun _ => 0) : CtorOk M_X8_init_i (d + 2) [.ref 8, .ref 13] [8, 13] [(8, 10, 0, [2, 2, 2, 2, 2, 2, 0, 0, 0])] I L [(8, 10, 0, [16, 28, 29, 30, 31, 32, 0, 0, 0]), (25, 0, 56, []), (26, 0, 7, []), (28, 0, 256, []), (29, 1, 155, []), (27, 0, 8, [])] (fillI I 27 8 (-1 : Int32)) (L) (5, 482) := by
  refine CtorOk.of (by decide +kernel) (Nat.le_of_ble_eq_true rfl) ?_
  show EvN _ _ _ _ _ _ _ _ 0 [(0, .ref 8), (1, .ref 13)] [] I L
  refine en_aload_n (pc := 0) 0 dX8_init_0 rfl ?_
  refine en_objInit (d := d + 1) (pc := 1) cw_47 cw_4 cw_5 (Nat.le_of_ble_eq_true rfl) dX8_init_1 ?_
  refine en_aload_n (pc := 4) 0 dX8_init_4 rfl ?_
  refine en_aload_n (pc := 5) 1 dX8_init_5 rfl ?_
  refine en_putR (ci := 8) (k9 := 0) (pc := 6) 0 tyX8 rfl inW8 tyX8_ok nmX8 (by decide) cw_48 rfl rfl rfl rfl (by decide) (fun _ => rfl) (fun _ => rfl) (by decide +kernel) (Ks' := [(8, 10, 0, [16, 2, 2, 2, 2, 2, 0, 0, 0])]) (by decide +kernel) dX8_init_6 ?_
  refine en_aload_n (pc := 9) 0 dX8_init_9 rfl ?_
  refine en_bipush (pc := 10) 56 kc_bipush_56 dX8_init_10 ?_
  refine en_newaI (pc := 12) 25 56 hI25 cw_6 (by decide +kernel) (by decide +kernel) (by decide +kernel) (by decide +kernel) (by decide +kernel) (by decide +kernel) (by decide +kernel) ⟨by decide +kernel, by decide +kernel⟩ dX8_init_12 ?_
  refine en_putR (ci := 8) (k9 := 1) (pc := 14) 0 tyX8 rfl inW8 tyX8_ok nmX8 (by decide) cw_49 rfl rfl rfl rfl (by decide) (fun _ => rfl) (fun _ => rfl) (by decide +kernel) (Ks' := [(8, 10, 0, [16, 28, 2, 2, 2, 2, 0, 0, 0]), (25, 0, 56, [])]) (by decide +kernel) dX8_init_14 ?_
  refine en_aload_n (pc := 17) 0 dX8_init_17 rfl ?_
  refine en_bipush (pc := 18) 7 kc_bipush_7 dX8_init_18 ?_
  refine en_newaI (pc := 20) 26 7 hI26 cw_6 (by decide +kernel) (by decide +kernel) (by decide +kernel) (by decide +kernel) (by decide +kernel) (by decide +kernel) (by decide +kernel) ⟨by decide +kernel, by decide +kernel⟩ dX8_init_20 ?_
  refine en_putR (ci := 8) (k9 := 2) (pc := 22) 0 tyX8 rfl inW8 tyX8_ok nmX8 (by decide) cw_50 rfl rfl rfl rfl (by decide) (fun _ => rfl) (fun _ => rfl) (by decide +kernel) (Ks' := [(8, 10, 0, [16, 28, 29, 2, 2, 2, 0, 0, 0]), (25, 0, 56, []), (26, 0, 7, [])]) (by decide +kernel) dX8_init_22 ?_
  refine en_aload_n (pc := 25) 0 dX8_init_25 rfl ?_
  refine en_bipush (pc := 26) 8 kc_bipush_8 dX8_init_26 ?_
  refine en_newaI (pc := 28) 27 8 hI27 cw_6 (by decide +kernel) (by decide +kernel) (by decide +kernel) (by decide +kernel) (by decide +kernel) (by decide +kernel) (by decide +kernel) ⟨by decide +kernel, by decide +kernel⟩ dX8_init_28 ?_
  refine en_putR (ci := 8) (k9 := 3) (pc := 30) 0 tyX8 rfl inW8 tyX8_ok nmX8 (by decide) cw_51 rfl rfl rfl rfl (by decide) (fun _ => rfl) (fun _ => rfl) (by decide +kernel) (Ks' := [(8, 10, 0, [16, 28, 29, 30, 2, 2, 0, 0, 0]), (25, 0, 56, []), (26, 0, 7, []), (27, 0, 8, [])]) (by decide +kernel) dX8_init_30 ?_
  refine en_aload_n (pc := 33) 0 dX8_init_33 rfl ?_
  refine en_sipush (pc := 34) 256 kc_sipush_256 dX8_init_34 ?_
  refine en_newaI (pc := 37) 28 256 hI28 cw_6 (by decide +kernel) (by decide +kernel) (by decide +kernel) (by decide +kernel) (by decide +kernel) (by decide +kernel) (by decide +kernel) ⟨by decide +kernel, by decide +kernel⟩ dX8_init_37 ?_
  refine en_putR (ci := 8) (k9 := 4) (pc := 39) 0 tyX8 rfl inW8 tyX8_ok nmX8 (by decide) cw_52 rfl rfl rfl rfl (by decide) (fun _ => rfl) (fun _ => rfl) (by decide +kernel) (Ks' := [(8, 10, 0, [16, 28, 29, 30, 31, 2, 0, 0, 0]), (25, 0, 56, []), (26, 0, 7, []), (27, 0, 8, []), (28, 0, 256, [])]) (by decide +kernel) dX8_init_39 ?_
  refine en_aload_n (pc := 42) 0 dX8_init_42 rfl ?_
  refine en_sipush (pc := 43) 155 kc_sipush_155 dX8_init_43 ?_
  refine en_newaL (pc := 46) 29 155 hL29 cw_53 (by decide +kernel) (by decide +kernel) (by decide +kernel) (by decide +kernel) (by decide +kernel) (by decide +kernel) (by decide +kernel) ⟨by decide +kernel, by decide +kernel⟩ dX8_init_46 ?_
  refine en_putR (ci := 8) (k9 := 5) (pc := 48) 0 tyX8 rfl inW8 tyX8_ok nmX8 (by decide) cw_54 rfl rfl rfl rfl (by decide) (fun _ => rfl) (fun _ => rfl) (by decide +kernel) (Ks' := [(8, 10, 0, [16, 28, 29, 30, 31, 32, 0, 0, 0]), (25, 0, 56, []), (26, 0, 7, []), (27, 0, 8, []), (28, 0, 256, []), (29, 1, 155, [])]) (by decide +kernel) dX8_init_48 ?_
  refine en_aload_n (pc := 51) 0 dX8_init_51 rfl ?_
  refine en_getR (ci := 8) (k9 := 3) (pc := 52) 0 rfl inW8 (by decide) cw_51 rfl rfl dX8_init_52 ?_
  refine en_iconst (pc := 55) (-1 : Int32) kc_iconst_m1 dX8_init_55 ?_
  refine en_stat (d := d + 1) (Kc := [(27, 0, 8, [])]) (Kr := [(8, 10, 0, [16, 28, 29, 30, 31, 32, 0, 0, 0]), (25, 0, 56, []), (26, 0, 7, []), (28, 0, 256, []), (29, 1, 155, [])]) (Kc' := [(27, 0, 8, [])]) (Ks' := [(8, 10, 0, [16, 28, 29, 30, 31, 32, 0, 0, 0]), (25, 0, 56, []), (26, 0, 7, []), (28, 0, 256, []), (29, 1, 155, []), (27, 0, 8, [])]) (idsC := [27]) (N2 := (0, 0)) (I' := fillI I 27 8 (-1 : Int32)) (L' := L) (As := [.ref 27, .int (-1 : Int32)]) (st := []) (pc := 56) [] [3] [0, 1, 2, 4, 5] (by decide +kernel) (by decide +kernel) (by decide +kernel) (by decide +kernel) (by decide +kernel) (by decide +kernel) (fun q hq => by
      have h9 := (show ∀ q ∈ ([(8, 10, 0, [16, 28, 29, 30, 31, 32, 0, 0, 0]), (25, 0, 56, []), (26, 0, 7, []), (28, 0, 256, []), (29, 1, 155, [])] : KS), q.1 ≠ 27 by decide +kernel) q hq
      exact ⟨(fillI_o h9), rfl⟩) (by decide +kernel) (by decide +kernel) (by decide +kernel) (by decide +kernel) (by decide +kernel) ⟨by decide +kernel, by decide +kernel⟩ (Nat.le_of_ble_eq_true rfl) cvf_J7_fill_53178 rfl cw_55 rfl (ct_fill (d + 1) (I) (L) 27 8 (-1 : Int32) (by omega)) dX8_init_56 ?_
  exact en_ret rfl rfl rfl rfl rfl dX8_init_59
