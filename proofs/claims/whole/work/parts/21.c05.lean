theorem cw_38 : Cond.methodLink RX1 3 Lib.objectInit ∈ WL := wl_of (List.mem_append_right _ (in_t1 (List.mem_of_getElem? (i := 144) rfl))) rfl
theorem cw_39 : Cond.fieldLink RX1 9 "PulseParts$Bests" "codes" "LPulseParts$Codes;" ∈ WL := wl_of (List.mem_append_right _ (in_t1 (List.mem_of_getElem? (i := 148) rfl))) rfl
theorem cw_40 : Cond.fieldLink RX1 15 "PulseParts$Bests" "echoes" "LPulseParts$Echoes;" ∈ WL := wl_of (List.mem_append_right _ (in_t1 (List.mem_of_getElem? (i := 149) rfl))) rfl
theorem kc_bipush_52 : (Int8.ofInt (52)).toInt32 = 52 := by decide +kernel
theorem cw_41 : Cond.fieldLink RX1 19 "PulseParts$Bests" "bestCodes" "[I" ∈ WL := wl_of (List.mem_append_right _ (in_t1 (List.mem_of_getElem? (i := 150) rfl))) rfl
theorem kc_bipush_32 : (Int8.ofInt (32)).toInt32 = 32 := by decide +kernel
theorem cw_42 : Cond.fieldLink RX1 25 "PulseParts$Bests" "bestFilters" "[I" ∈ WL := wl_of (List.mem_append_right _ (in_t1 (List.mem_of_getElem? (i := 151) rfl))) rfl
theorem kc_iconst_m1 : Int32.ofInt (-1) = (-1 : Int32) := by decide +kernel
theorem cw_43 : Cond.methodLink RX1 28 yJ7_fill_53178 ∈ WL := wl_of (List.mem_append_right _ (in_t1 (List.mem_of_getElem? (i := 145) rfl))) rfl
theorem cw_44 : Cond.instanceMethod yX1_init ∈ WL := wl_of (List.mem_append_right _ (in_t1 (List.mem_of_getElem? (i := 142) rfl))) rfl
theorem cw_45 : Cond.initialized RX1 ∈ WL := wl_of (List.mem_append_right _ (in_t1 (List.mem_of_getElem? (i := 7) rfl))) rfl
theorem cw_46 : Cond.code yX1_init cX1_init 3 none ∈ WL := wl_of (List.mem_append_right _ (in_t1 (List.mem_of_getElem? (i := 143) rfl))) rfl
theorem ci_X1_init : CalI M_X1_init_i 2 := ⟨cw_44, cw_45, cw_46, rfl, by decide +kernel, by decide, rfl⟩
set_option maxRecDepth 100000 in
set_option maxHeartbeats 4000000 in
theorem ct_X1_init (d : Nat) (I : PI) (L : PL) (hI23 : I 23 = fun _ => 0) (hI24 : I 24 = fun _ => 0) : CtorOk M_X1_init_i (d + 2) [.ref 1, .ref 3, .ref 4] [1, 3, 4] [(1, 3, 0, [2, 2, 2, 2, 0, 0, 0, 0])] I L [(1, 3, 0, [6, 7, 26, 27, 0, 0, 0, 0]), (23, 0, 52, []), (24, 0, 32, [])] (fillI (fillI I 23 52 (-1 : Int32)) 24 32 (-1 : Int32)) (L) (2, 84) := by
  refine CtorOk.of (by decide +kernel) (Nat.le_of_ble_eq_true rfl) ?_
  show EvN _ _ _ _ _ _ _ _ 0 [(0, .ref 1), (1, .ref 3), (2, .ref 4)] [] I L
  refine en_aload_n (pc := 0) 0 dX1_init_0 rfl ?_
  refine en_objInit (d := d + 1) (pc := 1) cw_38 cw_4 cw_5 (Nat.le_of_ble_eq_true rfl) dX1_init_1 ?_
  refine en_aload_n (pc := 4) 0 dX1_init_4 rfl ?_
  refine en_aload_n (pc := 5) 1 dX1_init_5 rfl ?_
  refine en_putR (ci := 1) (k9 := 0) (pc := 6) 0 tyX1 rfl inW1 tyX1_ok nmX1 (by decide) cw_39 rfl rfl rfl rfl (by decide) (fun _ => rfl) (fun _ => rfl) (by decide +kernel) (Ks' := [(1, 3, 0, [6, 2, 2, 2, 0, 0, 0, 0])]) (by decide +kernel) dX1_init_6 ?_
  refine en_aload_n (pc := 9) 0 dX1_init_9 rfl ?_
  refine en_aload_n (pc := 10) 2 dX1_init_10 rfl ?_
  refine en_putR (ci := 1) (k9 := 1) (pc := 11) 0 tyX1 rfl inW1 tyX1_ok nmX1 (by decide) cw_40 rfl rfl rfl rfl (by decide) (fun _ => rfl) (fun _ => rfl) (by decide +kernel) (Ks' := [(1, 3, 0, [6, 7, 2, 2, 0, 0, 0, 0])]) (by decide +kernel) dX1_init_11 ?_
  refine en_aload_n (pc := 14) 0 dX1_init_14 rfl ?_
  refine en_bipush (pc := 15) 52 kc_bipush_52 dX1_init_15 ?_
  refine en_newaI (pc := 17) 23 52 hI23 cw_6 (by decide +kernel) (by decide +kernel) (by decide +kernel) (by decide +kernel) (by decide +kernel) (by decide +kernel) (by decide +kernel) ⟨by decide +kernel, by decide +kernel⟩ dX1_init_17 ?_
  refine en_putR (ci := 1) (k9 := 2) (pc := 19) 0 tyX1 rfl inW1 tyX1_ok nmX1 (by decide) cw_41 rfl rfl rfl rfl (by decide) (fun _ => rfl) (fun _ => rfl) (by decide +kernel) (Ks' := [(1, 3, 0, [6, 7, 26, 2, 0, 0, 0, 0]), (23, 0, 52, [])]) (by decide +kernel) dX1_init_19 ?_
  refine en_aload_n (pc := 22) 0 dX1_init_22 rfl ?_
  refine en_bipush (pc := 23) 32 kc_bipush_32 dX1_init_23 ?_
  refine en_newaI (pc := 25) 24 32 hI24 cw_6 (by decide +kernel) (by decide +kernel) (by decide +kernel) (by decide +kernel) (by decide +kernel) (by decide +kernel) (by decide +kernel) ⟨by decide +kernel, by decide +kernel⟩ dX1_init_25 ?_
  refine en_putR (ci := 1) (k9 := 3) (pc := 27) 0 tyX1 rfl inW1 tyX1_ok nmX1 (by decide) cw_42 rfl rfl rfl rfl (by decide) (fun _ => rfl) (fun _ => rfl) (by decide +kernel) (Ks' := [(1, 3, 0, [6, 7, 26, 27, 0, 0, 0, 0]), (23, 0, 52, []), (24, 0, 32, [])]) (by decide +kernel) dX1_init_27 ?_
  refine en_aload_n (pc := 30) 0 dX1_init_30 rfl ?_
  refine en_getR (ci := 1) (k9 := 2) (pc := 31) 0 rfl inW1 (by decide) cw_41 rfl rfl dX1_init_31 ?_
  refine en_iconst (pc := 34) (-1 : Int32) kc_iconst_m1 dX1_init_34 ?_
  refine en_stat (d := d + 1) (Kc := [(23, 0, 52, [])]) (Kr := [(1, 3, 0, [6, 7, 26, 27, 0, 0, 0, 0]), (24, 0, 32, [])]) (Kc' := [(23, 0, 52, [])]) (Ks' := [(1, 3, 0, [6, 7, 26, 27, 0, 0, 0, 0]), (24, 0, 32, []), (23, 0, 52, [])]) (idsC := [23]) (N2 := (0, 0)) (I' := fillI I 23 52 (-1 : Int32)) (L' := L) (As := [.ref 23, .int (-1 : Int32)]) (st := []) (pc := 35) [] [1] [0, 2] (by decide +kernel) (by decide +kernel) (by decide +kernel) (by decide +kernel) (by decide +kernel) (by decide +kernel) (fun q hq => by
      have h9 := (show ∀ q ∈ ([(1, 3, 0, [6, 7, 26, 27, 0, 0, 0, 0]), (24, 0, 32, [])] : KS), q.1 ≠ 23 by decide +kernel) q hq
      exact ⟨(fillI_o h9), rfl⟩) (by decide +kernel) (by decide +kernel) (by decide +kernel) (by decide +kernel) (by decide +kernel) ⟨by decide +kernel, by decide +kernel⟩ (Nat.le_of_ble_eq_true rfl) cvf_J7_fill_53178 rfl cw_43 rfl (ct_fill (d + 1) (I) (L) 23 52 (-1 : Int32) (by omega)) dX1_init_35 ?_
  refine en_aload_n (pc := 38) 0 dX1_init_38 rfl ?_
  refine en_getR (ci := 1) (k9 := 3) (pc := 39) 0 rfl inW1 (by decide) cw_42 rfl rfl dX1_init_39 ?_
  refine en_iconst (pc := 42) (-1 : Int32) kc_iconst_m1 dX1_init_42 ?_
  refine en_stat (d := d + 1) (Kc := [(24, 0, 32, [])]) (Kr := [(1, 3, 0, [6, 7, 26, 27, 0, 0, 0, 0]), (23, 0, 52, [])]) (Kc' := [(24, 0, 32, [])]) (Ks' := [(1, 3, 0, [6, 7, 26, 27, 0, 0, 0, 0]), (23, 0, 52, []), (24, 0, 32, [])]) (idsC := [24]) (N2 := (0, 0)) (I' := fillI (fillI I 23 52 (-1 : Int32)) 24 32 (-1 : Int32)) (L' := L) (As := [.ref 24, .int (-1 : Int32)]) (st := []) (pc := 43) [] [1] [0, 2] (by decide +kernel) (by decide +kernel) (by decide +kernel) (by decide +kernel) (by decide +kernel) (by decide +kernel) (fun q hq => by
      have h9 := (show ∀ q ∈ ([(1, 3, 0, [6, 7, 26, 27, 0, 0, 0, 0]), (23, 0, 52, [])] : KS), q.1 ≠ 24 by decide +kernel) q hq
      exact ⟨(fillI_o h9), rfl⟩) (by decide +kernel) (by decide +kernel) (by decide +kernel) (by decide +kernel) (by decide +kernel) ⟨by decide +kernel, by decide +kernel⟩ (Nat.le_of_ble_eq_true rfl) cvf_J7_fill_53178 rfl cw_43 rfl (ct_fill (d + 1) (fillI I 23 52 (-1 : Int32)) (L) 24 32 (-1 : Int32) (by omega)) dX1_init_43 ?_
  exact en_ret rfl rfl rfl rfl rfl dX1_init_46
