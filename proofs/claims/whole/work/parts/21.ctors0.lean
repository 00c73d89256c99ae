def fillI (I : PI) (c n : Nat) (v : Int32) : PI := fun a => if a = c then (fun k => if k < n then v else I c k) else I a
theorem fillI_o {I : PI} {c n a : Nat} {v : Int32} (h : a ≠ c) : fillI I c n v a = I a := by unfold fillI; rw [if_neg h]
theorem fillI_s {I : PI} {c j : Nat} {v : Int32} : uI (fillI I c j v) c j v = fillI I c (j + 1) v := by
  funext a
  by_cases h : a = c
  · subst h
    rw [uI_c]
    funext k
    unfold upd fillI
    rw [if_pos rfl, if_pos rfl]
    by_cases h1 : k = j
    · rw [if_pos h1, if_pos (by omega)]
    · rw [if_neg h1]
      by_cases h2 : k < j
      · rw [if_pos h2, if_pos (by omega)]
      · rw [if_neg h2, if_neg (by omega)]
  · rw [uI_o h, fillI_o h, fillI_o h]
theorem fillI_0 {I : PI} {c : Nat} {v : Int32} : fillI I c 0 v = I := by
  funext a
  by_cases h : a = c
  · subst h
    unfold fillI
    rw [if_pos rfl]
    funext k
    rw [if_neg (by omega)]
  · rw [fillI_o h]
abbrev M_fill_i : MI := (yJ7_fill_53178, cJ7_fill_53178, 4, none)
theorem fill_loop {d c n : Nat} {v : Int32} (I : PI) (L : PL) (hn : n < 2 ^ 31) : ∀ (m j : Nat), j + m = n → EvN (Zct [(c, 0, n, [])] (fillI I c n v) L [c] (0, 0)) Ytt M_fill_i d [c] (0, 0) (0, 0) [(c, 0, n, [])] 5 [(0, .ref c), (1, .int v), (2, .int (nI j)), (3, .int (nI n))] [] (fillI I c j v) L := by
  intro m
  induction m with
  | zero =>
    intro j hj
    obtain rfl : j = n := by omega
    refine en_iload_n (pc := 5) 2 dJ7_fill_53178_5 rfl ?_
    refine en_iload_n (pc := 6) 3 dJ7_fill_53178_6 rfl ?_
    refine en_icmp_ge (pc := 7) 20 (by decide) dJ7_fill_53178_7 (fun _ => ?_) (fun h => absurd (Int32.le_refl _) h)
    exact en_ret rfl rfl rfl rfl rfl dJ7_fill_53178_20
  | succ m ih =>
    intro j hj
    refine en_iload_n (pc := 5) 2 dJ7_fill_53178_5 rfl ?_
    refine en_iload_n (pc := 6) 3 dJ7_fill_53178_6 rfl ?_
    refine en_icmp_ge (pc := 7) 20 (by decide) dJ7_fill_53178_7 (fun h => absurd h (nI_ge (by omega) hn)) (fun _ => ?_)
    refine en_aload_n (pc := 10) 0 dJ7_fill_53178_10 rfl ?_
    refine en_iload_n (pc := 11) 2 dJ7_fill_53178_11 rfl ?_
    refine en_iload_n (pc := 12) 1 dJ7_fill_53178_12 rfl ?_
    refine en_iast (pc := 13) 0 rfl (fun z h => by cases h) (vp_in_nI (by omega) hn) rfl dJ7_fill_53178_13 ?_
    rw [nI_clamp (by omega), fillI_s]
    refine en_iinc (pc := 14) (lv' := [(2, .int (nI (j + 1))), (0, .ref c), (1, .int v), (3, .int (nI n))]) dJ7_fill_53178_14 2 rfl rfl (nI (j + 1)) (by rw [← nI_1]; rfl) rfl ?_
    refine en_goto (pc := 17) 5 (by decide) dJ7_fill_53178_17 ?_
    refine EvN.sub [1, 2, 0, 3] rfl ?_
    exact ih (j + 1) (by omega)
theorem ct_fill (d : Nat) (I : PI) (L : PL) (c n : Nat) (v : Int32) (hn : n < 2 ^ 31) : CtorOk M_fill_i d [.ref c, .int v] [c] [(c, 0, n, [])] I L [(c, 0, n, [])] (fillI I c n v) L (0, 0) := by
  refine CtorOk.of (by decide +kernel) (Nat.le_of_ble_eq_true rfl) ?_
  show EvN _ _ _ _ _ _ _ _ 0 [(0, .ref c), (1, .int v)] [] I L
  refine en_iconst (pc := 0) 0 (by decide +kernel) dJ7_fill_53178_0 ?_
  refine en_istore_n (pc := 1) (lv' := [(2, .int 0), (0, .ref c), (1, .int v)]) dJ7_fill_53178_1 rfl rfl rfl ?_
  refine en_aload_n (pc := 2) 1 dJ7_fill_53178_2 rfl ?_
  refine en_alen (pc := 3) (j0 := 0) (nI n) rfl rfl dJ7_fill_53178_3 ?_
  refine en_istore_n (pc := 4) (lv' := [(3, .int (nI n)), (2, .int 0), (0, .ref c), (1, .int v)]) dJ7_fill_53178_4 rfl rfl rfl ?_
  refine EvN.sub [2, 3, 1, 0] rfl ?_
  have h := fill_loop (d := d) (c := c) (v := v) I L hn n 0 (by omega)
  rw [fillI_0] at h
  exact h
abbrev M_X12_init_i : MI := (yX12_init, cX12_init, 2, none)
abbrev M_X11_init_i : MI := (yX11_init, cX11_init, 1, none)
abbrev M_X0_init_i : MI := (yX0_init, cX0_init, 1, none)
abbrev M_X9_init_i : MI := (yX9_init, cX9_init, 1, none)
abbrev M_X5_init_i : MI := (yX5_init, cX5_init, 3, none)
abbrev M_X2_init_i : MI := (yX2_init, cX2_init, 1, none)
abbrev M_X8_init_i : MI := (yX8_init, cX8_init, 2, none)
abbrev M_X1_init_i : MI := (yX1_init, cX1_init, 3, none)
abbrev M_X4_init_i : MI := (yX4_init, cX4_init, 3, none)
abbrev M_X7_init_i : MI := (yX7_init, cX7_init, 1, none)
abbrev M_X6_init_i : MI := (yX6_init, cX6_init, 2, none)
abbrev M_X3_init_i : MI := (yX3_init, cX3_init, 1, none)
abbrev M_X10_init_i : MI := (yX10_init, cX10_init, 1, none)
theorem cw_0 : Cond.static yJ7_fill_53178 ∈ WL := wl_of (List.mem_append_right _ (in_t1 (List.mem_of_getElem? (i := 146) rfl))) rfl
theorem cw_1 : Cond.initialized RJ7 ∈ WL := wl_of (List.mem_append_right _ (in_t1 (List.mem_of_getElem? (i := 8) rfl))) rfl
theorem cw_2 : Cond.code yJ7_fill_53178 cJ7_fill_53178 4 none ∈ WL := wl_of (List.mem_append_right _ (in_t1 (List.mem_of_getElem? (i := 147) rfl))) rfl
theorem cvf_J7_fill_53178 : CalS M_fill_i 2 := ⟨cw_0, cw_1, cw_2, by decide +kernel, by decide⟩
theorem cw_3 : Cond.methodLink RX10 3 Lib.objectInit ∈ WL := wl_of (List.mem_append_right _ (in_t1 (List.mem_of_getElem? (i := 35) rfl))) rfl
theorem cw_4 : Cond.instanceMethod Lib.objectInit ∈ WL := wl_of (List.mem_append_right _ (in_t1 (List.mem_of_getElem? (i := 28) rfl))) rfl
theorem cw_5 : Cond.code Lib.objectInit ⟨#[0xb1]⟩ 1 none ∈ WL := wl_of (List.mem_append_right _ (in_t1 (List.mem_of_getElem? (i := 29) rfl))) rfl
theorem kc_bipush_120 : (Int8.ofInt (120)).toInt32 = 120 := by decide +kernel
theorem cw_6 : Cond.arrayClass .int ∈ WL := wl_of (List.mem_append_right _ (in_t1 (List.mem_of_getElem? (i := 50) rfl))) rfl
theorem cw_7 : Cond.fieldLink RX10 11 "PulseParts$Tape" "bytes" "[I" ∈ WL := wl_of (List.mem_append_right _ (in_t1 (List.mem_of_getElem? (i := 36) rfl))) rfl
theorem cw_8 : Cond.instanceMethod yX10_init ∈ WL := wl_of (List.mem_append_right _ (in_t1 (List.mem_of_getElem? (i := 33) rfl))) rfl
theorem cw_9 : Cond.initialized RX10 ∈ WL := wl_of (List.mem_append_right _ (in_t1 (List.mem_of_getElem? (i := 2) rfl))) rfl
theorem cw_10 : Cond.code yX10_init cX10_init 1 none ∈ WL := wl_of (List.mem_append_right _ (in_t1 (List.mem_of_getElem? (i := 34) rfl))) rfl
theorem ci_X10_init : CalI M_X10_init_i 0 := ⟨cw_8, cw_9, cw_10, rfl, by decide +kernel, by decide, rfl⟩
set_option maxRecDepth 100000 in
set_option maxHeartbeats 4000000 in
theorem ct_X10_init (d : Nat) (I : PI) (L : PL) (hI14 : I 14 = fun _ => 0) : CtorOk M_X10_init_i (d + 1) [.ref 10] [10] [(10, 12, 0, [2, 0, 0])] I L [(10, 12, 0, [17, 0, 0]), (14, 0, 120, [])] (I) (L) (1, 120) := by
  refine CtorOk.of (by decide +kernel) (Nat.le_of_ble_eq_true rfl) ?_
  show EvN _ _ _ _ _ _ _ _ 0 [(0, .ref 10)] [] I L
  refine en_aload_n (pc := 0) 0 dX10_init_0 rfl ?_
  refine en_objInit (d := d) (pc := 1) cw_3 cw_4 cw_5 (Nat.le_of_ble_eq_true rfl) dX10_init_1 ?_
  refine en_aload_n (pc := 4) 0 dX10_init_4 rfl ?_
  refine en_bipush (pc := 5) 120 kc_bipush_120 dX10_init_5 ?_
  refine en_newaI (pc := 7) 14 120 hI14 cw_6 (by decide +kernel) (by decide +kernel) (by decide +kernel) (by decide +kernel) (by decide +kernel) (by decide +kernel) (by decide +kernel) ⟨by decide +kernel, by decide +kernel⟩ dX10_init_7 ?_
  refine en_putR (ci := 10) (k9 := 0) (pc := 9) 0 tyX10 rfl inW10 tyX10_ok nmX10 (by decide) cw_7 rfl rfl rfl rfl (by decide) (fun _ => rfl) (fun _ => rfl) (by decide +kernel) (Ks' := [(10, 12, 0, [17, 0, 0]), (14, 0, 120, [])]) (by decide +kernel) dX10_init_9 ?_
  exact en_ret rfl rfl rfl rfl rfl dX10_init_12
theorem cw_11 : Cond.methodLink RX3 3 Lib.objectInit ∈ WL := wl_of (List.mem_append_right _ (in_t1 (List.mem_of_getElem? (i := 56) rfl))) rfl
theorem kc_sipush_216 : (Int16.ofInt (216)).toInt32 = 216 := by decide +kernel
theorem cw_12 : Cond.fieldLink RX3 11 "PulseParts$Codes" "turns" "[I" ∈ WL := wl_of (List.mem_append_right _ (in_t1 (List.mem_of_getElem? (i := 57) rfl))) rfl
theorem kc_bipush_9 : (Int8.ofInt (9)).toInt32 = 9 := by decide +kernel
theorem cw_13 : Cond.fieldLink RX3 15 "PulseParts$Codes" "lengths" "[I" ∈ WL := wl_of (List.mem_append_right _ (in_t1 (List.mem_of_getElem? (i := 59) rfl))) rfl
theorem cw_14 : Cond.instanceMethod yX3_init ∈ WL := wl_of (List.mem_append_right _ (in_t1 (List.mem_of_getElem? (i := 54) rfl))) rfl
theorem cw_15 : Cond.initialized RX3 ∈ WL := wl_of (List.mem_append_right _ (in_t1 (List.mem_of_getElem? (i := 3) rfl))) rfl
theorem cw_16 : Cond.code yX3_init cX3_init 1 none ∈ WL := wl_of (List.mem_append_right _ (in_t1 (List.mem_of_getElem? (i := 55) rfl))) rfl
theorem ci_X3_init : CalI M_X3_init_i 0 := ⟨cw_14, cw_15, cw_16, rfl, by decide +kernel, by decide, rfl⟩
set_option maxRecDepth 100000 in
set_option maxHeartbeats 4000000 in
theorem ct_X3_init (d : Nat) (I : PI) (L : PL) (hI15 : I 15 = fun _ => 0) (hI16 : I 16 = fun _ => 0) : CtorOk M_X3_init_i (d + 1) [.ref 3] [3] [(3, 5, 0, [2, 2, 0])] I L [(3, 5, 0, [18, 19, 0]), (15, 0, 216, []), (16, 0, 9, [])] (I) (L) (2, 225) := by
  refine CtorOk.of (by decide +kernel) (Nat.le_of_ble_eq_true rfl) ?_
  show EvN _ _ _ _ _ _ _ _ 0 [(0, .ref 3)] [] I L
  refine en_aload_n (pc := 0) 0 dX3_init_0 rfl ?_
  refine en_objInit (d := d) (pc := 1) cw_11 cw_4 cw_5 (Nat.le_of_ble_eq_true rfl) dX3_init_1 ?_
  refine en_aload_n (pc := 4) 0 dX3_init_4 rfl ?_
  refine en_sipush (pc := 5) 216 kc_sipush_216 dX3_init_5 ?_
  refine en_newaI (pc := 8) 15 216 hI15 cw_6 (by decide +kernel) (by decide +kernel) (by decide +kernel) (by decide +kernel) (by decide +kernel) (by decide +kernel) (by decide +kernel) ⟨by decide +kernel, by decide +kernel⟩ dX3_init_8 ?_
  refine en_putR (ci := 3) (k9 := 0) (pc := 10) 0 tyX3 rfl inW3 tyX3_ok nmX3 (by decide) cw_12 rfl rfl rfl rfl (by decide) (fun _ => rfl) (fun _ => rfl) (by decide +kernel) (Ks' := [(3, 5, 0, [18, 2, 0]), (15, 0, 216, [])]) (by decide +kernel) dX3_init_10 ?_
  refine en_aload_n (pc := 13) 0 dX3_init_13 rfl ?_
  refine en_bipush (pc := 14) 9 kc_bipush_9 dX3_init_14 ?_
  refine en_newaI (pc := 16) 16 9 hI16 cw_6 (by decide +kernel) (by decide +kernel) (by decide +kernel) (by decide +kernel) (by decide +kernel) (by decide +kernel) (by decide +kernel) ⟨by decide +kernel, by decide +kernel⟩ dX3_init_16 ?_
  refine en_putR (ci := 3) (k9 := 1) (pc := 18) 0 tyX3 rfl inW3 tyX3_ok nmX3 (by decide) cw_13 rfl rfl rfl rfl (by decide) (fun _ => rfl) (fun _ => rfl) (by decide +kernel) (Ks' := [(3, 5, 0, [18, 19, 0]), (15, 0, 216, []), (16, 0, 9, [])]) (by decide +kernel) dX3_init_18 ?_
  exact en_ret rfl rfl rfl rfl rfl dX3_init_21
theorem cw_17 : Cond.methodLink RX6 3 Lib.objectInit ∈ WL := wl_of (List.mem_append_right _ (in_t1 (List.mem_of_getElem? (i := 75) rfl))) rfl
theorem cw_18 : Cond.fieldLink RX6 9 "PulseParts$LawReader" "tape" "LPulseParts$Tape;" ∈ WL := wl_of (List.mem_append_right _ (in_t1 (List.mem_of_getElem? (i := 76) rfl))) rfl
theorem cw_19 : Cond.fieldLink RX6 17 "PulseParts$LawReader" "steps" "[I" ∈ WL := wl_of (List.mem_append_right _ (in_t1 (List.mem_of_getElem? (i := 77) rfl))) rfl
theorem cw_20 : Cond.instanceMethod yX6_init ∈ WL := wl_of (List.mem_append_right _ (in_t1 (List.mem_of_getElem? (i := 73) rfl))) rfl
theorem cw_21 : Cond.initialized RX6 ∈ WL := wl_of (List.mem_append_right _ (in_t1 (List.mem_of_getElem? (i := 4) rfl))) rfl
theorem cw_22 : Cond.code yX6_init cX6_init 2 none ∈ WL := wl_of (List.mem_append_right _ (in_t1 (List.mem_of_getElem? (i := 74) rfl))) rfl
theorem ci_X6_init : CalI M_X6_init_i 1 := ⟨cw_20, cw_21, cw_22, rfl, by decide +kernel, by decide, rfl⟩
set_option maxRecDepth 100000 in
set_option maxHeartbeats 4000000 in
theorem ct_X6_init (d : Nat) (I : PI) (L : PL) (hI17 : I 17 = fun _ => 0) : CtorOk M_X6_init_i (d + 1) [.ref 6, .ref 10] [6, 10] [(6, 8, 0, [2, 2, 0])] I L [(6, 8, 0, [13, 20, 0]), (17, 0, 120, [])] (I) (L) (1, 120) := by
  refine CtorOk.of (by decide +kernel) (Nat.le_of_ble_eq_true rfl) ?_
  show EvN _ _ _ _ _ _ _ _ 0 [(0, .ref 6), (1, .ref 10)] [] I L
  refine en_aload_n (pc := 0) 0 dX6_init_0 rfl ?_
  refine en_objInit (d := d) (pc := 1) cw_17 cw_4 cw_5 (Nat.le_of_ble_eq_true rfl) dX6_init_1 ?_
  refine en_aload_n (pc := 4) 0 dX6_init_4 rfl ?_
  refine en_aload_n (pc := 5) 1 dX6_init_5 rfl ?_
  refine en_putR (ci := 6) (k9 := 0) (pc := 6) 0 tyX6 rfl inW6 tyX6_ok nmX6 (by decide) cw_18 rfl rfl rfl rfl (by decide) (fun _ => rfl) (fun _ => rfl) (by decide +kernel) (Ks' := [(6, 8, 0, [13, 2, 0])]) (by decide +kernel) dX6_init_6 ?_
  refine en_aload_n (pc := 9) 0 dX6_init_9 rfl ?_
  refine en_bipush (pc := 10) 120 kc_bipush_120 dX6_init_10 ?_
  refine en_newaI (pc := 12) 17 120 hI17 cw_6 (by decide +kernel) (by decide +kernel) (by decide +kernel) (by decide +kernel) (by decide +kernel) (by decide +kernel) (by decide +kernel) ⟨by decide +kernel, by decide +kernel⟩ dX6_init_12 ?_
  refine en_putR (ci := 6) (k9 := 1) (pc := 14) 0 tyX6 rfl inW6 tyX6_ok nmX6 (by decide) cw_19 rfl rfl rfl rfl (by decide) (fun _ => rfl) (fun _ => rfl) (by decide +kernel) (Ks' := [(6, 8, 0, [13, 20, 0]), (17, 0, 120, [])]) (by decide +kernel) dX6_init_14 ?_
  exact en_ret rfl rfl rfl rfl rfl dX6_init_17
theorem cw_23 : Cond.methodLink RX7 3 Lib.objectInit ∈ WL := wl_of (List.mem_append_right _ (in_t1 (List.mem_of_getElem? (i := 93) rfl))) rfl
theorem kc_sipush_720 : (Int16.ofInt (720)).toInt32 = 720 := by decide +kernel
theorem cw_24 : Cond.fieldLink RX7 13 "PulseParts$Laws" "steps" "[I" ∈ WL := wl_of (List.mem_append_right _ (in_t1 (List.mem_of_getElem? (i := 94) rfl))) rfl
theorem kc_bipush_6 : (Int8.ofInt (6)).toInt32 = 6 := by decide +kernel
theorem cw_25 : Cond.fieldLink RX7 17 "PulseParts$Laws" "lengths" "[I" ∈ WL := wl_of (List.mem_append_right _ (in_t1 (List.mem_of_getElem? (i := 95) rfl))) rfl
theorem cw_26 : Cond.fieldLink RX7 20 "PulseParts$Laws" "stack" "[I" ∈ WL := wl_of (List.mem_append_right _ (in_t1 (List.mem_of_getElem? (i := 96) rfl))) rfl
theorem cw_27 : Cond.instanceMethod yX7_init ∈ WL := wl_of (List.mem_append_right _ (in_t1 (List.mem_of_getElem? (i := 91) rfl))) rfl
theorem cw_28 : Cond.initialized RX7 ∈ WL := wl_of (List.mem_append_right _ (in_t1 (List.mem_of_getElem? (i := 5) rfl))) rfl
theorem cw_29 : Cond.code yX7_init cX7_init 1 none ∈ WL := wl_of (List.mem_append_right _ (in_t1 (List.mem_of_getElem? (i := 92) rfl))) rfl
theorem ci_X7_init : CalI M_X7_init_i 0 := ⟨cw_27, cw_28, cw_29, rfl, by decide +kernel, by decide, rfl⟩
set_option maxRecDepth 100000 in
set_option maxHeartbeats 4000000 in
theorem ct_X7_init (d : Nat) (I : PI) (L : PL) (hI18 : I 18 = fun _ => 0) (hI19 : I 19 = fun _ => 0) (hI20 : I 20 = fun _ => 0) : CtorOk M_X7_init_i (d + 1) [.ref 7] [7] [(7, 9, 0, [2, 2, 2, 0, 0])] I L [(7, 9, 0, [21, 22, 23, 0, 0]), (18, 0, 720, []), (19, 0, 6, []), (20, 0, 120, [])] (I) (L) (3, 846) := by
  refine CtorOk.of (by decide +kernel) (Nat.le_of_ble_eq_true rfl) ?_
  show EvN _ _ _ _ _ _ _ _ 0 [(0, .ref 7)] [] I L
  refine en_aload_n (pc := 0) 0 dX7_init_0 rfl ?_
  refine en_objInit (d := d) (pc := 1) cw_23 cw_4 cw_5 (Nat.le_of_ble_eq_true rfl) dX7_init_1 ?_
  refine en_aload_n (pc := 4) 0 dX7_init_4 rfl ?_
  refine en_sipush (pc := 5) 720 kc_sipush_720 dX7_init_5 ?_
  refine en_newaI (pc := 8) 18 720 hI18 cw_6 (by decide +kernel) (by decide +kernel) (by decide +kernel) (by decide +kernel) (by decide +kernel) (by decide +kernel) (by decide +kernel) ⟨by decide +kernel, by decide +kernel⟩ dX7_init_8 ?_
  refine en_putR (ci := 7) (k9 := 0) (pc := 10) 0 tyX7 rfl inW7 tyX7_ok nmX7 (by decide) cw_24 rfl rfl rfl rfl (by decide) (fun _ => rfl) (fun _ => rfl) (by decide +kernel) (Ks' := [(7, 9, 0, [21, 2, 2, 0, 0]), (18, 0, 720, [])]) (by decide +kernel) dX7_init_10 ?_
  refine en_aload_n (pc := 13) 0 dX7_init_13 rfl ?_
  refine en_bipush (pc := 14) 6 kc_bipush_6 dX7_init_14 ?_
  refine en_newaI (pc := 16) 19 6 hI19 cw_6 (by decide +kernel) (by decide +kernel) (by decide +kernel) (by decide +kernel) (by decide +kernel) (by decide +kernel) (by decide +kernel) ⟨by decide +kernel, by decide +kernel⟩ dX7_init_16 ?_
  refine en_putR (ci := 7) (k9 := 1) (pc := 18) 0 tyX7 rfl inW7 tyX7_ok nmX7 (by decide) cw_25 rfl rfl rfl rfl (by decide) (fun _ => rfl) (fun _ => rfl) (by decide +kernel) (Ks' := [(7, 9, 0, [21, 22, 2, 0, 0]), (18, 0, 720, []), (19, 0, 6, [])]) (by decide +kernel) dX7_init_18 ?_
  refine en_aload_n (pc := 21) 0 dX7_init_21 rfl ?_
  refine en_bipush (pc := 22) 120 kc_bipush_120 dX7_init_22 ?_
  refine en_newaI (pc := 24) 20 120 hI20 cw_6 (by decide +kernel) (by decide +kernel) (by decide +kernel) (by decide +kernel) (by decide +kernel) (by decide +kernel) (by decide +kernel) ⟨by decide +kernel, by decide +kernel⟩ dX7_init_24 ?_
  refine en_putR (ci := 7) (k9 := 2) (pc := 26) 0 tyX7 rfl inW7 tyX7_ok nmX7 (by decide) cw_26 rfl rfl rfl rfl (by decide) (fun _ => rfl) (fun _ => rfl) (by decide +kernel) (Ks' := [(7, 9, 0, [21, 22, 23, 0, 0]), (18, 0, 720, []), (19, 0, 6, []), (20, 0, 120, [])]) (by decide +kernel) dX7_init_26 ?_
  exact en_ret rfl rfl rfl rfl rfl dX7_init_29
theorem cw_30 : Cond.methodLink RX4 3 Lib.objectInit ∈ WL := wl_of (List.mem_append_right _ (in_t1 (List.mem_of_getElem? (i := 116) rfl))) rfl
theorem cw_31 : Cond.fieldLink RX4 9 "PulseParts$Echoes" "codes" "LPulseParts$Codes;" ∈ WL := wl_of (List.mem_append_right _ (in_t1 (List.mem_of_getElem? (i := 117) rfl))) rfl
theorem cw_32 : Cond.fieldLink RX4 15 "PulseParts$Echoes" "laws" "LPulseParts$Laws;" ∈ WL := wl_of (List.mem_append_right _ (in_t1 (List.mem_of_getElem? (i := 118) rfl))) rfl
theorem kc_bipush_24 : (Int8.ofInt (24)).toInt32 = 24 := by decide +kernel
theorem cw_33 : Cond.fieldLink RX4 21 "PulseParts$Echoes" "weights" "[I" ∈ WL := wl_of (List.mem_append_right _ (in_t1 (List.mem_of_getElem? (i := 119) rfl))) rfl
theorem kc_bipush_64 : (Int8.ofInt (64)).toInt32 = 64 := by decide +kernel
theorem cw_34 : Cond.fieldLink RX4 25 "PulseParts$Echoes" "hindrances" "[I" ∈ WL := wl_of (List.mem_append_right _ (in_t1 (List.mem_of_getElem? (i := 121) rfl))) rfl
theorem cw_35 : Cond.instanceMethod yX4_init ∈ WL := wl_of (List.mem_append_right _ (in_t1 (List.mem_of_getElem? (i := 114) rfl))) rfl
theorem cw_36 : Cond.initialized RX4 ∈ WL := wl_of (List.mem_append_right _ (in_t1 (List.mem_of_getElem? (i := 6) rfl))) rfl
theorem cw_37 : Cond.code yX4_init cX4_init 3 none ∈ WL := wl_of (List.mem_append_right _ (in_t1 (List.mem_of_getElem? (i := 115) rfl))) rfl
theorem ci_X4_init : CalI M_X4_init_i 2 := ⟨cw_35, cw_36, cw_37, rfl, by decide +kernel, by decide, rfl⟩
set_option maxRecDepth 100000 in
set_option maxHeartbeats 4000000 in
theorem ct_X4_init (d : Nat) (I : PI) (L : PL) (hI21 : I 21 = fun _ => 0) (hI22 : I 22 = fun _ => 0) : CtorOk M_X4_init_i (d + 1) [.ref 4, .ref 3, .ref 7] [4, 3, 7] [(4, 6, 0, [2, 2, 2, 2, 0, 0])] I L [(4, 6, 0, [6, 10, 24, 25, 0, 0]), (21, 0, 24, []), (22, 0, 64, [])] (I) (L) (2, 88) := by
  refine CtorOk.of (by decide +kernel) (Nat.le_of_ble_eq_true rfl) ?_
  show EvN _ _ _ _ _ _ _ _ 0 [(0, .ref 4), (1, .ref 3), (2, .ref 7)] [] I L
  refine en_aload_n (pc := 0) 0 dX4_init_0 rfl ?_
  refine en_objInit (d := d) (pc := 1) cw_30 cw_4 cw_5 (Nat.le_of_ble_eq_true rfl) dX4_init_1 ?_
  refine en_aload_n (pc := 4) 0 dX4_init_4 rfl ?_
  refine en_aload_n (pc := 5) 1 dX4_init_5 rfl ?_
  refine en_putR (ci := 4) (k9 := 0) (pc := 6) 0 tyX4 rfl inW4 tyX4_ok nmX4 (by decide) cw_31 rfl rfl rfl rfl (by decide) (fun _ => rfl) (fun _ => rfl) (by decide +kernel) (Ks' := [(4, 6, 0, [6, 2, 2, 2, 0, 0])]) (by decide +kernel) dX4_init_6 ?_
  refine en_aload_n (pc := 9) 0 dX4_init_9 rfl ?_
  refine en_aload_n (pc := 10) 2 dX4_init_10 rfl ?_
  refine en_putR (ci := 4) (k9 := 1) (pc := 11) 0 tyX4 rfl inW4 tyX4_ok nmX4 (by decide) cw_32 rfl rfl rfl rfl (by decide) (fun _ => rfl) (fun _ => rfl) (by decide +kernel) (Ks' := [(4, 6, 0, [6, 10, 2, 2, 0, 0])]) (by decide +kernel) dX4_init_11 ?_
  refine en_aload_n (pc := 14) 0 dX4_init_14 rfl ?_
  refine en_bipush (pc := 15) 24 kc_bipush_24 dX4_init_15 ?_
  refine en_newaI (pc := 17) 21 24 hI21 cw_6 (by decide +kernel) (by decide +kernel) (by decide +kernel) (by decide +kernel) (by decide +kernel) (by decide +kernel) (by decide +kernel) ⟨by decide +kernel, by decide +kernel⟩ dX4_init_17 ?_
  refine en_putR (ci := 4) (k9 := 2) (pc := 19) 0 tyX4 rfl inW4 tyX4_ok nmX4 (by decide) cw_33 rfl rfl rfl rfl (by decide) (fun _ => rfl) (fun _ => rfl) (by decide +kernel) (Ks' := [(4, 6, 0, [6, 10, 24, 2, 0, 0]), (21, 0, 24, [])]) (by decide +kernel) dX4_init_19 ?_
  refine en_aload_n (pc := 22) 0 dX4_init_22 rfl ?_
  refine en_bipush (pc := 23) 64 kc_bipush_64 dX4_init_23 ?_
  refine en_newaI (pc := 25) 22 64 hI22 cw_6 (by decide +kernel) (by decide +kernel) (by decide +kernel) (by decide +kernel) (by decide +kernel) (by decide +kernel) (by decide +kernel) ⟨by decide +kernel, by decide +kernel⟩ dX4_init_25 ?_
  refine en_putR (ci := 4) (k9 := 3) (pc := 27) 0 tyX4 rfl inW4 tyX4_ok nmX4 (by decide) cw_34 rfl rfl rfl rfl (by decide) (fun _ => rfl) (fun _ => rfl) (by decide +kernel) (Ks' := [(4, 6, 0, [6, 10, 24, 25, 0, 0]), (21, 0, 24, []), (22, 0, 64, [])]) (by decide +kernel) dX4_init_27 ?_
  exact en_ret rfl rfl rfl rfl rfl dX4_init_30
theorem cw_38 : Cond.methodLink RX1 3 Lib.objectInit ∈ WL := wl_of (List.mem_append_right _ (in_t1 (List.mem_of_getElem? (i := 144) rfl))) rfl
theorem cw_39 : Cond.fieldLink RX1 9 "PulseParts$Bests" "codes" "LPulseParts$Codes;" ∈ WL := wl_of (List.mem_append_right _ (in_t1 (List.mem_of_getElem? (i := 148) rfl))) rfl
theorem cw_40 : Cond.fieldLink RX1 15 "PulseParts$Bests" "echoes" "LPulseParts$Echoes;" ∈ WL := wl_of (List.mem_append_right _ (in_t1 (List.mem_of_getElem? (i := 149) rfl))) rfl
theorem kc_bipush_52 : (Int8.ofInt (52)).toInt32 = 52 := by decide +kernel
theorem cw_41 : Cond.fieldLink RX1 19 "PulseParts$Bests" "bestCodes" "[I" ∈ WL := wl_of (List.mem_append_right _ (in_t1 (List.mem_of_getElem? (i := 150) rfl))) rfl
theorem kc_bipush_32 : (Int8.ofInt (32)).toInt32 = 32 := by decide +kernel
theorem cw_42 : Cond.fieldLink RX1 25 "PulseParts$Bests" "bestFilters" "[I" ∈ WL := wl_of (List.mem_append_right _ (in_t1 (List.mem_of_getElem? (i := 151) rfl))) rfl
theorem kc_iconst_m1 : Int32.ofInt (-1) = (-1 : Int32) := by decide +kernel
theorem cw_43 : Cond.methodLink RX1 28 yJ7_fill_53178 ∈ WL := wl_of (List.mem_append_right _ (in_t1 (List.mem_of_getElem? (i := 145) rfl))) rfl
theorem cw_44 : Cond.instanceMethod yX1_init ∈ WL := wl_of (List.mem_append_right _ (in_t1 (List.mem_of_getElem? (i := 142) rfl))) rfl
theorem cw_45 : Cond.initialized RX1 ∈ WL := wl_of (List.mem_append_right _ (in_t1 (List.mem_of_getElem? (i := 7) rfl))) rfl
theorem cw_46 : Cond.code yX1_init cX1_init 3 none ∈ WL := wl_of (List.mem_append_right _ (in_t1 (List.mem_of_getElem? (i := 143) rfl))) rfl
theorem ci_X1_init : CalI M_X1_init_i 2 := ⟨cw_44, cw_45, cw_46, rfl, by decide +kernel, by decide, rfl⟩
set_option maxRecDepth 100000 in
set_option maxHeartbeats 4000000 in
theorem ct_X1_init (d : Nat) (I : PI) (L : PL) (hI23 : I 23 = fun _ => 0) (hI24 : I 24 = fun _ => 0) : CtorOk M_X1_init_i (d + 2) [.ref 1, .ref 3, .ref 4] [1, 3, 4] [(1, 3, 0, [2, 2, 2, 2, 0, 0, 0, 0])] I L [(1, 3, 0, [6, 7, 26, 27, 0, 0, 0, 0]), (23, 0, 52, []), (24, 0, 32, [])] (fillI (fillI I 23 52 (-1 : Int32)) 24 32 (-1 : Int32)) (L) (2, 84) := by
  refine CtorOk.of (by decide +kernel) (Nat.le_of_ble_eq_true rfl) ?_
  show EvN _ _ _ _ _ _ _ _ 0 [(0, .ref 1), (1, .ref 3), (2, .ref 4)] [] I L
  refine en_aload_n (pc := 0) 0 dX1_init_0 rfl ?_
  refine en_objInit (d := d + 1) (pc := 1) cw_38 cw_4 cw_5 (Nat.le_of_ble_eq_true rfl) dX1_init_1 ?_
  refine en_aload_n (pc := 4) 0 dX1_init_4 rfl ?_
  refine en_aload_n (pc := 5) 1 dX1_init_5 rfl ?_
  refine en_putR (ci := 1) (k9 := 0) (pc := 6) 0 tyX1 rfl inW1 tyX1_ok nmX1 (by decide) cw_39 rfl rfl rfl rfl (by decide) (fun _ => rfl) (fun _ => rfl) (by decide +kernel) (Ks' := [(1, 3, 0, [6, 2, 2, 2, 0, 0, 0, 0])]) (by decide +kernel) dX1_init_6 ?_
  refine en_aload_n (pc := 9) 0 dX1_init_9 rfl ?_
  refine en_aload_n (pc := 10) 2 dX1_init_10 rfl ?_
  refine en_putR (ci := 1) (k9 := 1) (pc := 11) 0 tyX1 rfl inW1 tyX1_ok nmX1 (by decide) cw_40 rfl rfl rfl rfl (by decide) (fun _ => rfl) (fun _ => rfl) (by decide +kernel) (Ks' := [(1, 3, 0, [6, 7, 2, 2, 0, 0, 0, 0])]) (by decide +kernel) dX1_init_11 ?_
  refine en_aload_n (pc := 14) 0 dX1_init_14 rfl ?_
  refine en_bipush (pc := 15) 52 kc_bipush_52 dX1_init_15 ?_
  refine en_newaI (pc := 17) 23 52 hI23 cw_6 (by decide +kernel) (by decide +kernel) (by decide +kernel) (by decide +kernel) (by decide +kernel) (by decide +kernel) (by decide +kernel) ⟨by decide +kernel, by decide +kernel⟩ dX1_init_17 ?_
  refine en_putR (ci := 1) (k9 := 2) (pc := 19) 0 tyX1 rfl inW1 tyX1_ok nmX1 (by decide) cw_41 rfl rfl rfl rfl (by decide) (fun _ => rfl) (fun _ => rfl) (by decide +kernel) (Ks' := [(1, 3, 0, [6, 7, 26, 2, 0, 0, 0, 0]), (23, 0, 52, [])]) (by decide +kernel) dX1_init_19 ?_
  refine en_aload_n (pc := 22) 0 dX1_init_22 rfl ?_
  refine en_bipush (pc := 23) 32 kc_bipush_32 dX1_init_23 ?_
  refine en_newaI (pc := 25) 24 32 hI24 cw_6 (by decide +kernel) (by decide +kernel) (by decide +kernel) (by decide +kernel) (by decide +kernel) (by decide +kernel) (by decide +kernel) ⟨by decide +kernel, by decide +kernel⟩ dX1_init_25 ?_
  refine en_putR (ci := 1) (k9 := 3) (pc := 27) 0 tyX1 rfl inW1 tyX1_ok nmX1 (by decide) cw_42 rfl rfl rfl rfl (by decide) (fun _ => rfl) (fun _ => rfl) (by decide +kernel) (Ks' := [(1, 3, 0, [6, 7, 26, 27, 0, 0, 0, 0]), (23, 0, 52, []), (24, 0, 32, [])]) (by decide +kernel) dX1_init_27 ?_
  refine en_aload_n (pc := 30) 0 dX1_init_30 rfl ?_
  refine en_getR (ci := 1) (k9 := 2) (pc := 31) 0 rfl inW1 (by decide) cw_41 rfl rfl dX1_init_31 ?_
  refine en_iconst (pc := 34) (-1 : Int32) kc_iconst_m1 dX1_init_34 ?_
  refine en_stat (d := d + 1) (Kc := [(23, 0, 52, [])]) (Kr := [(1, 3, 0, [6, 7, 26, 27, 0, 0, 0, 0]), (24, 0, 32, [])]) (Kc' := [(23, 0, 52, [])]) (Ks' := [(1, 3, 0, [6, 7, 26, 27, 0, 0, 0, 0]), (24, 0, 32, []), (23, 0, 52, [])]) (idsC := [23]) (N2 := (0, 0)) (I' := fillI I 23 52 (-1 : Int32)) (L' := L) (As := [.ref 23, .int (-1 : Int32)]) (st := []) (pc := 35) [] [1] [0, 2] (by decide +kernel) (by decide +kernel) (by decide +kernel) (by decide +kernel) (by decide +kernel) (by decide +kernel) (fun q hq => by
      have h9 := (show ∀ q ∈ ([(1, 3, 0, [6, 7, 26, 27, 0, 0, 0, 0]), (24, 0, 32, [])] : KS), q.1 ≠ 23 by decide +kernel) q hq
      exact ⟨(fillI_o h9), rfl⟩) (by decide +kernel) (by decide +kernel) (by decide +kernel) (by decide +kernel) (by decide +kernel) ⟨by decide +kernel, by decide +kernel⟩ (Nat.le_of_ble_eq_true rfl) cvf_J7_fill_53178 rfl cw_43 rfl (ct_fill (d) (I) (L) 23 52 (-1 : Int32) (Nat.le_of_ble_eq_true rfl)) dX1_init_35 ?_
  refine en_aload_n (pc := 38) 0 dX1_init_38 rfl ?_
  refine en_getR (ci := 1) (k9 := 3) (pc := 39) 0 rfl inW1 (by decide) cw_42 rfl rfl dX1_init_39 ?_
  refine en_iconst (pc := 42) (-1 : Int32) kc_iconst_m1 dX1_init_42 ?_
  refine en_stat (d := d + 1) (Kc := [(24, 0, 32, [])]) (Kr := [(1, 3, 0, [6, 7, 26, 27, 0, 0, 0, 0]), (23, 0, 52, [])]) (Kc' := [(24, 0, 32, [])]) (Ks' := [(1, 3, 0, [6, 7, 26, 27, 0, 0, 0, 0]), (23, 0, 52, []), (24, 0, 32, [])]) (idsC := [24]) (N2 := (0, 0)) (I' := fillI (fillI I 23 52 (-1 : Int32)) 24 32 (-1 : Int32)) (L' := L) (As := [.ref 24, .int (-1 : Int32)]) (st := []) (pc := 43) [] [1] [0, 2] (by decide +kernel) (by decide +kernel) (by decide +kernel) (by decide +kernel) (by decide +kernel) (by decide +kernel) (fun q hq => by
      have h9 := (show ∀ q ∈ ([(1, 3, 0, [6, 7, 26, 27, 0, 0, 0, 0]), (23, 0, 52, [])] : KS), q.1 ≠ 24 by decide +kernel) q hq
      exact ⟨(fillI_o h9), rfl⟩) (by decide +kernel) (by decide +kernel) (by decide +kernel) (by decide +kernel) (by decide +kernel) ⟨by decide +kernel, by decide +kernel⟩ (Nat.le_of_ble_eq_true rfl) cvf_J7_fill_53178 rfl cw_43 rfl (ct_fill (d) (fillI I 23 52 (-1 : Int32)) (L) 24 32 (-1 : Int32) (Nat.le_of_ble_eq_true rfl)) dX1_init_43 ?_
  exact en_ret rfl rfl rfl rfl rfl dX1_init_46
theorem cw_47 : Cond.methodLink RX8 3 Lib.objectInit ∈ WL := wl_of (List.mem_append_right _ (in_t1 (List.mem_of_getElem? (i := 178) rfl))) rfl
theorem cw_48 : Cond.fieldLink RX8 9 "PulseParts$Rests" "settings" "[I" ∈ WL := wl_of (List.mem_append_right _ (in_t1 (List.mem_of_getElem? (i := 180) rfl))) rfl
theorem kc_bipush_56 : (Int8.ofInt (56)).toInt32 = 56 := by decide +kernel
theorem cw_49 : Cond.fieldLink RX8 15 "PulseParts$Rests" "numbers" "[I" ∈ WL := wl_of (List.mem_append_right _ (in_t1 (List.mem_of_getElem? (i := 181) rfl))) rfl
theorem kc_bipush_7 : (Int8.ofInt (7)).toInt32 = 7 := by decide +kernel
theorem cw_50 : Cond.fieldLink RX8 18 "PulseParts$Rests" "lengths" "[I" ∈ WL := wl_of (List.mem_append_right _ (in_t1 (List.mem_of_getElem? (i := 182) rfl))) rfl
theorem kc_bipush_8 : (Int8.ofInt (8)).toInt32 = 8 := by decide +kernel
theorem cw_51 : Cond.fieldLink RX8 21 "PulseParts$Rests" "readings" "[I" ∈ WL := wl_of (List.mem_append_right _ (in_t1 (List.mem_of_getElem? (i := 183) rfl))) rfl
theorem kc_sipush_256 : (Int16.ofInt (256)).toInt32 = 256 := by decide +kernel
theorem cw_52 : Cond.fieldLink RX8 24 "PulseParts$Rests" "seenByBits" "[I" ∈ WL := wl_of (List.mem_append_right _ (in_t1 (List.mem_of_getElem? (i := 184) rfl))) rfl
theorem kc_sipush_155 : (Int16.ofInt (155)).toInt32 = 155 := by decide +kernel
theorem cw_53 : Cond.arrayClass .long ∈ WL := wl_of (List.mem_append_right _ (in_t1 (List.mem_of_getElem? (i := 211) rfl))) rfl
theorem cw_54 : Cond.fieldLink RX8 27 "PulseParts$Rests" "seenWays" "[J" ∈ WL := wl_of (List.mem_append_right _ (in_t1 (List.mem_of_getElem? (i := 185) rfl))) rfl
theorem cw_55 : Cond.methodLink RX8 31 yJ7_fill_53178 ∈ WL := wl_of (List.mem_append_right _ (in_t1 (List.mem_of_getElem? (i := 179) rfl))) rfl
theorem cw_56 : Cond.instanceMethod yX8_init ∈ WL := wl_of (List.mem_append_right _ (in_t1 (List.mem_of_getElem? (i := 176) rfl))) rfl
theorem cw_57 : Cond.initialized RX8 ∈ WL := wl_of (List.mem_append_right _ (in_t1 (List.mem_of_getElem? (i := 9) rfl))) rfl
theorem cw_58 : Cond.code yX8_init cX8_init 2 none ∈ WL := wl_of (List.mem_append_right _ (in_t1 (List.mem_of_getElem? (i := 177) rfl))) rfl
theorem ci_X8_init : CalI M_X8_init_i 1 := ⟨cw_56, cw_57, cw_58, rfl, by decide +kernel, by decide, rfl⟩
set_option maxRecDepth 100000 in
set_option maxHeartbeats 4000000 in
theorem ct_X8_init (d : Nat) (I : PI) (L : PL) (hI25 : I 25 = fun _ => 0) (hI26 : I 26 = fun _ => 0) (hI27 : I 27 = fun _ => 0) (hI28 : I 28 = fun _ => 0) (hL29 : L 29 = fun _ => 0) : CtorOk M_X8_init_i (d + 2) [.ref 8, .ref 13] [8, 13] [(8, 10, 0, [2, 2, 2, 2, 2, 2, 0, 0, 0])] I L [(8, 10, 0, [16, 28, 29, 30, 31, 32, 0, 0, 0]), (25, 0, 56, []), (26, 0, 7, []), (28, 0, 256, []), (29, 1, 155, []), (27, 0, 8, [])] (fillI I 27 8 (-1 : Int32)) (L) (5, 482) := by
  refine CtorOk.of (by decide +kernel) (Nat.le_of_ble_eq_true rfl) ?_
  show EvN _ _ _ _ _ _ _ _ 0 [(0, .ref 8), (1, .ref 13)] [] I L
  refine en_aload_n (pc := 0) 0 dX8_init_0 rfl ?_
  refine en_objInit (d := d + 1) (pc := 1) cw_47 cw_4 cw_5 (Nat.le_of_ble_eq_true rfl) dX8_init_1 ?_
  refine en_aload_n (pc := 4) 0 dX8_init_4 rfl ?_
  refine en_aload_n (pc := 5) 1 dX8_init_5 rfl ?_
  refine en_putR (ci := 8) (k9 := 0) (pc := 6) 0 tyX8 rfl inW8 tyX8_ok nmX8 (by decide) cw_48 rfl rfl rfl rfl (by decide) (fun _ => rfl) (fun _ => rfl) (by decide +kernel) (Ks' := [(8, 10, 0, [16, 2, 2, 2, 2, 2, 0, 0, 0])]) (by decide +kernel) dX8_init_6 ?_
  refine en_aload_n (pc := 9) 0 dX8_init_9 rfl ?_
  refine en_bipush (pc := 10) 56 kc_bipush_56 dX8_init_10 ?_
  refine en_newaI (pc := 12) 25 56 hI25 cw_6 (by decide +kernel) (by decide +kernel) (by decide +kernel) (by decide +kernel) (by decide +kernel) (by decide +kernel) (by decide +kernel) ⟨by decide +kernel, by decide +kernel⟩ dX8_init_12 ?_
  refine en_putR (ci := 8) (k9 := 1) (pc := 14) 0 tyX8 rfl inW8 tyX8_ok nmX8 (by decide) cw_49 rfl rfl rfl rfl (by decide) (fun _ => rfl) (fun _ => rfl) (by decide +kernel) (Ks' := [(8, 10, 0, [16, 28, 2, 2, 2, 2, 0, 0, 0]), (25, 0, 56, [])]) (by decide +kernel) dX8_init_14 ?_
  refine en_aload_n (pc := 17) 0 dX8_init_17 rfl ?_
  refine en_bipush (pc := 18) 7 kc_bipush_7 dX8_init_18 ?_
  refine en_newaI (pc := 20) 26 7 hI26 cw_6 (by decide +kernel) (by decide +kernel) (by decide +kernel) (by decide +kernel) (by decide +kernel) (by decide +kernel) (by decide +kernel) ⟨by decide +kernel, by decide +kernel⟩ dX8_init_20 ?_
  refine en_putR (ci := 8) (k9 := 2) (pc := 22) 0 tyX8 rfl inW8 tyX8_ok nmX8 (by decide) cw_50 rfl rfl rfl rfl (by decide) (fun _ => rfl) (fun _ => rfl) (by decide +kernel) (Ks' := [(8, 10, 0, [16, 28, 29, 2, 2, 2, 0, 0, 0]), (25, 0, 56, []), (26, 0, 7, [])]) (by decide +kernel) dX8_init_22 ?_
  refine en_aload_n (pc := 25) 0 dX8_init_25 rfl ?_
  refine en_bipush (pc := 26) 8 kc_bipush_8 dX8_init_26 ?_
  refine en_newaI (pc := 28) 27 8 hI27 cw_6 (by decide +kernel) (by decide +kernel) (by decide +kernel) (by decide +kernel) (by decide +kernel) (by decide +kernel) (by decide +kernel) ⟨by decide +kernel, by decide +kernel⟩ dX8_init_28 ?_
  refine en_putR (ci := 8) (k9 := 3) (pc := 30) 0 tyX8 rfl inW8 tyX8_ok nmX8 (by decide) cw_51 rfl rfl rfl rfl (by decide) (fun _ => rfl) (fun _ => rfl) (by decide +kernel) (Ks' := [(8, 10, 0, [16, 28, 29, 30, 2, 2, 0, 0, 0]), (25, 0, 56, []), (26, 0, 7, []), (27, 0, 8, [])]) (by decide +kernel) dX8_init_30 ?_
  refine en_aload_n (pc := 33) 0 dX8_init_33 rfl ?_
  refine en_sipush (pc := 34) 256 kc_sipush_256 dX8_init_34 ?_
  refine en_newaI (pc := 37) 28 256 hI28 cw_6 (by decide +kernel) (by decide +kernel) (by decide +kernel) (by decide +kernel) (by decide +kernel) (by decide +kernel) (by decide +kernel) ⟨by decide +kernel, by decide +kernel⟩ dX8_init_37 ?_
  refine en_putR (ci := 8) (k9 := 4) (pc := 39) 0 tyX8 rfl inW8 tyX8_ok nmX8 (by decide) cw_52 rfl rfl rfl rfl (by decide) (fun _ => rfl) (fun _ => rfl) (by decide +kernel) (Ks' := [(8, 10, 0, [16, 28, 29, 30, 31, 2, 0, 0, 0]), (25, 0, 56, []), (26, 0, 7, []), (27, 0, 8, []), (28, 0, 256, [])]) (by decide +kernel) dX8_init_39 ?_
  refine en_aload_n (pc := 42) 0 dX8_init_42 rfl ?_
  refine en_sipush (pc := 43) 155 kc_sipush_155 dX8_init_43 ?_
  refine en_newaL (pc := 46) 29 155 hL29 cw_53 (by decide +kernel) (by decide +kernel) (by decide +kernel) (by decide +kernel) (by decide +kernel) (by decide +kernel) (by decide +kernel) ⟨by decide +kernel, by decide +kernel⟩ dX8_init_46 ?_
  refine en_putR (ci := 8) (k9 := 5) (pc := 48) 0 tyX8 rfl inW8 tyX8_ok nmX8 (by decide) cw_54 rfl rfl rfl rfl (by decide) (fun _ => rfl) (fun _ => rfl) (by decide +kernel) (Ks' := [(8, 10, 0, [16, 28, 29, 30, 31, 32, 0, 0, 0]), (25, 0, 56, []), (26, 0, 7, []), (27, 0, 8, []), (28, 0, 256, []), (29, 1, 155, [])]) (by decide +kernel) dX8_init_48 ?_
  refine en_aload_n (pc := 51) 0 dX8_init_51 rfl ?_
  refine en_getR (ci := 8) (k9 := 3) (pc := 52) 0 rfl inW8 (by decide) cw_51 rfl rfl dX8_init_52 ?_
  refine en_iconst (pc := 55) (-1 : Int32) kc_iconst_m1 dX8_init_55 ?_
  refine en_stat (d := d + 1) (Kc := [(27, 0, 8, [])]) (Kr := [(8, 10, 0, [16, 28, 29, 30, 31, 32, 0, 0, 0]), (25, 0, 56, []), (26, 0, 7, []), (28, 0, 256, []), (29, 1, 155, [])]) (Kc' := [(27, 0, 8, [])]) (Ks' := [(8, 10, 0, [16, 28, 29, 30, 31, 32, 0, 0, 0]), (25, 0, 56, []), (26, 0, 7, []), (28, 0, 256, []), (29, 1, 155, []), (27, 0, 8, [])]) (idsC := [27]) (N2 := (0, 0)) (I' := fillI I 27 8 (-1 : Int32)) (L' := L) (As := [.ref 27, .int (-1 : Int32)]) (st := []) (pc := 56) [] [3] [0, 1, 2, 4, 5] (by decide +kernel) (by decide +kernel) (by decide +kernel) (by decide +kernel) (by decide +kernel) (by decide +kernel) (fun q hq => by
      have h9 := (show ∀ q ∈ ([(8, 10, 0, [16, 28, 29, 30, 31, 32, 0, 0, 0]), (25, 0, 56, []), (26, 0, 7, []), (28, 0, 256, []), (29, 1, 155, [])] : KS), q.1 ≠ 27 by decide +kernel) q hq
      exact ⟨(fillI_o h9), rfl⟩) (by decide +kernel) (by decide +kernel) (by decide +kernel) (by decide +kernel) (by decide +kernel) ⟨by decide +kernel, by decide +kernel⟩ (Nat.le_of_ble_eq_true rfl) cvf_J7_fill_53178 rfl cw_55 rfl (ct_fill (d) (I) (L) 27 8 (-1 : Int32) (Nat.le_of_ble_eq_true rfl)) dX8_init_56 ?_
  exact en_ret rfl rfl rfl rfl rfl dX8_init_59
theorem cw_59 : Cond.methodLink RX2 5 Lib.objectInit ∈ WL := wl_of (List.mem_append_right _ (in_t1 (List.mem_of_getElem? (i := 217) rfl))) rfl
theorem kc_sipush_1240 : (Int16.ofInt (1240)).toInt32 = 1240 := by decide +kernel
theorem cw_60 : Cond.fieldLink RX2 11 "PulseParts$Cells" "states" "[I" ∈ WL := wl_of (List.mem_append_right _ (in_t1 (List.mem_of_getElem? (i := 218) rfl))) rfl
theorem kc_bipush_31 : (Int8.ofInt (31)).toInt32 = 31 := by decide +kernel
theorem cw_61 : Cond.fieldLink RX2 15 "PulseParts$Cells" "sizes" "[I" ∈ WL := wl_of (List.mem_append_right _ (in_t1 (List.mem_of_getElem? (i := 219) rfl))) rfl
theorem kc_bipush_40 : (Int8.ofInt (40)).toInt32 = 40 := by decide +kernel
theorem cw_62 : Cond.fieldLink RX2 18 "PulseParts$Cells" "image" "[I" ∈ WL := wl_of (List.mem_append_right _ (in_t1 (List.mem_of_getElem? (i := 220) rfl))) rfl
theorem cw_63 : Cond.fieldLink RX2 21 "PulseParts$Cells" "imageSize" "I" ∈ WL := wl_of (List.mem_append_right _ (in_t1 (List.mem_of_getElem? (i := 221) rfl))) rfl
theorem cw_64 : Cond.instanceMethod yX2_init ∈ WL := wl_of (List.mem_append_right _ (in_t1 (List.mem_of_getElem? (i := 215) rfl))) rfl
theorem cw_65 : Cond.initialized RX2 ∈ WL := wl_of (List.mem_append_right _ (in_t1 (List.mem_of_getElem? (i := 10) rfl))) rfl
theorem cw_66 : Cond.code yX2_init cX2_init 1 none ∈ WL := wl_of (List.mem_append_right _ (in_t1 (List.mem_of_getElem? (i := 216) rfl))) rfl
theorem ci_X2_init : CalI M_X2_init_i 0 := ⟨cw_64, cw_65, cw_66, rfl, by decide +kernel, by decide, rfl⟩
set_option maxRecDepth 100000 in
set_option maxHeartbeats 4000000 in
theorem ct_X2_init (d : Nat) (I : PI) (L : PL) (hI30 : I 30 = fun _ => 0) (hI31 : I 31 = fun _ => 0) (hI32 : I 32 = fun _ => 0) : CtorOk M_X2_init_i (d + 1) [.ref 2] [2] [(2, 4, 0, [2, 2, 2, 0, 0, 0, 0])] I L [(2, 4, 0, [33, 34, 35, 0, 0, 0, 0]), (30, 0, 1240, []), (31, 0, 31, []), (32, 0, 40, [])] (uI I 2 3 (-1 : Int32)) (L) (3, 1311) := by
  refine CtorOk.of (by decide +kernel) (Nat.le_of_ble_eq_true rfl) ?_
  show EvN _ _ _ _ _ _ _ _ 0 [(0, .ref 2)] [] I L
  refine en_aload_n (pc := 0) 0 dX2_init_0 rfl ?_
  refine en_objInit (d := d) (pc := 1) cw_59 cw_4 cw_5 (Nat.le_of_ble_eq_true rfl) dX2_init_1 ?_
  refine en_aload_n (pc := 4) 0 dX2_init_4 rfl ?_
  refine en_sipush (pc := 5) 1240 kc_sipush_1240 dX2_init_5 ?_
  refine en_newaI (pc := 8) 30 1240 hI30 cw_6 (by decide +kernel) (by decide +kernel) (by decide +kernel) (by decide +kernel) (by decide +kernel) (by decide +kernel) (by decide +kernel) ⟨by decide +kernel, by decide +kernel⟩ dX2_init_8 ?_
  refine en_putR (ci := 2) (k9 := 0) (pc := 10) 0 tyX2 rfl inW2 tyX2_ok nmX2 (by decide) cw_60 rfl rfl rfl rfl (by decide) (fun _ => rfl) (fun _ => rfl) (by decide +kernel) (Ks' := [(2, 4, 0, [33, 2, 2, 0, 0, 0, 0]), (30, 0, 1240, [])]) (by decide +kernel) dX2_init_10 ?_
  refine en_aload_n (pc := 13) 0 dX2_init_13 rfl ?_
  refine en_bipush (pc := 14) 31 kc_bipush_31 dX2_init_14 ?_
  refine en_newaI (pc := 16) 31 31 hI31 cw_6 (by decide +kernel) (by decide +kernel) (by decide +kernel) (by decide +kernel) (by decide +kernel) (by decide +kernel) (by decide +kernel) ⟨by decide +kernel, by decide +kernel⟩ dX2_init_16 ?_
  refine en_putR (ci := 2) (k9 := 1) (pc := 18) 0 tyX2 rfl inW2 tyX2_ok nmX2 (by decide) cw_61 rfl rfl rfl rfl (by decide) (fun _ => rfl) (fun _ => rfl) (by decide +kernel) (Ks' := [(2, 4, 0, [33, 34, 2, 0, 0, 0, 0]), (30, 0, 1240, []), (31, 0, 31, [])]) (by decide +kernel) dX2_init_18 ?_
  refine en_aload_n (pc := 21) 0 dX2_init_21 rfl ?_
  refine en_bipush (pc := 22) 40 kc_bipush_40 dX2_init_22 ?_
  refine en_newaI (pc := 24) 32 40 hI32 cw_6 (by decide +kernel) (by decide +kernel) (by decide +kernel) (by decide +kernel) (by decide +kernel) (by decide +kernel) (by decide +kernel) ⟨by decide +kernel, by decide +kernel⟩ dX2_init_24 ?_
  refine en_putR (ci := 2) (k9 := 2) (pc := 26) 0 tyX2 rfl inW2 tyX2_ok nmX2 (by decide) cw_62 rfl rfl rfl rfl (by decide) (fun _ => rfl) (fun _ => rfl) (by decide +kernel) (Ks' := [(2, 4, 0, [33, 34, 35, 0, 0, 0, 0]), (30, 0, 1240, []), (31, 0, 31, []), (32, 0, 40, [])]) (by decide +kernel) dX2_init_26 ?_
  refine en_aload_n (pc := 29) 0 dX2_init_29 rfl ?_
  refine en_iconst (pc := 30) (-1 : Int32) kc_iconst_m1 dX2_init_30 ?_
  refine en_putI (ci := 2) (k9 := 3) (pc := 31) 0 tyX2 rfl inW2 tyX2_ok nmX2 (by decide) cw_63 rfl rfl rfl rfl rfl (by decide +kernel) (by decide +kernel) dX2_init_31 ?_
  exact en_ret rfl rfl rfl rfl rfl dX2_init_34
theorem cw_67 : Cond.methodLink RX5 3 Lib.objectInit ∈ WL := wl_of (List.mem_append_right _ (in_t2 (List.mem_of_getElem? (i := 7) rfl))) rfl
theorem cw_68 : Cond.fieldLink RX5 9 "PulseParts$Finder" "cells" "LPulseParts$Cells;" ∈ WL := wl_of (List.mem_append_right _ (in_t2 (List.mem_of_getElem? (i := 8) rfl))) rfl
theorem cw_69 : Cond.fieldLink RX5 15 "PulseParts$Finder" "settings" "[I" ∈ WL := wl_of (List.mem_append_right _ (in_t2 (List.mem_of_getElem? (i := 9) rfl))) rfl
theorem kc_bipush_16 : (Int8.ofInt (16)).toInt32 = 16 := by decide +kernel
theorem cw_70 : Cond.fieldLink RX5 19 "PulseParts$Finder" "window" "[I" ∈ WL := wl_of (List.mem_append_right _ (in_t2 (List.mem_of_getElem? (i := 10) rfl))) rfl
theorem cw_71 : Cond.instanceMethod yX5_init ∈ WL := wl_of (List.mem_append_right _ (in_t2 (List.mem_of_getElem? (i := 5) rfl))) rfl
theorem cw_72 : Cond.initialized RX5 ∈ WL := wl_of (List.mem_append_right _ (in_t1 (List.mem_of_getElem? (i := 11) rfl))) rfl
theorem cw_73 : Cond.code yX5_init cX5_init 3 none ∈ WL := wl_of (List.mem_append_right _ (in_t2 (List.mem_of_getElem? (i := 6) rfl))) rfl
theorem ci_X5_init : CalI M_X5_init_i 2 := ⟨cw_71, cw_72, cw_73, rfl, by decide +kernel, by decide, rfl⟩
set_option maxRecDepth 100000 in
set_option maxHeartbeats 4000000 in
theorem ct_X5_init (d : Nat) (I : PI) (L : PL) (hI33 : I 33 = fun _ => 0) : CtorOk M_X5_init_i (d + 1) [.ref 5, .ref 2, .ref 13] [5, 2, 13] [(5, 7, 0, [2, 2, 2, 0])] I L [(5, 7, 0, [5, 16, 36, 0]), (33, 0, 16, [])] (I) (L) (1, 16) := by
  refine CtorOk.of (by decide +kernel) (Nat.le_of_ble_eq_true rfl) ?_
  show EvN _ _ _ _ _ _ _ _ 0 [(0, .ref 5), (1, .ref 2), (2, .ref 13)] [] I L
  refine en_aload_n (pc := 0) 0 dX5_init_0 rfl ?_
  refine en_objInit (d := d) (pc := 1) cw_67 cw_4 cw_5 (Nat.le_of_ble_eq_true rfl) dX5_init_1 ?_
  refine en_aload_n (pc := 4) 0 dX5_init_4 rfl ?_
  refine en_aload_n (pc := 5) 1 dX5_init_5 rfl ?_
  refine en_putR (ci := 5) (k9 := 0) (pc := 6) 0 tyX5 rfl inW5 tyX5_ok nmX5 (by decide) cw_68 rfl rfl rfl rfl (by decide) (fun _ => rfl) (fun _ => rfl) (by decide +kernel) (Ks' := [(5, 7, 0, [5, 2, 2, 0])]) (by decide +kernel) dX5_init_6 ?_
  refine en_aload_n (pc := 9) 0 dX5_init_9 rfl ?_
  refine en_aload_n (pc := 10) 2 dX5_init_10 rfl ?_
  refine en_putR (ci := 5) (k9 := 1) (pc := 11) 0 tyX5 rfl inW5 tyX5_ok nmX5 (by decide) cw_69 rfl rfl rfl rfl (by decide) (fun _ => rfl) (fun _ => rfl) (by decide +kernel) (Ks' := [(5, 7, 0, [5, 16, 2, 0])]) (by decide +kernel) dX5_init_11 ?_
  refine en_aload_n (pc := 14) 0 dX5_init_14 rfl ?_
  refine en_bipush (pc := 15) 16 kc_bipush_16 dX5_init_15 ?_
  refine en_newaI (pc := 17) 33 16 hI33 cw_6 (by decide +kernel) (by decide +kernel) (by decide +kernel) (by decide +kernel) (by decide +kernel) (by decide +kernel) (by decide +kernel) ⟨by decide +kernel, by decide +kernel⟩ dX5_init_17 ?_
  refine en_putR (ci := 5) (k9 := 2) (pc := 19) 0 tyX5 rfl inW5 tyX5_ok nmX5 (by decide) cw_70 rfl rfl rfl rfl (by decide) (fun _ => rfl) (fun _ => rfl) (by decide +kernel) (Ks' := [(5, 7, 0, [5, 16, 36, 0]), (33, 0, 16, [])]) (by decide +kernel) dX5_init_19 ?_
  exact en_ret rfl rfl rfl rfl rfl dX5_init_22
theorem cw_74 : Cond.methodLink RX9 3 Lib.objectInit ∈ WL := wl_of (List.mem_append_right _ (in_t2 (List.mem_of_getElem? (i := 26) rfl))) rfl
theorem cw_75 : Cond.fieldLink RX9 11 "PulseParts$Shares" "rowsByLevel" "[J" ∈ WL := wl_of (List.mem_append_right _ (in_t2 (List.mem_of_getElem? (i := 27) rfl))) rfl
theorem cw_76 : Cond.instanceMethod yX9_init ∈ WL := wl_of (List.mem_append_right _ (in_t2 (List.mem_of_getElem? (i := 24) rfl))) rfl
theorem cw_77 : Cond.initialized RX9 ∈ WL := wl_of (List.mem_append_right _ (in_t1 (List.mem_of_getElem? (i := 12) rfl))) rfl
theorem cw_78 : Cond.code yX9_init cX9_init 1 none ∈ WL := wl_of (List.mem_append_right _ (in_t2 (List.mem_of_getElem? (i := 25) rfl))) rfl
theorem ci_X9_init : CalI M_X9_init_i 0 := ⟨cw_76, cw_77, cw_78, rfl, by decide +kernel, by decide, rfl⟩
set_option maxRecDepth 100000 in
set_option maxHeartbeats 4000000 in
theorem ct_X9_init (d : Nat) (I : PI) (L : PL) (hL34 : L 34 = fun _ => 0) : CtorOk M_X9_init_i (d + 1) [.ref 9] [9] [(9, 11, 0, [2, 0, 1])] I L [(9, 11, 0, [37, 0, 1]), (34, 1, 9, [])] (I) (L) (1, 9) := by
  refine CtorOk.of (by decide +kernel) (Nat.le_of_ble_eq_true rfl) ?_
  show EvN _ _ _ _ _ _ _ _ 0 [(0, .ref 9)] [] I L
  refine en_aload_n (pc := 0) 0 dX9_init_0 rfl ?_
  refine en_objInit (d := d) (pc := 1) cw_74 cw_4 cw_5 (Nat.le_of_ble_eq_true rfl) dX9_init_1 ?_
  refine en_aload_n (pc := 4) 0 dX9_init_4 rfl ?_
  refine en_bipush (pc := 5) 9 kc_bipush_9 dX9_init_5 ?_
  refine en_newaL (pc := 7) 34 9 hL34 cw_53 (by decide +kernel) (by decide +kernel) (by decide +kernel) (by decide +kernel) (by decide +kernel) (by decide +kernel) (by decide +kernel) ⟨by decide +kernel, by decide +kernel⟩ dX9_init_7 ?_
  refine en_putR (ci := 9) (k9 := 0) (pc := 9) 0 tyX9 rfl inW9 tyX9_ok nmX9 (by decide) cw_75 rfl rfl rfl rfl (by decide) (fun _ => rfl) (fun _ => rfl) (by decide +kernel) (Ks' := [(9, 11, 0, [37, 0, 1]), (34, 1, 9, [])]) (by decide +kernel) dX9_init_9 ?_
  exact en_ret rfl rfl rfl rfl rfl dX9_init_12
theorem cw_79 : Cond.methodLink RX0 3 Lib.objectInit ∈ WL := wl_of (List.mem_append_right _ (in_t2 (List.mem_of_getElem? (i := 42) rfl))) rfl
theorem cw_80 : Cond.fieldLink RX0 11 "PulseParts$Beams" "times" "[I" ∈ WL := wl_of (List.mem_append_right _ (in_t2 (List.mem_of_getElem? (i := 43) rfl))) rfl
theorem cw_81 : Cond.fieldLink RX0 15 "PulseParts$Beams" "dues" "[I" ∈ WL := wl_of (List.mem_append_right _ (in_t2 (List.mem_of_getElem? (i := 44) rfl))) rfl
theorem cw_82 : Cond.fieldLink RX0 18 "PulseParts$Beams" "worths" "[I" ∈ WL := wl_of (List.mem_append_right _ (in_t2 (List.mem_of_getElem? (i := 45) rfl))) rfl
theorem cw_83 : Cond.fieldLink RX0 21 "PulseParts$Beams" "byDue" "[I" ∈ WL := wl_of (List.mem_append_right _ (in_t2 (List.mem_of_getElem? (i := 46) rfl))) rfl
theorem cw_84 : Cond.instanceMethod yX0_init ∈ WL := wl_of (List.mem_append_right _ (in_t2 (List.mem_of_getElem? (i := 40) rfl))) rfl
theorem cw_85 : Cond.initialized RX0 ∈ WL := wl_of (List.mem_append_right _ (in_t1 (List.mem_of_getElem? (i := 13) rfl))) rfl
theorem cw_86 : Cond.code yX0_init cX0_init 1 none ∈ WL := wl_of (List.mem_append_right _ (in_t2 (List.mem_of_getElem? (i := 41) rfl))) rfl
theorem ci_X0_init : CalI M_X0_init_i 0 := ⟨cw_84, cw_85, cw_86, rfl, by decide +kernel, by decide, rfl⟩
set_option maxRecDepth 100000 in
set_option maxHeartbeats 4000000 in
theorem ct_X0_init (d : Nat) (I : PI) (L : PL) (hI35 : I 35 = fun _ => 0) (hI36 : I 36 = fun _ => 0) (hI37 : I 37 = fun _ => 0) (hI38 : I 38 = fun _ => 0) : CtorOk M_X0_init_i (d + 1) [.ref 0] [0] [(0, 2, 0, [2, 2, 2, 2, 0])] I L [(0, 2, 0, [38, 39, 40, 41, 0]), (35, 0, 8, []), (36, 0, 8, []), (37, 0, 8, []), (38, 0, 8, [])] (I) (L) (4, 32) := by
  refine CtorOk.of (by decide +kernel) (Nat.le_of_ble_eq_true rfl) ?_
  show EvN _ _ _ _ _ _ _ _ 0 [(0, .ref 0)] [] I L
  refine en_aload_n (pc := 0) 0 dX0_init_0 rfl ?_
  refine en_objInit (d := d) (pc := 1) cw_79 cw_4 cw_5 (Nat.le_of_ble_eq_true rfl) dX0_init_1 ?_
  refine en_aload_n (pc := 4) 0 dX0_init_4 rfl ?_
  refine en_bipush (pc := 5) 8 kc_bipush_8 dX0_init_5 ?_
  refine en_newaI (pc := 7) 35 8 hI35 cw_6 (by decide +kernel) (by decide +kernel) (by decide +kernel) (by decide +kernel) (by decide +kernel) (by decide +kernel) (by decide +kernel) ⟨by decide +kernel, by decide +kernel⟩ dX0_init_7 ?_
  refine en_putR (ci := 0) (k9 := 0) (pc := 9) 0 tyX0 rfl inW0 tyX0_ok nmX0 (by decide) cw_80 rfl rfl rfl rfl (by decide) (fun _ => rfl) (fun _ => rfl) (by decide +kernel) (Ks' := [(0, 2, 0, [38, 2, 2, 2, 0]), (35, 0, 8, [])]) (by decide +kernel) dX0_init_9 ?_
  refine en_aload_n (pc := 12) 0 dX0_init_12 rfl ?_
  refine en_bipush (pc := 13) 8 kc_bipush_8 dX0_init_13 ?_
  refine en_newaI (pc := 15) 36 8 hI36 cw_6 (by decide +kernel) (by decide +kernel) (by decide +kernel) (by decide +kernel) (by decide +kernel) (by decide +kernel) (by decide +kernel) ⟨by decide +kernel, by decide +kernel⟩ dX0_init_15 ?_
  refine en_putR (ci := 0) (k9 := 1) (pc := 17) 0 tyX0 rfl inW0 tyX0_ok nmX0 (by decide) cw_81 rfl rfl rfl rfl (by decide) (fun _ => rfl) (fun _ => rfl) (by decide +kernel) (Ks' := [(0, 2, 0, [38, 39, 2, 2, 0]), (35, 0, 8, []), (36, 0, 8, [])]) (by decide +kernel) dX0_init_17 ?_
  refine en_aload_n (pc := 20) 0 dX0_init_20 rfl ?_
  refine en_bipush (pc := 21) 8 kc_bipush_8 dX0_init_21 ?_
  refine en_newaI (pc := 23) 37 8 hI37 cw_6 (by decide +kernel) (by decide +kernel) (by decide +kernel) (by decide +kernel) (by decide +kernel) (by decide +kernel) (by decide +kernel) ⟨by decide +kernel, by decide +kernel⟩ dX0_init_23 ?_
  refine en_putR (ci := 0) (k9 := 2) (pc := 25) 0 tyX0 rfl inW0 tyX0_ok nmX0 (by decide) cw_82 rfl rfl rfl rfl (by decide) (fun _ => rfl) (fun _ => rfl) (by decide +kernel) (Ks' := [(0, 2, 0, [38, 39, 40, 2, 0]), (35, 0, 8, []), (36, 0, 8, []), (37, 0, 8, [])]) (by decide +kernel) dX0_init_25 ?_
  refine en_aload_n (pc := 28) 0 dX0_init_28 rfl ?_
  refine en_bipush (pc := 29) 8 kc_bipush_8 dX0_init_29 ?_
  refine en_newaI (pc := 31) 38 8 hI38 cw_6 (by decide +kernel) (by decide +kernel) (by decide +kernel) (by decide +kernel) (by decide +kernel) (by decide +kernel) (by decide +kernel) ⟨by decide +kernel, by decide +kernel⟩ dX0_init_31 ?_
  refine en_putR (ci := 0) (k9 := 3) (pc := 33) 0 tyX0 rfl inW0 tyX0_ok nmX0 (by decide) cw_83 rfl rfl rfl rfl (by decide) (fun _ => rfl) (fun _ => rfl) (by decide +kernel) (Ks' := [(0, 2, 0, [38, 39, 40, 41, 0]), (35, 0, 8, []), (36, 0, 8, []), (37, 0, 8, []), (38, 0, 8, [])]) (by decide +kernel) dX0_init_33 ?_
  exact en_ret rfl rfl rfl rfl rfl dX0_init_36
theorem cw_87 : Cond.methodLink RX11 1 Lib.objectInit ∈ WL := wl_of (List.mem_append_right _ (in_t1 (List.mem_of_getElem? (i := 27) rfl))) rfl
theorem kc_iconst_0 : Int32.ofInt (0) = 0 := by decide +kernel
theorem kc_iconst_1 : Int32.ofInt (1) = 1 := by decide +kernel
theorem kc_iconst_2 : Int32.ofInt (2) = 2 := by decide +kernel
theorem kc_iconst_3 : Int32.ofInt (3) = 3 := by decide +kernel
theorem kc_iconst_4 : Int32.ofInt (4) = 4 := by decide +kernel
theorem kc_iconst_5 : Int32.ofInt (5) = 5 := by decide +kernel
theorem kc_bipush_20 : (Int8.ofInt (20)).toInt32 = 20 := by decide +kernel
theorem cw_88 : Cond.fieldLink RX11 7 "PulseParts" "settings" "[I" ∈ WL := wl_of (List.mem_append_right _ (in_t2 (List.mem_of_getElem? (i := 71) rfl))) rfl
theorem cw_89 : Cond.classLink RX11 13 RX10 ∈ WL := wl_of (List.mem_append_right _ (in_t1 (List.mem_of_getElem? (i := 30) rfl))) rfl
theorem cw_90 : Cond.instantiable RX10 3 ∈ WL := wl_of (List.mem_append_right _ (in_t1 (List.mem_of_getElem? (i := 31) rfl))) rfl
theorem cw_91 : Cond.methodLink RX11 15 yX10_init ∈ WL := wl_of (List.mem_append_right _ (in_t1 (List.mem_of_getElem? (i := 32) rfl))) rfl
theorem cw_92 : Cond.fieldLink RX11 16 "PulseParts" "tape" "LPulseParts$Tape;" ∈ WL := wl_of (List.mem_append_right _ (in_t2 (List.mem_of_getElem? (i := 60) rfl))) rfl
theorem cw_93 : Cond.classLink RX11 20 RX3 ∈ WL := wl_of (List.mem_append_right _ (in_t1 (List.mem_of_getElem? (i := 51) rfl))) rfl
theorem cw_94 : Cond.instantiable RX3 3 ∈ WL := wl_of (List.mem_append_right _ (in_t1 (List.mem_of_getElem? (i := 52) rfl))) rfl
theorem cw_95 : Cond.methodLink RX11 22 yX3_init ∈ WL := wl_of (List.mem_append_right _ (in_t1 (List.mem_of_getElem? (i := 53) rfl))) rfl
theorem cw_96 : Cond.fieldLink RX11 23 "PulseParts" "codes" "LPulseParts$Codes;" ∈ WL := wl_of (List.mem_append_right _ (in_t2 (List.mem_of_getElem? (i := 61) rfl))) rfl
theorem cw_97 : Cond.classLink RX11 27 RX6 ∈ WL := wl_of (List.mem_append_right _ (in_t1 (List.mem_of_getElem? (i := 70) rfl))) rfl
theorem cw_98 : Cond.instantiable RX6 3 ∈ WL := wl_of (List.mem_append_right _ (in_t1 (List.mem_of_getElem? (i := 71) rfl))) rfl
theorem cw_99 : Cond.methodLink RX11 29 yX6_init ∈ WL := wl_of (List.mem_append_right _ (in_t1 (List.mem_of_getElem? (i := 72) rfl))) rfl
theorem cw_100 : Cond.fieldLink RX11 32 "PulseParts" "lawReader" "LPulseParts$LawReader;" ∈ WL := wl_of (List.mem_append_right _ (in_t2 (List.mem_of_getElem? (i := 62) rfl))) rfl
theorem cw_101 : Cond.classLink RX11 36 RX7 ∈ WL := wl_of (List.mem_append_right _ (in_t1 (List.mem_of_getElem? (i := 88) rfl))) rfl
theorem cw_102 : Cond.instantiable RX7 5 ∈ WL := wl_of (List.mem_append_right _ (in_t1 (List.mem_of_getElem? (i := 89) rfl))) rfl
theorem cw_103 : Cond.methodLink RX11 38 yX7_init ∈ WL := wl_of (List.mem_append_right _ (in_t1 (List.mem_of_getElem? (i := 90) rfl))) rfl
theorem cw_104 : Cond.fieldLink RX11 39 "PulseParts" "laws" "LPulseParts$Laws;" ∈ WL := wl_of (List.mem_append_right _ (in_t2 (List.mem_of_getElem? (i := 63) rfl))) rfl
theorem cw_105 : Cond.classLink RX11 43 RX4 ∈ WL := wl_of (List.mem_append_right _ (in_t1 (List.mem_of_getElem? (i := 111) rfl))) rfl
theorem cw_106 : Cond.instantiable RX4 6 ∈ WL := wl_of (List.mem_append_right _ (in_t1 (List.mem_of_getElem? (i := 112) rfl))) rfl
theorem cw_107 : Cond.methodLink RX11 45 yX4_init ∈ WL := wl_of (List.mem_append_right _ (in_t1 (List.mem_of_getElem? (i := 113) rfl))) rfl
theorem cw_108 : Cond.fieldLink RX11 48 "PulseParts" "echoes" "LPulseParts$Echoes;" ∈ WL := wl_of (List.mem_append_right _ (in_t2 (List.mem_of_getElem? (i := 64) rfl))) rfl
theorem cw_109 : Cond.classLink RX11 52 RX1 ∈ WL := wl_of (List.mem_append_right _ (in_t1 (List.mem_of_getElem? (i := 139) rfl))) rfl
theorem cw_110 : Cond.instantiable RX1 8 ∈ WL := wl_of (List.mem_append_right _ (in_t1 (List.mem_of_getElem? (i := 140) rfl))) rfl
theorem cw_111 : Cond.methodLink RX11 54 yX1_init ∈ WL := wl_of (List.mem_append_right _ (in_t1 (List.mem_of_getElem? (i := 141) rfl))) rfl
theorem cw_112 : Cond.fieldLink RX11 57 "PulseParts" "bests" "LPulseParts$Bests;" ∈ WL := wl_of (List.mem_append_right _ (in_t2 (List.mem_of_getElem? (i := 65) rfl))) rfl
theorem cw_113 : Cond.classLink RX11 61 RX8 ∈ WL := wl_of (List.mem_append_right _ (in_t1 (List.mem_of_getElem? (i := 173) rfl))) rfl
theorem cw_114 : Cond.instantiable RX8 9 ∈ WL := wl_of (List.mem_append_right _ (in_t1 (List.mem_of_getElem? (i := 174) rfl))) rfl
theorem cw_115 : Cond.methodLink RX11 63 yX8_init ∈ WL := wl_of (List.mem_append_right _ (in_t1 (List.mem_of_getElem? (i := 175) rfl))) rfl
theorem cw_116 : Cond.fieldLink RX11 66 "PulseParts" "sets" "LPulseParts$Rests;" ∈ WL := wl_of (List.mem_append_right _ (in_t2 (List.mem_of_getElem? (i := 66) rfl))) rfl
theorem cw_117 : Cond.classLink RX11 70 RX2 ∈ WL := wl_of (List.mem_append_right _ (in_t1 (List.mem_of_getElem? (i := 212) rfl))) rfl
theorem cw_118 : Cond.instantiable RX2 7 ∈ WL := wl_of (List.mem_append_right _ (in_t1 (List.mem_of_getElem? (i := 213) rfl))) rfl
theorem cw_119 : Cond.methodLink RX11 72 yX2_init ∈ WL := wl_of (List.mem_append_right _ (in_t1 (List.mem_of_getElem? (i := 214) rfl))) rfl
theorem cw_120 : Cond.fieldLink RX11 73 "PulseParts" "cells" "LPulseParts$Cells;" ∈ WL := wl_of (List.mem_append_right _ (in_t2 (List.mem_of_getElem? (i := 67) rfl))) rfl
theorem cw_121 : Cond.classLink RX11 77 RX5 ∈ WL := wl_of (List.mem_append_right _ (in_t2 (List.mem_of_getElem? (i := 2) rfl))) rfl
theorem cw_122 : Cond.instantiable RX5 4 ∈ WL := wl_of (List.mem_append_right _ (in_t2 (List.mem_of_getElem? (i := 3) rfl))) rfl
theorem cw_123 : Cond.methodLink RX11 79 yX5_init ∈ WL := wl_of (List.mem_append_right _ (in_t2 (List.mem_of_getElem? (i := 4) rfl))) rfl
theorem cw_124 : Cond.fieldLink RX11 82 "PulseParts" "finder" "LPulseParts$Finder;" ∈ WL := wl_of (List.mem_append_right _ (in_t2 (List.mem_of_getElem? (i := 68) rfl))) rfl
theorem cw_125 : Cond.classLink RX11 86 RX9 ∈ WL := wl_of (List.mem_append_right _ (in_t2 (List.mem_of_getElem? (i := 21) rfl))) rfl
theorem cw_126 : Cond.instantiable RX9 3 ∈ WL := wl_of (List.mem_append_right _ (in_t2 (List.mem_of_getElem? (i := 22) rfl))) rfl
theorem cw_127 : Cond.methodLink RX11 88 yX9_init ∈ WL := wl_of (List.mem_append_right _ (in_t2 (List.mem_of_getElem? (i := 23) rfl))) rfl
theorem cw_128 : Cond.fieldLink RX11 89 "PulseParts" "shares" "LPulseParts$Shares;" ∈ WL := wl_of (List.mem_append_right _ (in_t2 (List.mem_of_getElem? (i := 69) rfl))) rfl
theorem cw_129 : Cond.classLink RX11 93 RX0 ∈ WL := wl_of (List.mem_append_right _ (in_t2 (List.mem_of_getElem? (i := 37) rfl))) rfl
theorem cw_130 : Cond.instantiable RX0 5 ∈ WL := wl_of (List.mem_append_right _ (in_t2 (List.mem_of_getElem? (i := 38) rfl))) rfl
theorem cw_131 : Cond.methodLink RX11 95 yX0_init ∈ WL := wl_of (List.mem_append_right _ (in_t2 (List.mem_of_getElem? (i := 39) rfl))) rfl
theorem cw_132 : Cond.fieldLink RX11 96 "PulseParts" "beams" "LPulseParts$Beams;" ∈ WL := wl_of (List.mem_append_right _ (in_t2 (List.mem_of_getElem? (i := 70) rfl))) rfl
theorem cw_133 : Cond.instanceMethod yX11_init ∈ WL := wl_of (List.mem_append_right _ (in_t1 (List.mem_of_getElem? (i := 25) rfl))) rfl
theorem cw_134 : Cond.initialized RX11 ∈ WL := wl_of (List.mem_append_right _ (in_t1 (List.mem_of_getElem? (i := 1) rfl))) rfl
theorem cw_135 : Cond.code yX11_init cX11_init 1 none ∈ WL := wl_of (List.mem_append_right _ (in_t1 (List.mem_of_getElem? (i := 26) rfl))) rfl
theorem ci_X11_init : CalI M_X11_init_i 0 := ⟨cw_133, cw_134, cw_135, rfl, by decide +kernel, by decide, rfl⟩
