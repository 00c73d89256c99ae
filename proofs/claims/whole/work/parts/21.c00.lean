def fillI (I : PI) (c n : Nat) (v : Int32) : PI := fun a => if a = c then (fun k => if k < n then v else I c k) else I a
theorem fillI_o {I : PI} {c n a : Nat} {v : Int32} (h : a ≠ c) : fillI I c n v a = I a := by unfold fillI; rw [if_neg h]
theorem fillI_s {I : PI} {c j : Nat} {v : Int32} : uI (fillI I c j v) c j v = fillI I c (j + 1) v := by
  funext a
  by_cases h : a = c
  · subst h
    rw [uI_c]
    funext k
    unfold upd fillI
    rw [if_pos rfl, if_pos rfl]
    by_cases h1 : k = j
    · rw [if_pos h1, if_pos (by omega)]
    · rw [if_neg h1]
      by_cases h2 : k < j
      · rw [if_pos h2, if_pos (by omega)]
      · rw [if_neg h2, if_neg (by omega)]
  · rw [uI_o h, fillI_o h, fillI_o h]
theorem fillI_0 {I : PI} {c : Nat} {v : Int32} : fillI I c 0 v = I := by
  funext a
  by_cases h : a = c
  · subst h
    unfold fillI
    rw [if_pos rfl]
    funext k
    rw [if_neg (by omega)]
  · rw [fillI_o h]
abbrev M_fill_i : MI := (yJ7_fill_53178, cJ7_fill_53178, 4, none)
theorem fill_loop {d c n : Nat} {v : Int32} (I : PI) (L : PL) (hn : n < 2 ^ 31) : ∀ (m j : Nat), j + m = n → EvN (Zct [(c, 0, n, [])] (fillI I c n v) L [c] (0, 0)) Ytt M_fill_i d [c] (0, 0) (0, 0) [(c, 0, n, [])] 5 [(0, .ref c), (1, .int v), (2, .int (nI j)), (3, .int (nI n))] [] (fillI I c j v) L := by
  intro m
  induction m with
  | zero =>
    intro j hj
    obtain rfl : j = n := by omega
    refine en_iload_n (pc := 5) 2 dJ7_fill_53178_5 rfl ?_
    refine en_iload_n (pc := 6) 3 dJ7_fill_53178_6 rfl ?_
    refine en_icmp_ge (pc := 7) 20 (by decide) dJ7_fill_53178_7 (fun _ => ?_) (fun h => absurd (Int32.le_refl _) h)
    exact en_ret rfl rfl rfl rfl rfl dJ7_fill_53178_20
  | succ m ih =>
    intro j hj
    refine en_iload_n (pc := 5) 2 dJ7_fill_53178_5 rfl ?_
    refine en_iload_n (pc := 6) 3 dJ7_fill_53178_6 rfl ?_
    refine en_icmp_ge (pc := 7) 20 (by decide) dJ7_fill_53178_7 (fun h => absurd h (nI_ge (by omega) hn)) (fun _ => ?_)
    refine en_aload_n (pc := 10) 0 dJ7_fill_53178_10 rfl ?_
    refine en_iload_n (pc := 11) 2 dJ7_fill_53178_11 rfl ?_
    refine en_iload_n (pc := 12) 1 dJ7_fill_53178_12 rfl ?_
    refine en_iast (pc := 13) 0 rfl (fun z h => by cases h) (vp_in_nI (by omega) hn) rfl dJ7_fill_53178_13 ?_
    rw [nI_clamp (by omega), fillI_s]
    refine en_iinc (pc := 14) (lv' := [(2, .int (nI (j + 1))), (0, .ref c), (1, .int v), (3, .int (nI n))]) dJ7_fill_53178_14 2 rfl rfl (nI (j + 1)) (by rw [← nI_1]; rfl) rfl ?_
    refine en_goto (pc := 17) 5 (by decide) dJ7_fill_53178_17 ?_
    refine EvN.sub [1, 2, 0, 3] rfl ?_
    exact ih (j + 1) (by omega)
theorem ct_fill (d : Nat) (I : PI) (L : PL) (c n : Nat) (v : Int32) (hn : n < 2 ^ 31) : CtorOk M_fill_i d [.ref c, .int v] [c] [(c, 0, n, [])] I L [(c, 0, n, [])] (fillI I c n v) L (0, 0) := by
  refine CtorOk.of (by decide +kernel) (Nat.le_of_ble_eq_true rfl) ?_
  show EvN _ _ _ _ _ _ _ _ 0 [(0, .ref c), (1, .int v)] [] I L
  refine en_iconst (pc := 0) 0 (by decide +kernel) dJ7_fill_53178_0 ?_
  refine en_istore_n (pc := 1) (lv' := [(2, .int 0), (0, .ref c), (1, .int v)]) dJ7_fill_53178_1 rfl rfl rfl ?_
  refine en_aload_n (pc := 2) 1 dJ7_fill_53178_2 rfl ?_
  refine en_alen (pc := 3) (j0 := 0) (nI n) rfl rfl dJ7_fill_53178_3 ?_
  refine en_istore_n (pc := 4) (lv' := [(3, .int (nI n)), (2, .int 0), (0, .ref c), (1, .int v)]) dJ7_fill_53178_4 rfl rfl rfl ?_
  refine EvN.sub [2, 3, 1, 0] rfl ?_
  have h := fill_loop (d := d) (c := c) (v := v) I L hn n 0 (by omega)
  rw [fillI_0] at h
  exact h
abbrev M_X12_init_i : MI := (yX12_init, cX12_init, 2, none)
abbrev M_X11_init_i : MI := (yX11_init, cX11_init, 1, none)
abbrev M_X0_init_i : MI := (yX0_init, cX0_init, 1, none)
abbrev M_X9_init_i : MI := (yX9_init, cX9_init, 1, none)
abbrev M_X5_init_i : MI := (yX5_init, cX5_init, 3, none)
abbrev M_X2_init_i : MI := (yX2_init, cX2_init, 1, none)
abbrev M_X8_init_i : MI := (yX8_init, cX8_init, 2, none)
abbrev M_X1_init_i : MI := (yX1_init, cX1_init, 3, none)
abbrev M_X4_init_i : MI := (yX4_init, cX4_init, 3, none)
abbrev M_X7_init_i : MI := (yX7_init, cX7_init, 1, none)
abbrev M_X6_init_i : MI := (yX6_init, cX6_init, 2, none)
abbrev M_X3_init_i : MI := (yX3_init, cX3_init, 1, none)
abbrev M_X10_init_i : MI := (yX10_init, cX10_init, 1, none)
theorem cw_0 : Cond.static yJ7_fill_53178 ∈ WL := wl_of (List.mem_append_right _ (in_t1 (List.mem_of_getElem? (i := 146) rfl))) rfl
theorem cw_1 : Cond.initialized RJ7 ∈ WL := wl_of (List.mem_append_right _ (in_t1 (List.mem_of_getElem? (i := 8) rfl))) rfl
theorem cw_2 : Cond.code yJ7_fill_53178 cJ7_fill_53178 4 none ∈ WL := wl_of (List.mem_append_right _ (in_t1 (List.mem_of_getElem? (i := 147) rfl))) rfl
theorem cvf_J7_fill_53178 : CalS M_fill_i 2 := ⟨cw_0, cw_1, cw_2, by decide +kernel, by decide⟩
theorem cw_3 : Cond.methodLink RX10 3 Lib.objectInit ∈ WL := wl_of (List.mem_append_right _ (in_t1 (List.mem_of_getElem? (i := 35) rfl))) rfl
theorem cw_4 : Cond.instanceMethod Lib.objectInit ∈ WL := wl_of (List.mem_append_right _ (in_t1 (List.mem_of_getElem? (i := 28) rfl))) rfl
theorem cw_5 : Cond.code Lib.objectInit ⟨#[0xb1]⟩ 1 none ∈ WL := wl_of (List.mem_append_right _ (in_t1 (List.mem_of_getElem? (i := 29) rfl))) rfl
theorem kc_bipush_120 : (Int8.ofInt (120)).toInt32 = 120 := by decide +kernel
theorem cw_6 : Cond.arrayClass .int ∈ WL := wl_of (List.mem_append_right _ (in_t1 (List.mem_of_getElem? (i := 50) rfl))) rfl
theorem cw_7 : Cond.fieldLink RX10 11 "PulseParts$Tape" "bytes" "[I" ∈ WL := wl_of (List.mem_append_right _ (in_t1 (List.mem_of_getElem? (i := 36) rfl))) rfl
theorem cw_8 : Cond.instanceMethod yX10_init ∈ WL := wl_of (List.mem_append_right _ (in_t1 (List.mem_of_getElem? (i := 33) rfl))) rfl
theorem cw_9 : Cond.initialized RX10 ∈ WL := wl_of (List.mem_append_right _ (in_t1 (List.mem_of_getElem? (i := 2) rfl))) rfl
theorem cw_10 : Cond.code yX10_init cX10_init 1 none ∈ WL := wl_of (List.mem_append_right _ (in_t1 (List.mem_of_getElem? (i := 34) rfl))) rfl
theorem ci_X10_init : CalI M_X10_init_i 0 := ⟨cw_8, cw_9, cw_10, rfl, by decide +kernel, by decide, rfl⟩
set_option maxRecDepth 100000 in
set_option maxHeartbeats 4000000 in
theorem ct_X10_init (d : Nat) (I : PI) (L : PL) (hI14 : I 14 = fun _ => 0) : CtorOk M_X10_init_i (d + 1) [.ref 10] [10] [(10, 12, 0, [2, 0, 0])] I L [(10, 12, 0, [17, 0, 0]), (14, 0, 120, [])] (I) (L) (1, 120) := by
  refine CtorOk.of (by decide +kernel) (Nat.le_of_ble_eq_true rfl) ?_
  show EvN _ _ _ _ _ _ _ _ 0 [(0, .ref 10)] [] I L
  refine en_aload_n (pc := 0) 0 dX10_init_0 rfl ?_
  refine en_objInit (d := d) (pc := 1) cw_3 cw_4 cw_5 (Nat.le_of_ble_eq_true rfl) dX10_init_1 ?_
  refine en_aload_n (pc := 4) 0 dX10_init_4 rfl ?_
  refine en_bipush (pc := 5) 120 kc_bipush_120 dX10_init_5 ?_
  refine en_newaI (pc := 7) 14 120 hI14 cw_6 (by decide +kernel) (by decide +kernel) (by decide +kernel) (by decide +kernel) (by decide +kernel) (by decide +kernel) (by decide +kernel) ⟨by decide +kernel, by decide +kernel⟩ dX10_init_7 ?_
  refine en_putR (ci := 10) (k9 := 0) (pc := 9) 0 tyX10 rfl inW10 tyX10_ok nmX10 (by decide) cw_7 rfl rfl rfl rfl (by decide) (fun _ => rfl) (fun _ => rfl) (by decide +kernel) (Ks' := [(10, 12, 0, [17, 0, 0]), (14, 0, 120, [])]) (by decide +kernel) dX10_init_9 ?_
  exact en_ret rfl rfl rfl rfl rfl dX10_init_12
