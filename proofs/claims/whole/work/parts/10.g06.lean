def F_X12_term_59 (N : Nat) (c_X12_atom : PI → PL → RES) (c_X12_sum : PI → PL → RES) (c_X12_term : PI → PL → RES) (r_21 : Int32 → PI → PL → RES) (s0 : Int32) (I : PI) (L : PL) : RES := bV (f_X12_put N s0 0 I L) (fun I9 L10 => (if (I9 12 4) = (-1 : Int32) then bI (f_X12_look N I9 L10) (fun x11 I12 L13 => r_21 x11 I12 L13) else r_21 (-1 : Int32) I9 L10))
set_option maxRecDepth 100000 in
theorem E_X12_term_59 (N d : Nat) (c_X12_atom : PI → PL → RES) (c_X12_sum : PI → PL → RES) (c_X12_term : PI → PL → RES) (r_21 : Int32 → PI → PL → RES) (hc_X12_atom : ∀ (I : PI) (L : PL), MOk M_X12_atom (d + 3) [.ref 12] I L (c_X12_atom I L)) (hc_X12_sum : ∀ (I : PI) (L : PL), MOk M_X12_sum (d + 3) [.ref 12] I L (c_X12_sum I L)) (hc_X12_term : ∀ (I : PI) (L : PL), MOk M_X12_term (d + 3) [.ref 12] I L (c_X12_term I L)) (hr_21 : ∀ (v1 : Int32) (I : PI) (L : PL), EvW M_X12_term (d + 4) 21 [(0, .ref 12), (1, .int v1)] [] I L (r_21 v1 I L)) (s0 : Int32) (I : PI) (L : PL) : EvW M_X12_term (d + 4) 59 [(0, .ref 12)] [.int s0, .ref 12] I L (F_X12_term_59 N c_X12_atom c_X12_sum c_X12_term r_21 s0 I L) := by
  rw [F_X12_term_59]
  refine ev_iconst (pc := 59) 0 k_iconst_0 dX12_term_59 ?_
  refine ev_callVV (pc := 60) (d := d + 3) (As := [.int s0, .int 0]) (st := []) cv_X12_put rfl w_738 rfl (Nat.le_of_ble_eq_true rfl) (ok_X12_put N (d + 3) s0 0 I L) dX12_term_60 (fun I9 L10 => ?_)
  refine ev_aload_n (pc := 63) 0 dX12_term_63 rfl ?_
  refine gf_X12_118 (pc := 64) rfl dX12_term_64 ?_
  refine ev_iconst (pc := 67) (-1 : Int32) k_iconst_m1 dX12_term_67 ?_
  refine ev_icmp_ne (pc := 68) 78 (by decide) dX12_term_68 ?_ ?_
  · refine ev_iconst (pc := 78) (-1 : Int32) k_iconst_m1 dX12_term_78 ?_
    refine ev_istore_n (pc := 79) (lv' := [(1, .int (-1 : Int32)), (0, .ref 12)]) dX12_term_79 rfl rfl rfl ?_
    refine ev_goto (pc := 80) 21 (by decide) dX12_term_80 ?_
    refine EvW.sub [1, 0] rfl ?_
    exact hr_21 (-1 : Int32) I9 L10
  · refine ev_aload_n (pc := 71) 0 dX12_term_71 rfl ?_
    refine ev_callVI (pc := 72) (d := d + 3) (As := []) (st := []) cv_X12_look rfl w_688 rfl (Nat.le_of_ble_eq_true rfl) (ok_X12_look N (d + 2) I9 L10) dX12_term_72 (fun x11 I12 L13 => ?_)
    refine ev_goto (pc := 75) 79 (by decide) dX12_term_75 ?_
    refine ev_istore_n (pc := 79) (lv' := [(1, .int x11), (0, .ref 12)]) dX12_term_79 rfl rfl rfl ?_
    refine ev_goto (pc := 80) 21 (by decide) dX12_term_80 ?_
    refine EvW.sub [1, 0] rfl ?_
    exact hr_21 x11 I12 L13
def F_X12_term_33 (N : Nat) (c_X12_atom : PI → PL → RES) (c_X12_sum : PI → PL → RES) (c_X12_term : PI → PL → RES) (r_21 : Int32 → PI → PL → RES) (v1 : Int32) (I : PI) (L : PL) : RES := nmW (uI I 12 3 ((I 12 3) + 1)) (fun I4 => bV (c_X12_atom I4 L) (fun I6 L7 => (if v1 = 42 then F_X12_term_59 N c_X12_atom c_X12_sum c_X12_term r_21 4 I6 L7 else F_X12_term_59 N c_X12_atom c_X12_sum c_X12_term r_21 5 I6 L7)))
set_option maxRecDepth 100000 in
theorem E_X12_term_33 (N d : Nat) (c_X12_atom : PI → PL → RES) (c_X12_sum : PI → PL → RES) (c_X12_term : PI → PL → RES) (r_21 : Int32 → PI → PL → RES) (hc_X12_atom : ∀ (I : PI) (L : PL), MOk M_X12_atom (d + 3) [.ref 12] I L (c_X12_atom I L)) (hc_X12_sum : ∀ (I : PI) (L : PL), MOk M_X12_sum (d + 3) [.ref 12] I L (c_X12_sum I L)) (hc_X12_term : ∀ (I : PI) (L : PL), MOk M_X12_term (d + 3) [.ref 12] I L (c_X12_term I L)) (hr_21 : ∀ (v1 : Int32) (I : PI) (L : PL), EvW M_X12_term (d + 4) 21 [(0, .ref 12), (1, .int v1)] [] I L (r_21 v1 I L)) (v1 : Int32) (I : PI) (L : PL) : EvW M_X12_term (d + 4) 33 [(0, .ref 12), (1, .int v1)] [] I L (F_X12_term_33 N c_X12_atom c_X12_sum c_X12_term r_21 v1 I L) := by
  rw [F_X12_term_33]
  refine ev_aload_n (pc := 33) 0 dX12_term_33 rfl ?_
  refine ev_dup (pc := 34) rfl dX12_term_34 ?_
  refine gf_X12_111 (pc := 35) rfl dX12_term_35 ?_
  refine ev_iconst (pc := 38) 1 k_iconst_1 dX12_term_38 ?_
  refine ev_iadd (pc := 39) dX12_term_39 ?_
  refine pf_X12_111 (pc := 40) rfl dX12_term_40 ?_
  refine ev_nmW (fun I4 => ?_)
  refine ev_aload_n (pc := 43) 0 dX12_term_43 rfl ?_
  refine ev_callVV (pc := 44) (d := d + 3) (As := []) (st := []) cv_X12_atom rfl w_750 rfl (Nat.le_of_ble_eq_true rfl) (hc_X12_atom I4 L) dX12_term_44 (fun I6 L7 => ?_)
  refine ev_aload_n (pc := 47) 0 dX12_term_47 rfl ?_
  refine ev_iload_n (pc := 48) 1 dX12_term_48 rfl ?_
  refine ev_bipush (pc := 49) 42 k_bipush_42 dX12_term_49 ?_
  refine ev_icmp_ne (pc := 51) 58 (by decide) dX12_term_51 ?_ ?_
  · refine ev_iconst (pc := 58) 5 k_iconst_5 dX12_term_58 ?_
    refine EvW.sub [0] rfl ?_
    exact E_X12_term_59 N d c_X12_atom c_X12_sum c_X12_term r_21 hc_X12_atom hc_X12_sum hc_X12_term hr_21 5 I6 L7
  · refine ev_iconst (pc := 54) 4 k_iconst_4 dX12_term_54 ?_
    refine ev_goto (pc := 55) 59 (by decide) dX12_term_55 ?_
    refine EvW.sub [0] rfl ?_
    exact E_X12_term_59 N d c_X12_atom c_X12_sum c_X12_term r_21 hc_X12_atom hc_X12_sum hc_X12_term hr_21 4 I6 L7
def F_X12_term_21 (N : Nat) (c_X12_atom : PI → PL → RES) (c_X12_sum : PI → PL → RES) (c_X12_term : PI → PL → RES) : Nat → Int32 → PI → PL → RES
  | 0, _, _, _ => none
  | n + 1, v1, I, L => (if v1 = 42 then F_X12_term_33 N c_X12_atom c_X12_sum c_X12_term (F_X12_term_21 N c_X12_atom c_X12_sum c_X12_term n) v1 I L else (if v1 = 47 then F_X12_term_33 N c_X12_atom c_X12_sum c_X12_term (F_X12_term_21 N c_X12_atom c_X12_sum c_X12_term n) v1 I L else some (none, I, L)))
set_option maxRecDepth 100000 in
theorem E_X12_term_21 (N d : Nat) (c_X12_atom : PI → PL → RES) (c_X12_sum : PI → PL → RES) (c_X12_term : PI → PL → RES) (hc_X12_atom : ∀ (I : PI) (L : PL), MOk M_X12_atom (d + 3) [.ref 12] I L (c_X12_atom I L)) (hc_X12_sum : ∀ (I : PI) (L : PL), MOk M_X12_sum (d + 3) [.ref 12] I L (c_X12_sum I L)) (hc_X12_term : ∀ (I : PI) (L : PL), MOk M_X12_term (d + 3) [.ref 12] I L (c_X12_term I L)) : ∀ (n : Nat) (v1 : Int32) (I : PI) (L : PL), EvW M_X12_term (d + 4) 21 [(0, .ref 12), (1, .int v1)] [] I L (F_X12_term_21 N c_X12_atom c_X12_sum c_X12_term n v1 I L) := by
  intro n
  induction n with
  | zero =>
    intro v1 I L
    exact EvW.none
  | succ n hr_21 =>
    intro v1 I L
    rw [F_X12_term_21]
    refine ev_iload_n (pc := 21) 1 dX12_term_21 rfl ?_
    refine ev_bipush (pc := 22) 42 k_bipush_42 dX12_term_22 ?_
    refine ev_icmp_eq (pc := 24) 33 (by decide) dX12_term_24 ?_ ?_
    · exact E_X12_term_33 N d c_X12_atom c_X12_sum c_X12_term (F_X12_term_21 N c_X12_atom c_X12_sum c_X12_term n) hc_X12_atom hc_X12_sum hc_X12_term hr_21 v1 I L
    · refine ev_iload_n (pc := 27) 1 dX12_term_27 rfl ?_
      refine ev_bipush (pc := 28) 47 k_bipush_47 dX12_term_28 ?_
      refine ev_icmp_ne (pc := 30) 83 (by decide) dX12_term_30 ?_ ?_
      · exact ev_vret (pc := 83) rfl dX12_term_83
      · exact E_X12_term_33 N d c_X12_atom c_X12_sum c_X12_term (F_X12_term_21 N c_X12_atom c_X12_sum c_X12_term n) hc_X12_atom hc_X12_sum hc_X12_term hr_21 v1 I L
def fo_X12_term (N : Nat) (c_X12_atom : PI → PL → RES) (c_X12_sum : PI → PL → RES) (c_X12_term : PI → PL → RES) (I : PI) (L : PL) : RES := bV (c_X12_atom I L) (fun I2 L3 => (if (I2 12 4) = (-1 : Int32) then bI (f_X12_look N I2 L3) (fun x14 I15 L16 => F_X12_term_21 N c_X12_atom c_X12_sum c_X12_term N x14 I15 L16) else F_X12_term_21 N c_X12_atom c_X12_sum c_X12_term N (-1 : Int32) I2 L3))
set_option maxRecDepth 100000 in
theorem oo_X12_term (N d : Nat) (c_X12_atom : PI → PL → RES) (c_X12_sum : PI → PL → RES) (c_X12_term : PI → PL → RES) (hc_X12_atom : ∀ (I : PI) (L : PL), MOk M_X12_atom (d + 3) [.ref 12] I L (c_X12_atom I L)) (hc_X12_sum : ∀ (I : PI) (L : PL), MOk M_X12_sum (d + 3) [.ref 12] I L (c_X12_sum I L)) (hc_X12_term : ∀ (I : PI) (L : PL), MOk M_X12_term (d + 3) [.ref 12] I L (c_X12_term I L)) (I : PI) (L : PL) : MOk M_X12_term (d + 4) [.ref 12] I L (fo_X12_term N c_X12_atom c_X12_sum c_X12_term I L) := by
  refine MOk.of (by decide +kernel) (Nat.le_of_ble_eq_true rfl) ?_
  show EvW _ _ 0 [(0, .ref 12)] [] I L _
  rw [fo_X12_term]
  refine ev_aload_n (pc := 0) 0 dX12_term_0 rfl ?_
  refine ev_callVV (pc := 1) (d := d + 3) (As := []) (st := []) cv_X12_atom rfl w_750 rfl (Nat.le_of_ble_eq_true rfl) (hc_X12_atom I L) dX12_term_1 (fun I2 L3 => ?_)
  refine ev_aload_n (pc := 4) 0 dX12_term_4 rfl ?_
  refine gf_X12_118 (pc := 5) rfl dX12_term_5 ?_
  refine ev_iconst (pc := 8) (-1 : Int32) k_iconst_m1 dX12_term_8 ?_
  refine ev_icmp_ne (pc := 9) 19 (by decide) dX12_term_9 ?_ ?_
  · refine ev_iconst (pc := 19) (-1 : Int32) k_iconst_m1 dX12_term_19 ?_
    refine ev_istore_n (pc := 20) (lv' := [(1, .int (-1 : Int32)), (0, .ref 12)]) dX12_term_20 rfl rfl rfl ?_
    refine EvW.sub [1, 0] rfl ?_
    exact E_X12_term_21 N d c_X12_atom c_X12_sum c_X12_term hc_X12_atom hc_X12_sum hc_X12_term N (-1 : Int32) I2 L3
  · refine ev_aload_n (pc := 12) 0 dX12_term_12 rfl ?_
    refine ev_callVI (pc := 13) (d := d + 3) (As := []) (st := []) cv_X12_look rfl w_688 rfl (Nat.le_of_ble_eq_true rfl) (ok_X12_look N (d + 2) I2 L3) dX12_term_13 (fun x14 I15 L16 => ?_)
    refine ev_goto (pc := 16) 20 (by decide) dX12_term_16 ?_
    refine ev_istore_n (pc := 20) (lv' := [(1, .int x14), (0, .ref 12)]) dX12_term_20 rfl rfl rfl ?_
    refine EvW.sub [1, 0] rfl ?_
    exact E_X12_term_21 N d c_X12_atom c_X12_sum c_X12_term hc_X12_atom hc_X12_sum hc_X12_term N x14 I15 L16
def grp_X12_atom (N : Nat) : Nat → (PI → PL → RES) × (PI → PL → RES) × (PI → PL → RES)
  | 0 => (fun _ _ => none, fun _ _ => none, fun _ _ => none)
  | n + 1 => (fo_X12_atom N ((grp_X12_atom N n).1) ((grp_X12_atom N n).2.1) ((grp_X12_atom N n).2.2), fo_X12_sum N ((grp_X12_atom N n).1) ((grp_X12_atom N n).2.1) ((grp_X12_atom N n).2.2), fo_X12_term N ((grp_X12_atom N n).1) ((grp_X12_atom N n).2.1) ((grp_X12_atom N n).2.2))
theorem MOk_none_grp_X12_atom {μ : MI} {d : Nat} {As : List Value} {I : PI} {L : PL} : MOk μ d As I L none := by
  intro v I9 L9 h
  cases h
theorem ok_grp_X12_atom (N d : Nat) : ∀ n : Nat, (∀ (I : PI) (L : PL), MOk M_X12_atom (d + n + 3) [.ref 12] I L (((grp_X12_atom N n).1) I L)) ∧ (∀ (I : PI) (L : PL), MOk M_X12_sum (d + n + 3) [.ref 12] I L (((grp_X12_atom N n).2.1) I L)) ∧ (∀ (I : PI) (L : PL), MOk M_X12_term (d + n + 3) [.ref 12] I L (((grp_X12_atom N n).2.2) I L))
  | 0 => ⟨fun _ _ => MOk_none_grp_X12_atom, fun _ _ => MOk_none_grp_X12_atom, fun _ _ => MOk_none_grp_X12_atom⟩
  | n + 1 => by
    obtain ⟨h0, h1, h2⟩ := ok_grp_X12_atom N d n
    exact ⟨oo_X12_atom N (d + n) ((grp_X12_atom N n).1) ((grp_X12_atom N n).2.1) ((grp_X12_atom N n).2.2) h0 h1 h2, oo_X12_sum N (d + n) ((grp_X12_atom N n).1) ((grp_X12_atom N n).2.1) ((grp_X12_atom N n).2.2) h0 h1 h2, oo_X12_term N (d + n) ((grp_X12_atom N n).1) ((grp_X12_atom N n).2.1) ((grp_X12_atom N n).2.2) h0 h1 h2⟩
def f_X12_atom (N : Nat) (I : PI) (L : PL) : RES := ((grp_X12_atom N 100).1) I L
theorem ok_X12_atom (N d : Nat) (I : PI) (L : PL) : MOk M_X12_atom (d + 103) [.ref 12] I L (f_X12_atom N I L) := ((ok_grp_X12_atom N d 100).1) I L
def f_X12_sum (N : Nat) (I : PI) (L : PL) : RES := ((grp_X12_atom N 100).2.1) I L
theorem ok_X12_sum (N d : Nat) (I : PI) (L : PL) : MOk M_X12_sum (d + 103) [.ref 12] I L (f_X12_sum N I L) := ((ok_grp_X12_atom N d 100).2.1) I L
def f_X12_term (N : Nat) (I : PI) (L : PL) : RES := ((grp_X12_atom N 100).2.2) I L
theorem ok_X12_term (N d : Nat) (I : PI) (L : PL) : MOk M_X12_term (d + 103) [.ref 12] I L (f_X12_term N I L) := ((ok_grp_X12_atom N d 100).2.2) I L
def F_X12_isSign_18 (N : Nat) (I : PI) (L : PL) : RES := gd (decide (1 &&& 1 = 1)) (some (some (.int 1), I, L))
set_option maxRecDepth 100000 in
theorem E_X12_isSign_18 (N d : Nat) (I : PI) (L : PL) : EvW M_X12_isSign (d) 18 [] [] I L (F_X12_isSign_18 N I L) := by
  rw [F_X12_isSign_18]
  refine ev_iconst (pc := 18) 1 k_iconst_1 dX12_isSign_18 ?_
  refine ev_goto (pc := 19) 23 (by decide) dX12_isSign_19 ?_
  exact ev_zret (pc := 23) rfl dX12_isSign_23
def f_X12_isSign (N : Nat) (a1 : Int32) (I : PI) (L : PL) : RES := (if a1 = 61 then F_X12_isSign_18 N I L else (if a1 = 60 then F_X12_isSign_18 N I L else (if a1 = 62 then F_X12_isSign_18 N I L else gd (decide (0 &&& 1 = 0)) (some (some (.int 0), I, L)))))
set_option maxRecDepth 100000 in
theorem ok_X12_isSign (N d : Nat) (a1 : Int32) (I : PI) (L : PL) : MOk M_X12_isSign (d) [.int a1] I L (f_X12_isSign N a1 I L) := by
  refine MOk.of (by decide +kernel) (Nat.le_of_ble_eq_true rfl) ?_
  show EvW _ _ 0 [(0, .int a1)] [] I L _
  rw [f_X12_isSign]
  refine ev_iload_n (pc := 0) 0 dX12_isSign_0 rfl ?_
  refine ev_bipush (pc := 1) 61 k_bipush_61 dX12_isSign_1 ?_
  refine ev_icmp_eq (pc := 3) 18 (by decide) dX12_isSign_3 ?_ ?_
  · refine EvW.sub [] rfl ?_
    exact E_X12_isSign_18 N d I L
  · refine ev_iload_n (pc := 6) 0 dX12_isSign_6 rfl ?_
    refine ev_bipush (pc := 7) 60 k_bipush_60 dX12_isSign_7 ?_
    refine ev_icmp_eq (pc := 9) 18 (by decide) dX12_isSign_9 ?_ ?_
    · refine EvW.sub [] rfl ?_
      exact E_X12_isSign_18 N d I L
    · refine ev_iload_n (pc := 12) 0 dX12_isSign_12 rfl ?_
      refine ev_bipush (pc := 13) 62 k_bipush_62 dX12_isSign_13 ?_
      refine ev_icmp_ne (pc := 15) 22 (by decide) dX12_isSign_15 ?_ ?_
      · refine ev_iconst (pc := 22) 0 k_iconst_0 dX12_isSign_22 ?_
        exact ev_zret (pc := 23) rfl dX12_isSign_23
      · refine EvW.sub [] rfl ?_
        exact E_X12_isSign_18 N d I L
def F_X12_compare_68 (N : Nat) (s0 : Int32) (I : PI) (L : PL) : RES := bV (f_X12_put N s0 0 I L) (fun I9 L10 => some (none, I9, L10))
set_option maxRecDepth 100000 in
theorem E_X12_compare_68 (N d : Nat) (s0 : Int32) (I : PI) (L : PL) : EvW M_X12_compare (d + 104) 68 [] [.int s0, .ref 12] I L (F_X12_compare_68 N s0 I L) := by
  rw [F_X12_compare_68]
  refine ev_iconst (pc := 68) 0 k_iconst_0 dX12_compare_68 ?_
  refine ev_callVV (pc := 69) (d := d + 103) (As := [.int s0, .int 0]) (st := []) cv_X12_put rfl w_738 rfl (Nat.le_of_ble_eq_true rfl) (ok_X12_put N (d + 103) s0 0 I L) dX12_compare_69 (fun I9 L10 => ?_)
  exact ev_vret (pc := 72) rfl dX12_compare_72
def F_X12_compare_16 (N : Nat) (s0 : Int32) (I : PI) (L : PL) : RES := bI (f_X12_isSign N s0 I L) (fun x1 I2 L3 => (if x1 = 0 then bV (f_X12_bad N I2 L3) (fun I12 L13 => some (none, I12, L13)) else nmW (uI I2 12 3 ((I2 12 3) + 1)) (fun I4 => bV (f_X12_sum N I4 L3) (fun I6 L7 => (if s0 = 61 then F_X12_compare_68 N 6 I6 L7 else (if s0 = 60 then F_X12_compare_68 N 7 I6 L7 else F_X12_compare_68 N 8 I6 L7))))))
set_option maxRecDepth 100000 in
theorem E_X12_compare_16 (N d : Nat) (s0 : Int32) (I : PI) (L : PL) : EvW M_X12_compare (d + 104) 16 [(0, .ref 12)] [.int s0] I L (F_X12_compare_16 N s0 I L) := by
  rw [F_X12_compare_16]
  refine ev_istore_n (pc := 16) (lv' := [(1, .int s0), (0, .ref 12)]) dX12_compare_16 rfl rfl rfl ?_
  refine ev_iload_n (pc := 17) 0 dX12_compare_17 rfl ?_
  refine ev_callSI (pc := 18) (d := d + 103) (As := [.int s0]) (st := []) cv_X12_isSign rfl w_755 rfl (Nat.le_of_ble_eq_true rfl) (ok_X12_isSign N (d + 103) s0 I L) dX12_compare_18 (fun x1 I2 L3 => ?_)
  refine ev_if_ne (pc := 21) 29 (by decide) dX12_compare_21 ?_ ?_
  · refine ev_aload_n (pc := 29) 1 dX12_compare_29 rfl ?_
    refine ev_dup (pc := 30) rfl dX12_compare_30 ?_
    refine gf_X12_111 (pc := 31) rfl dX12_compare_31 ?_
    refine ev_iconst (pc := 34) 1 k_iconst_1 dX12_compare_34 ?_
    refine ev_iadd (pc := 35) dX12_compare_35 ?_
    refine pf_X12_111 (pc := 36) rfl dX12_compare_36 ?_
    refine ev_nmW (fun I4 => ?_)
    refine ev_aload_n (pc := 39) 1 dX12_compare_39 rfl ?_
    refine ev_callVV (pc := 40) (d := d + 103) (As := []) (st := []) cv_X12_sum rfl w_728 rfl (Nat.le_of_ble_eq_true rfl) (ok_X12_sum N (d) I4 L3) dX12_compare_40 (fun I6 L7 => ?_)
    refine ev_aload_n (pc := 43) 1 dX12_compare_43 rfl ?_
    refine ev_iload_n (pc := 44) 0 dX12_compare_44 rfl ?_
    refine ev_bipush (pc := 45) 61 k_bipush_61 dX12_compare_45 ?_
    refine ev_icmp_ne (pc := 47) 55 (by decide) dX12_compare_47 ?_ ?_
    · refine ev_iload_n (pc := 55) 0 dX12_compare_55 rfl ?_
      refine ev_bipush (pc := 56) 60 k_bipush_60 dX12_compare_56 ?_
      refine ev_icmp_ne (pc := 58) 66 (by decide) dX12_compare_58 ?_ ?_
      · refine ev_bipush (pc := 66) 8 k_bipush_8 dX12_compare_66 ?_
        refine EvW.sub [] rfl ?_
        exact E_X12_compare_68 N d 8 I6 L7
      · refine ev_bipush (pc := 61) 7 k_bipush_7 dX12_compare_61 ?_
        refine ev_goto (pc := 63) 68 (by decide) dX12_compare_63 ?_
        refine EvW.sub [] rfl ?_
        exact E_X12_compare_68 N d 7 I6 L7
    · refine ev_bipush (pc := 50) 6 k_bipush_6 dX12_compare_50 ?_
      refine ev_goto (pc := 52) 68 (by decide) dX12_compare_52 ?_
      refine EvW.sub [] rfl ?_
      exact E_X12_compare_68 N d 6 I6 L7
  · refine ev_aload_n (pc := 24) 1 dX12_compare_24 rfl ?_
    refine ev_callVV (pc := 25) (d := d + 103) (As := []) (st := []) cv_X12_bad rfl w_692 rfl (Nat.le_of_ble_eq_true rfl) (ok_X12_bad N (d + 103) I2 L3) dX12_compare_25 (fun I12 L13 => ?_)
    exact ev_vret (pc := 28) rfl dX12_compare_28
def f_X12_compare (N : Nat) (I : PI) (L : PL) : RES := (if (I 12 4) = (-1 : Int32) then bI (f_X12_look N I L) (fun x14 I15 L16 => F_X12_compare_16 N x14 I15 L16) else F_X12_compare_16 N (-1 : Int32) I L)
set_option maxRecDepth 100000 in
theorem ok_X12_compare (N d : Nat) (I : PI) (L : PL) : MOk M_X12_compare (d + 104) [.ref 12] I L (f_X12_compare N I L) := by
  refine MOk.of (by decide +kernel) (Nat.le_of_ble_eq_true rfl) ?_
  show EvW _ _ 0 [(0, .ref 12)] [] I L _
  rw [f_X12_compare]
  refine ev_aload_n (pc := 0) 0 dX12_compare_0 rfl ?_
  refine gf_X12_118 (pc := 1) rfl dX12_compare_1 ?_
  refine ev_iconst (pc := 4) (-1 : Int32) k_iconst_m1 dX12_compare_4 ?_
  refine ev_icmp_ne (pc := 5) 15 (by decide) dX12_compare_5 ?_ ?_
  · refine ev_iconst (pc := 15) (-1 : Int32) k_iconst_m1 dX12_compare_15 ?_
    exact E_X12_compare_16 N d (-1 : Int32) I L
  · refine ev_aload_n (pc := 8) 0 dX12_compare_8 rfl ?_
    refine ev_callVI (pc := 9) (d := d + 103) (As := []) (st := []) cv_X12_look rfl w_688 rfl (Nat.le_of_ble_eq_true rfl) (ok_X12_look N (d + 102) I L) dX12_compare_9 (fun x14 I15 L16 => ?_)
    refine ev_goto (pc := 12) 16 (by decide) dX12_compare_12 ?_
    exact E_X12_compare_16 N d x14 I15 L16
def fo_X12_condition (N : Nat) (c_X12_condition : PI → PL → RES) (c_X12_goOnAnd : PI → PL → RES) (c_X12_goOnOr : PI → PL → RES) (c_X12_unit : PI → PL → RES) (I : PI) (L : PL) : RES := bV (c_X12_unit I L) (fun I2 L3 => bV (c_X12_goOnAnd I2 L3) (fun I5 L6 => bV (c_X12_goOnOr I5 L6) (fun I8 L9 => some (none, I8, L9))))
set_option maxRecDepth 100000 in
theorem oo_X12_condition (N d : Nat) (c_X12_condition : PI → PL → RES) (c_X12_goOnAnd : PI → PL → RES) (c_X12_goOnOr : PI → PL → RES) (c_X12_unit : PI → PL → RES) (hc_X12_condition : ∀ (I : PI) (L : PL), MOk M_X12_condition (d + 105) [.ref 12] I L (c_X12_condition I L)) (hc_X12_goOnAnd : ∀ (I : PI) (L : PL), MOk M_X12_goOnAnd (d + 105) [.ref 12] I L (c_X12_goOnAnd I L)) (hc_X12_goOnOr : ∀ (I : PI) (L : PL), MOk M_X12_goOnOr (d + 105) [.ref 12] I L (c_X12_goOnOr I L)) (hc_X12_unit : ∀ (I : PI) (L : PL), MOk M_X12_unit (d + 105) [.ref 12] I L (c_X12_unit I L)) (I : PI) (L : PL) : MOk M_X12_condition (d + 106) [.ref 12] I L (fo_X12_condition N c_X12_condition c_X12_goOnAnd c_X12_goOnOr c_X12_unit I L) := by
  refine MOk.of (by decide +kernel) (Nat.le_of_ble_eq_true rfl) ?_
  show EvW _ _ 0 [(0, .ref 12)] [] I L _
  rw [fo_X12_condition]
  refine ev_aload_n (pc := 0) 0 dX12_condition_0 rfl ?_
  refine ev_callVV (pc := 1) (d := d + 105) (As := []) (st := []) cv_X12_unit rfl w_763 rfl (Nat.le_of_ble_eq_true rfl) (hc_X12_unit I L) dX12_condition_1 (fun I2 L3 => ?_)
  refine ev_aload_n (pc := 4) 0 dX12_condition_4 rfl ?_
  refine ev_callVV (pc := 5) (d := d + 105) (As := []) (st := []) cv_X12_goOnAnd rfl w_767 rfl (Nat.le_of_ble_eq_true rfl) (hc_X12_goOnAnd I2 L3) dX12_condition_5 (fun I5 L6 => ?_)
  refine ev_aload_n (pc := 8) 0 dX12_condition_8 rfl ?_
  refine ev_callVV (pc := 9) (d := d + 105) (As := []) (st := []) cv_X12_goOnOr rfl w_771 rfl (Nat.le_of_ble_eq_true rfl) (hc_X12_goOnOr I5 L6) dX12_condition_9 (fun I8 L9 => ?_)
  exact ev_vret (pc := 12) rfl dX12_condition_12
def F_X12_goOnAnd_0 (N : Nat) (c_X12_condition : PI → PL → RES) (c_X12_goOnAnd : PI → PL → RES) (c_X12_goOnOr : PI → PL → RES) (c_X12_unit : PI → PL → RES) : Nat → PI → PL → RES
  | 0, _, _ => none
  | n + 1, I, L => (if (I 12 4) = (-1 : Int32) then bI (f_X12_look N I L) (fun x1 I2 L3 => (if x1 = 38 then nmW (uI I2 12 3 ((I2 12 3) + 1)) (fun I4 => bV (c_X12_unit I4 L3) (fun I6 L7 => bV (f_X12_put N 10 0 I6 L7) (fun I9 L10 => (F_X12_goOnAnd_0 N c_X12_condition c_X12_goOnAnd c_X12_goOnOr c_X12_unit n) I9 L10))) else some (none, I2, L3))) else some (none, I, L))
set_option maxRecDepth 100000 in
theorem E_X12_goOnAnd_0 (N d : Nat) (c_X12_condition : PI → PL → RES) (c_X12_goOnAnd : PI → PL → RES) (c_X12_goOnOr : PI → PL → RES) (c_X12_unit : PI → PL → RES) (hc_X12_condition : ∀ (I : PI) (L : PL), MOk M_X12_condition (d + 105) [.ref 12] I L (c_X12_condition I L)) (hc_X12_goOnAnd : ∀ (I : PI) (L : PL), MOk M_X12_goOnAnd (d + 105) [.ref 12] I L (c_X12_goOnAnd I L)) (hc_X12_goOnOr : ∀ (I : PI) (L : PL), MOk M_X12_goOnOr (d + 105) [.ref 12] I L (c_X12_goOnOr I L)) (hc_X12_unit : ∀ (I : PI) (L : PL), MOk M_X12_unit (d + 105) [.ref 12] I L (c_X12_unit I L)) : ∀ (n : Nat) (I : PI) (L : PL), EvW M_X12_goOnAnd (d + 106) 0 [(0, .ref 12)] [] I L (F_X12_goOnAnd_0 N c_X12_condition c_X12_goOnAnd c_X12_goOnOr c_X12_unit n I L) := by
  intro n
  induction n with
  | zero =>
    intro I L
    exact EvW.none
  | succ n hr_0 =>
    intro I L
    rw [F_X12_goOnAnd_0]
    refine ev_aload_n (pc := 0) 0 dX12_goOnAnd_0 rfl ?_
    refine gf_X12_118 (pc := 1) rfl dX12_goOnAnd_1 ?_
    refine ev_iconst (pc := 4) (-1 : Int32) k_iconst_m1 dX12_goOnAnd_4 ?_
    refine ev_icmp_ne (pc := 5) 41 (by decide) dX12_goOnAnd_5 ?_ ?_
    · exact ev_vret (pc := 41) rfl dX12_goOnAnd_41
    · refine ev_aload_n (pc := 8) 0 dX12_goOnAnd_8 rfl ?_
      refine ev_callVI (pc := 9) (d := d + 105) (As := []) (st := []) cv_X12_look rfl w_688 rfl (Nat.le_of_ble_eq_true rfl) (ok_X12_look N (d + 104) I L) dX12_goOnAnd_9 (fun x1 I2 L3 => ?_)
      refine ev_bipush (pc := 12) 38 k_bipush_38 dX12_goOnAnd_12 ?_
      refine ev_icmp_ne (pc := 14) 41 (by decide) dX12_goOnAnd_14 ?_ ?_
      · exact ev_vret (pc := 41) rfl dX12_goOnAnd_41
      · refine ev_aload_n (pc := 17) 0 dX12_goOnAnd_17 rfl ?_
        refine ev_dup (pc := 18) rfl dX12_goOnAnd_18 ?_
        refine gf_X12_111 (pc := 19) rfl dX12_goOnAnd_19 ?_
        refine ev_iconst (pc := 22) 1 k_iconst_1 dX12_goOnAnd_22 ?_
        refine ev_iadd (pc := 23) dX12_goOnAnd_23 ?_
        refine pf_X12_111 (pc := 24) rfl dX12_goOnAnd_24 ?_
        refine ev_nmW (fun I4 => ?_)
        refine ev_aload_n (pc := 27) 0 dX12_goOnAnd_27 rfl ?_
        refine ev_callVV (pc := 28) (d := d + 105) (As := []) (st := []) cv_X12_unit rfl w_763 rfl (Nat.le_of_ble_eq_true rfl) (hc_X12_unit I4 L3) dX12_goOnAnd_28 (fun I6 L7 => ?_)
        refine ev_aload_n (pc := 31) 0 dX12_goOnAnd_31 rfl ?_
        refine ev_bipush (pc := 32) 10 k_bipush_10 dX12_goOnAnd_32 ?_
        refine ev_iconst (pc := 34) 0 k_iconst_0 dX12_goOnAnd_34 ?_
        refine ev_callVV (pc := 35) (d := d + 105) (As := [.int 10, .int 0]) (st := []) cv_X12_put rfl w_738 rfl (Nat.le_of_ble_eq_true rfl) (ok_X12_put N (d + 105) 10 0 I6 L7) dX12_goOnAnd_35 (fun I9 L10 => ?_)
        refine ev_goto (pc := 38) 0 (by decide) dX12_goOnAnd_38 ?_
        exact hr_0 I9 L10
def fo_X12_goOnAnd (N : Nat) (c_X12_condition : PI → PL → RES) (c_X12_goOnAnd : PI → PL → RES) (c_X12_goOnOr : PI → PL → RES) (c_X12_unit : PI → PL → RES) (I : PI) (L : PL) : RES := F_X12_goOnAnd_0 N c_X12_condition c_X12_goOnAnd c_X12_goOnOr c_X12_unit N I L
set_option maxRecDepth 100000 in
theorem oo_X12_goOnAnd (N d : Nat) (c_X12_condition : PI → PL → RES) (c_X12_goOnAnd : PI → PL → RES) (c_X12_goOnOr : PI → PL → RES) (c_X12_unit : PI → PL → RES) (hc_X12_condition : ∀ (I : PI) (L : PL), MOk M_X12_condition (d + 105) [.ref 12] I L (c_X12_condition I L)) (hc_X12_goOnAnd : ∀ (I : PI) (L : PL), MOk M_X12_goOnAnd (d + 105) [.ref 12] I L (c_X12_goOnAnd I L)) (hc_X12_goOnOr : ∀ (I : PI) (L : PL), MOk M_X12_goOnOr (d + 105) [.ref 12] I L (c_X12_goOnOr I L)) (hc_X12_unit : ∀ (I : PI) (L : PL), MOk M_X12_unit (d + 105) [.ref 12] I L (c_X12_unit I L)) (I : PI) (L : PL) : MOk M_X12_goOnAnd (d + 106) [.ref 12] I L (fo_X12_goOnAnd N c_X12_condition c_X12_goOnAnd c_X12_goOnOr c_X12_unit I L) := by
  refine MOk.of (by decide +kernel) (Nat.le_of_ble_eq_true rfl) ?_
  show EvW _ _ 0 [(0, .ref 12)] [] I L _
  rw [fo_X12_goOnAnd]
  exact E_X12_goOnAnd_0 N d c_X12_condition c_X12_goOnAnd c_X12_goOnOr c_X12_unit hc_X12_condition hc_X12_goOnAnd hc_X12_goOnOr hc_X12_unit N I L
def F_X12_goOnOr_0 (N : Nat) (c_X12_condition : PI → PL → RES) (c_X12_goOnAnd : PI → PL → RES) (c_X12_goOnOr : PI → PL → RES) (c_X12_unit : PI → PL → RES) : Nat → PI → PL → RES
  | 0, _, _ => none
  | n + 1, I, L => (if (I 12 4) = (-1 : Int32) then bI (f_X12_look N I L) (fun x1 I2 L3 => (if x1 = 124 then nmW (uI I2 12 3 ((I2 12 3) + 1)) (fun I4 => bV (c_X12_unit I4 L3) (fun I6 L7 => bV (c_X12_goOnAnd I6 L7) (fun I9 L10 => bV (f_X12_put N 11 0 I9 L10) (fun I12 L13 => (F_X12_goOnOr_0 N c_X12_condition c_X12_goOnAnd c_X12_goOnOr c_X12_unit n) I12 L13)))) else some (none, I2, L3))) else some (none, I, L))
set_option maxRecDepth 100000 in
theorem E_X12_goOnOr_0 (N d : Nat) (c_X12_condition : PI → PL → RES) (c_X12_goOnAnd : PI → PL → RES) (c_X12_goOnOr : PI → PL → RES) (c_X12_unit : PI → PL → RES) (hc_X12_condition : ∀ (I : PI) (L : PL), MOk M_X12_condition (d + 105) [.ref 12] I L (c_X12_condition I L)) (hc_X12_goOnAnd : ∀ (I : PI) (L : PL), MOk M_X12_goOnAnd (d + 105) [.ref 12] I L (c_X12_goOnAnd I L)) (hc_X12_goOnOr : ∀ (I : PI) (L : PL), MOk M_X12_goOnOr (d + 105) [.ref 12] I L (c_X12_goOnOr I L)) (hc_X12_unit : ∀ (I : PI) (L : PL), MOk M_X12_unit (d + 105) [.ref 12] I L (c_X12_unit I L)) : ∀ (n : Nat) (I : PI) (L : PL), EvW M_X12_goOnOr (d + 106) 0 [(0, .ref 12)] [] I L (F_X12_goOnOr_0 N c_X12_condition c_X12_goOnAnd c_X12_goOnOr c_X12_unit n I L) := by
  intro n
  induction n with
  | zero =>
    intro I L
    exact EvW.none
  | succ n hr_0 =>
    intro I L
    rw [F_X12_goOnOr_0]
    refine ev_aload_n (pc := 0) 0 dX12_goOnOr_0 rfl ?_
    refine gf_X12_118 (pc := 1) rfl dX12_goOnOr_1 ?_
    refine ev_iconst (pc := 4) (-1 : Int32) k_iconst_m1 dX12_goOnOr_4 ?_
    refine ev_icmp_ne (pc := 5) 45 (by decide) dX12_goOnOr_5 ?_ ?_
    · exact ev_vret (pc := 45) rfl dX12_goOnOr_45
    · refine ev_aload_n (pc := 8) 0 dX12_goOnOr_8 rfl ?_
      refine ev_callVI (pc := 9) (d := d + 105) (As := []) (st := []) cv_X12_look rfl w_688 rfl (Nat.le_of_ble_eq_true rfl) (ok_X12_look N (d + 104) I L) dX12_goOnOr_9 (fun x1 I2 L3 => ?_)
      refine ev_bipush (pc := 12) 124 k_bipush_124 dX12_goOnOr_12 ?_
      refine ev_icmp_ne (pc := 14) 45 (by decide) dX12_goOnOr_14 ?_ ?_
      · exact ev_vret (pc := 45) rfl dX12_goOnOr_45
      · refine ev_aload_n (pc := 17) 0 dX12_goOnOr_17 rfl ?_
        refine ev_dup (pc := 18) rfl dX12_goOnOr_18 ?_
        refine gf_X12_111 (pc := 19) rfl dX12_goOnOr_19 ?_
        refine ev_iconst (pc := 22) 1 k_iconst_1 dX12_goOnOr_22 ?_
        refine ev_iadd (pc := 23) dX12_goOnOr_23 ?_
        refine pf_X12_111 (pc := 24) rfl dX12_goOnOr_24 ?_
        refine ev_nmW (fun I4 => ?_)
        refine ev_aload_n (pc := 27) 0 dX12_goOnOr_27 rfl ?_
        refine ev_callVV (pc := 28) (d := d + 105) (As := []) (st := []) cv_X12_unit rfl w_763 rfl (Nat.le_of_ble_eq_true rfl) (hc_X12_unit I4 L3) dX12_goOnOr_28 (fun I6 L7 => ?_)
        refine ev_aload_n (pc := 31) 0 dX12_goOnOr_31 rfl ?_
        refine ev_callVV (pc := 32) (d := d + 105) (As := []) (st := []) cv_X12_goOnAnd rfl w_767 rfl (Nat.le_of_ble_eq_true rfl) (hc_X12_goOnAnd I6 L7) dX12_goOnOr_32 (fun I9 L10 => ?_)
        refine ev_aload_n (pc := 35) 0 dX12_goOnOr_35 rfl ?_
        refine ev_bipush (pc := 36) 11 k_bipush_11 dX12_goOnOr_36 ?_
        refine ev_iconst (pc := 38) 0 k_iconst_0 dX12_goOnOr_38 ?_
        refine ev_callVV (pc := 39) (d := d + 105) (As := [.int 11, .int 0]) (st := []) cv_X12_put rfl w_738 rfl (Nat.le_of_ble_eq_true rfl) (ok_X12_put N (d + 105) 11 0 I9 L10) dX12_goOnOr_39 (fun I12 L13 => ?_)
        refine ev_goto (pc := 42) 0 (by decide) dX12_goOnOr_42 ?_
        exact hr_0 I12 L13
def fo_X12_goOnOr (N : Nat) (c_X12_condition : PI → PL → RES) (c_X12_goOnAnd : PI → PL → RES) (c_X12_goOnOr : PI → PL → RES) (c_X12_unit : PI → PL → RES) (I : PI) (L : PL) : RES := F_X12_goOnOr_0 N c_X12_condition c_X12_goOnAnd c_X12_goOnOr c_X12_unit N I L
set_option maxRecDepth 100000 in
theorem oo_X12_goOnOr (N d : Nat) (c_X12_condition : PI → PL → RES) (c_X12_goOnAnd : PI → PL → RES) (c_X12_goOnOr : PI → PL → RES) (c_X12_unit : PI → PL → RES) (hc_X12_condition : ∀ (I : PI) (L : PL), MOk M_X12_condition (d + 105) [.ref 12] I L (c_X12_condition I L)) (hc_X12_goOnAnd : ∀ (I : PI) (L : PL), MOk M_X12_goOnAnd (d + 105) [.ref 12] I L (c_X12_goOnAnd I L)) (hc_X12_goOnOr : ∀ (I : PI) (L : PL), MOk M_X12_goOnOr (d + 105) [.ref 12] I L (c_X12_goOnOr I L)) (hc_X12_unit : ∀ (I : PI) (L : PL), MOk M_X12_unit (d + 105) [.ref 12] I L (c_X12_unit I L)) (I : PI) (L : PL) : MOk M_X12_goOnOr (d + 106) [.ref 12] I L (fo_X12_goOnOr N c_X12_condition c_X12_goOnAnd c_X12_goOnOr c_X12_unit I L) := by
  refine MOk.of (by decide +kernel) (Nat.le_of_ble_eq_true rfl) ?_
  show EvW _ _ 0 [(0, .ref 12)] [] I L _
  rw [fo_X12_goOnOr]
  exact E_X12_goOnOr_0 N d c_X12_condition c_X12_goOnAnd c_X12_goOnOr c_X12_unit hc_X12_condition hc_X12_goOnAnd hc_X12_goOnOr hc_X12_unit N I L
def fo_X12_unit (N : Nat) (c_X12_condition : PI → PL → RES) (c_X12_goOnAnd : PI → PL → RES) (c_X12_goOnOr : PI → PL → RES) (c_X12_unit : PI → PL → RES) (I : PI) (L : PL) : RES := bI (f_X12_look N I L) (fun x1 I2 L3 => (if x1 = 33 then bV (f_X12_opens N I2 L3) (fun I20 L21 => (if (I20 12 4) = (-1 : Int32) then bV (c_X12_unit I20 L21) (fun I23 L24 => bV (f_X12_put N 9 0 I23 L24) (fun I26 L27 => nmW (uI I26 12 5 ((I26 12 5) - 1)) (fun I28 => some (none, I28, L27)))) else some (none, I20, L21))) else (if x1 = 40 then bV (f_X12_opens N I2 L3) (fun I11 L12 => (if (I11 12 4) = (-1 : Int32) then bV (c_X12_condition I11 L12) (fun I14 L15 => bV (f_X12_closes N 41 I14 L15) (fun I17 L18 => some (none, I17, L18))) else some (none, I11, L12))) else bV (f_X12_sum N I2 L3) (fun I5 L6 => (if (I5 12 4) = (-1 : Int32) then bV (f_X12_compare N I5 L6) (fun I8 L9 => some (none, I8, L9)) else some (none, I5, L6))))))
set_option maxRecDepth 100000 in
theorem oo_X12_unit (N d : Nat) (c_X12_condition : PI → PL → RES) (c_X12_goOnAnd : PI → PL → RES) (c_X12_goOnOr : PI → PL → RES) (c_X12_unit : PI → PL → RES) (hc_X12_condition : ∀ (I : PI) (L : PL), MOk M_X12_condition (d + 105) [.ref 12] I L (c_X12_condition I L)) (hc_X12_goOnAnd : ∀ (I : PI) (L : PL), MOk M_X12_goOnAnd (d + 105) [.ref 12] I L (c_X12_goOnAnd I L)) (hc_X12_goOnOr : ∀ (I : PI) (L : PL), MOk M_X12_goOnOr (d + 105) [.ref 12] I L (c_X12_goOnOr I L)) (hc_X12_unit : ∀ (I : PI) (L : PL), MOk M_X12_unit (d + 105) [.ref 12] I L (c_X12_unit I L)) (I : PI) (L : PL) : MOk M_X12_unit (d + 106) [.ref 12] I L (fo_X12_unit N c_X12_condition c_X12_goOnAnd c_X12_goOnOr c_X12_unit I L) := by
  refine MOk.of (by decide +kernel) (Nat.le_of_ble_eq_true rfl) ?_
  show EvW _ _ 0 [(0, .ref 12)] [] I L _
  rw [fo_X12_unit]
  refine ev_aload_n (pc := 0) 0 dX12_unit_0 rfl ?_
  refine ev_callVI (pc := 1) (d := d + 105) (As := []) (st := []) cv_X12_look rfl w_688 rfl (Nat.le_of_ble_eq_true rfl) (ok_X12_look N (d + 104) I L) dX12_unit_1 (fun x1 I2 L3 => ?_)
  refine ev_istore_n (pc := 4) (lv' := [(1, .int x1), (0, .ref 12)]) dX12_unit_4 rfl rfl rfl ?_
  refine ev_iload_n (pc := 5) 0 dX12_unit_5 rfl ?_
  refine ev_bipush (pc := 6) 33 k_bipush_33 dX12_unit_6 ?_
  refine ev_icmp_ne (pc := 8) 47 (by decide) dX12_unit_8 ?_ ?_
  · refine ev_iload_n (pc := 47) 0 dX12_unit_47 rfl ?_
    refine ev_bipush (pc := 48) 40 k_bipush_40 dX12_unit_48 ?_
    refine ev_icmp_ne (pc := 50) 78 (by decide) dX12_unit_50 ?_ ?_
    · refine ev_aload_n (pc := 78) 1 dX12_unit_78 rfl ?_
      refine ev_callVV (pc := 79) (d := d + 105) (As := []) (st := []) cv_X12_sum rfl w_728 rfl (Nat.le_of_ble_eq_true rfl) (ok_X12_sum N (d + 2) I2 L3) dX12_unit_79 (fun I5 L6 => ?_)
      refine ev_aload_n (pc := 82) 1 dX12_unit_82 rfl ?_
      refine gf_X12_118 (pc := 83) rfl dX12_unit_83 ?_
      refine ev_iconst (pc := 86) (-1 : Int32) k_iconst_m1 dX12_unit_86 ?_
      refine ev_icmp_ne (pc := 87) 94 (by decide) dX12_unit_87 ?_ ?_
      · exact ev_vret (pc := 94) rfl dX12_unit_94
      · refine ev_aload_n (pc := 90) 1 dX12_unit_90 rfl ?_
        refine ev_callVV (pc := 91) (d := d + 105) (As := []) (st := []) cv_X12_compare rfl w_759 rfl (Nat.le_of_ble_eq_true rfl) (ok_X12_compare N (d + 1) I5 L6) dX12_unit_91 (fun I8 L9 => ?_)
        exact ev_vret (pc := 94) rfl dX12_unit_94
    · refine ev_aload_n (pc := 53) 1 dX12_unit_53 rfl ?_
      refine ev_callVV (pc := 54) (d := d + 105) (As := []) (st := []) cv_X12_opens rfl w_724 rfl (Nat.le_of_ble_eq_true rfl) (ok_X12_opens N (d + 104) I2 L3) dX12_unit_54 (fun I11 L12 => ?_)
      refine ev_aload_n (pc := 57) 1 dX12_unit_57 rfl ?_
      refine gf_X12_118 (pc := 58) rfl dX12_unit_58 ?_
      refine ev_iconst (pc := 61) (-1 : Int32) k_iconst_m1 dX12_unit_61 ?_
      refine ev_icmp_ne (pc := 62) 94 (by decide) dX12_unit_62 ?_ ?_
      · exact ev_vret (pc := 94) rfl dX12_unit_94
      · refine ev_aload_n (pc := 65) 1 dX12_unit_65 rfl ?_
        refine ev_callVV (pc := 66) (d := d + 105) (As := []) (st := []) cv_X12_condition rfl w_775 rfl (Nat.le_of_ble_eq_true rfl) (hc_X12_condition I11 L12) dX12_unit_66 (fun I14 L15 => ?_)
        refine ev_aload_n (pc := 69) 1 dX12_unit_69 rfl ?_
        refine ev_bipush (pc := 70) 41 k_bipush_41 dX12_unit_70 ?_
        refine ev_callVV (pc := 72) (d := d + 105) (As := [.int 41]) (st := []) cv_X12_closes rfl w_732 rfl (Nat.le_of_ble_eq_true rfl) (ok_X12_closes N (d + 103) 41 I14 L15) dX12_unit_72 (fun I17 L18 => ?_)
        refine ev_goto (pc := 75) 94 (by decide) dX12_unit_75 ?_
        exact ev_vret (pc := 94) rfl dX12_unit_94
  · refine ev_aload_n (pc := 11) 1 dX12_unit_11 rfl ?_
    refine ev_callVV (pc := 12) (d := d + 105) (As := []) (st := []) cv_X12_opens rfl w_724 rfl (Nat.le_of_ble_eq_true rfl) (ok_X12_opens N (d + 104) I2 L3) dX12_unit_12 (fun I20 L21 => ?_)
    refine ev_aload_n (pc := 15) 1 dX12_unit_15 rfl ?_
    refine gf_X12_118 (pc := 16) rfl dX12_unit_16 ?_
    refine ev_iconst (pc := 19) (-1 : Int32) k_iconst_m1 dX12_unit_19 ?_
    refine ev_icmp_ne (pc := 20) 94 (by decide) dX12_unit_20 ?_ ?_
    · exact ev_vret (pc := 94) rfl dX12_unit_94
    · refine ev_aload_n (pc := 23) 1 dX12_unit_23 rfl ?_
      refine ev_callVV (pc := 24) (d := d + 105) (As := []) (st := []) cv_X12_unit rfl w_763 rfl (Nat.le_of_ble_eq_true rfl) (hc_X12_unit I20 L21) dX12_unit_24 (fun I23 L24 => ?_)
      refine ev_aload_n (pc := 27) 1 dX12_unit_27 rfl ?_
      refine ev_bipush (pc := 28) 9 k_bipush_9 dX12_unit_28 ?_
      refine ev_iconst (pc := 30) 0 k_iconst_0 dX12_unit_30 ?_
      refine ev_callVV (pc := 31) (d := d + 105) (As := [.int 9, .int 0]) (st := []) cv_X12_put rfl w_738 rfl (Nat.le_of_ble_eq_true rfl) (ok_X12_put N (d + 105) 9 0 I23 L24) dX12_unit_31 (fun I26 L27 => ?_)
      refine ev_aload_n (pc := 34) 1 dX12_unit_34 rfl ?_
      refine ev_dup (pc := 35) rfl dX12_unit_35 ?_
      refine gf_X12_124 (pc := 36) rfl dX12_unit_36 ?_
      refine ev_iconst (pc := 39) 1 k_iconst_1 dX12_unit_39 ?_
      refine ev_isub (pc := 40) dX12_unit_40 ?_
      refine pf_X12_124 (pc := 41) rfl dX12_unit_41 ?_
      refine ev_nmW (fun I28 => ?_)
      refine ev_goto (pc := 44) 94 (by decide) dX12_unit_44 ?_
      exact ev_vret (pc := 94) rfl dX12_unit_94
def grp_X12_condition (N : Nat) : Nat → (PI → PL → RES) × (PI → PL → RES) × (PI → PL → RES) × (PI → PL → RES)
  | 0 => (fun _ _ => none, fun _ _ => none, fun _ _ => none, fun _ _ => none)
  | n + 1 => (fo_X12_condition N ((grp_X12_condition N n).1) ((grp_X12_condition N n).2.1) ((grp_X12_condition N n).2.2.1) ((grp_X12_condition N n).2.2.2), fo_X12_goOnAnd N ((grp_X12_condition N n).1) ((grp_X12_condition N n).2.1) ((grp_X12_condition N n).2.2.1) ((grp_X12_condition N n).2.2.2), fo_X12_goOnOr N ((grp_X12_condition N n).1) ((grp_X12_condition N n).2.1) ((grp_X12_condition N n).2.2.1) ((grp_X12_condition N n).2.2.2), fo_X12_unit N ((grp_X12_condition N n).1) ((grp_X12_condition N n).2.1) ((grp_X12_condition N n).2.2.1) ((grp_X12_condition N n).2.2.2))
theorem MOk_none_grp_X12_condition {μ : MI} {d : Nat} {As : List Value} {I : PI} {L : PL} : MOk μ d As I L none := by
  intro v I9 L9 h
  cases h
theorem ok_grp_X12_condition (N d : Nat) : ∀ n : Nat, (∀ (I : PI) (L : PL), MOk M_X12_condition (d + n + 105) [.ref 12] I L (((grp_X12_condition N n).1) I L)) ∧ (∀ (I : PI) (L : PL), MOk M_X12_goOnAnd (d + n + 105) [.ref 12] I L (((grp_X12_condition N n).2.1) I L)) ∧ (∀ (I : PI) (L : PL), MOk M_X12_goOnOr (d + n + 105) [.ref 12] I L (((grp_X12_condition N n).2.2.1) I L)) ∧ (∀ (I : PI) (L : PL), MOk M_X12_unit (d + n + 105) [.ref 12] I L (((grp_X12_condition N n).2.2.2) I L))
  | 0 => ⟨fun _ _ => MOk_none_grp_X12_condition, fun _ _ => MOk_none_grp_X12_condition, fun _ _ => MOk_none_grp_X12_condition, fun _ _ => MOk_none_grp_X12_condition⟩
  | n + 1 => by
    obtain ⟨h0, h1, h2, h3⟩ := ok_grp_X12_condition N d n
    exact ⟨oo_X12_condition N (d + n) ((grp_X12_condition N n).1) ((grp_X12_condition N n).2.1) ((grp_X12_condition N n).2.2.1) ((grp_X12_condition N n).2.2.2) h0 h1 h2 h3, oo_X12_goOnAnd N (d + n) ((grp_X12_condition N n).1) ((grp_X12_condition N n).2.1) ((grp_X12_condition N n).2.2.1) ((grp_X12_condition N n).2.2.2) h0 h1 h2 h3, oo_X12_goOnOr N (d + n) ((grp_X12_condition N n).1) ((grp_X12_condition N n).2.1) ((grp_X12_condition N n).2.2.1) ((grp_X12_condition N n).2.2.2) h0 h1 h2 h3, oo_X12_unit N (d + n) ((grp_X12_condition N n).1) ((grp_X12_condition N n).2.1) ((grp_X12_condition N n).2.2.1) ((grp_X12_condition N n).2.2.2) h0 h1 h2 h3⟩
def f_X12_condition (N : Nat) (I : PI) (L : PL) : RES := ((grp_X12_condition N 100).1) I L
theorem ok_X12_condition (N d : Nat) (I : PI) (L : PL) : MOk M_X12_condition (d + 205) [.ref 12] I L (f_X12_condition N I L) := ((ok_grp_X12_condition N d 100).1) I L
def f_X12_goOnAnd (N : Nat) (I : PI) (L : PL) : RES := ((grp_X12_condition N 100).2.1) I L
theorem ok_X12_goOnAnd (N d : Nat) (I : PI) (L : PL) : MOk M_X12_goOnAnd (d + 205) [.ref 12] I L (f_X12_goOnAnd N I L) := ((ok_grp_X12_condition N d 100).2.1) I L
def f_X12_goOnOr (N : Nat) (I : PI) (L : PL) : RES := ((grp_X12_condition N 100).2.2.1) I L
theorem ok_X12_goOnOr (N d : Nat) (I : PI) (L : PL) : MOk M_X12_goOnOr (d + 205) [.ref 12] I L (f_X12_goOnOr N I L) := ((ok_grp_X12_condition N d 100).2.2.1) I L
def f_X12_unit (N : Nat) (I : PI) (L : PL) : RES := ((grp_X12_condition N 100).2.2.2) I L
theorem ok_X12_unit (N d : Nat) (I : PI) (L : PL) : MOk M_X12_unit (d + 205) [.ref 12] I L (f_X12_unit N I L) := ((ok_grp_X12_condition N d 100).2.2.2) I L
def F_X12_clause_250 (N : Nat) (v1 : Int32) (I : PI) (L : PL) : RES := gd (inb (I 12 14) 7) (gd (inb v1 630) (nmW (uI I 46 (Int32.toNatClampNeg v1) (I 42 (Int32.toNatClampNeg (I 12 14)))) (fun I12 => gd (inb (I12 12 14) 7) (gd (inb (I12 12 14) 7) (nmW (uI I12 43 (Int32.toNatClampNeg (I12 12 14)) ((I12 43 (Int32.toNatClampNeg (I12 12 14))) + 1)) (fun I13 => some (none, I13, L)))))))
set_option maxRecDepth 100000 in
theorem E_X12_clause_250 (N d : Nat) (v1 : Int32) (I : PI) (L : PL) : EvW M_X12_clause (d + 206) 250 [(0, .ref 12), (1, .int v1)] [] I L (F_X12_clause_250 N v1 I L) := by
  rw [F_X12_clause_250]
  refine ev_aload_n (pc := 250) 0 dX12_clause_250 rfl ?_
  refine gf_X12_31 (pc := 251) rfl dX12_clause_251 ?_
  refine ev_iload_n (pc := 254) 1 dX12_clause_254 rfl ?_
  refine ev_aload_n (pc := 255) 0 dX12_clause_255 rfl ?_
  refine gf_X12_19 (pc := 256) rfl dX12_clause_256 ?_
  refine ev_aload_n (pc := 259) 0 dX12_clause_259 rfl ?_
  refine gf_X12_121 (pc := 260) rfl dX12_clause_260 ?_
  refine ev_iald (pc := 263) kK_42 dX12_clause_263 ?_
  refine ev_iast (pc := 264) kK_46 dX12_clause_264 ?_
  refine ev_nmW (fun I12 => ?_)
  refine ev_aload_n (pc := 265) 0 dX12_clause_265 rfl ?_
  refine gf_X12_22 (pc := 266) rfl dX12_clause_266 ?_
  refine ev_aload_n (pc := 269) 0 dX12_clause_269 rfl ?_
  refine gf_X12_121 (pc := 270) rfl dX12_clause_270 ?_
  refine ev_dup2 (pc := 273) rfl rfl dX12_clause_273 ?_
  refine ev_iald (pc := 274) kK_43 dX12_clause_274 ?_
  refine ev_iconst (pc := 275) 1 k_iconst_1 dX12_clause_275 ?_
  refine ev_iadd (pc := 276) dX12_clause_276 ?_
  refine ev_iast (pc := 277) kK_43 dX12_clause_277 ?_
  refine ev_nmW (fun I13 => ?_)
  exact ev_vret (pc := 278) rfl dX12_clause_278
def F_X12_clause_183 (N : Nat) (v1 : Int32) (v2 : Int32) (I : PI) (L : PL) : RES := gd (inb v1 630) (gd (inb v1 630) (nmW (uI I 45 (Int32.toNatClampNeg v1) (I 44 (Int32.toNatClampNeg v1))) (fun I11 => (if v2 = 0 then F_X12_clause_250 N v1 I11 L else (if (I11 12 4) = (-1 : Int32) then bI (f_X12_look N I11 L) (fun x14 I15 L16 => (if x14 = 63 then nmW (uI I15 12 3 ((I15 12 3) + 1)) (fun I17 => gd (inb (I17 12 14) 7) (gd (inb v1 630) (nmW (uI I17 45 (Int32.toNatClampNeg v1) (I17 42 (Int32.toNatClampNeg (I17 12 14)))) (fun I18 => bV (f_X12_sum N I18 L16) (fun I20 L21 => F_X12_clause_250 N v1 I20 L21))))) else bV (f_X12_bad N I15 L16) (fun I23 L24 => some (none, I23, L24)))) else F_X12_clause_250 N v1 I11 L)))))
set_option maxRecDepth 100000 in
theorem E_X12_clause_183 (N d : Nat) (v1 : Int32) (v2 : Int32) (I : PI) (L : PL) : EvW M_X12_clause (d + 206) 183 [(0, .ref 12), (1, .int v1), (2, .int v2)] [] I L (F_X12_clause_183 N v1 v2 I L) := by
  rw [F_X12_clause_183]
  refine ev_aload_n (pc := 183) 0 dX12_clause_183 rfl ?_
  refine gf_X12_28 (pc := 184) rfl dX12_clause_184 ?_
  refine ev_iload_n (pc := 187) 1 dX12_clause_187 rfl ?_
  refine ev_aload_n (pc := 188) 0 dX12_clause_188 rfl ?_
  refine gf_X12_25 (pc := 189) rfl dX12_clause_189 ?_
  refine ev_iload_n (pc := 192) 1 dX12_clause_192 rfl ?_
  refine ev_iald (pc := 193) kK_44 dX12_clause_193 ?_
  refine ev_iast (pc := 194) kK_45 dX12_clause_194 ?_
  refine ev_nmW (fun I11 => ?_)
  refine ev_iload_n (pc := 195) 2 dX12_clause_195 rfl ?_
  refine ev_if_eq (pc := 196) 250 (by decide) dX12_clause_196 ?_ ?_
  · refine EvW.sub [0, 1] rfl ?_
    exact E_X12_clause_250 N d v1 I11 L
  · refine ev_aload_n (pc := 199) 0 dX12_clause_199 rfl ?_
    refine gf_X12_118 (pc := 200) rfl dX12_clause_200 ?_
    refine ev_iconst (pc := 203) (-1 : Int32) k_iconst_m1 dX12_clause_203 ?_
    refine ev_icmp_ne (pc := 204) 250 (by decide) dX12_clause_204 ?_ ?_
    · refine EvW.sub [0, 1] rfl ?_
      exact E_X12_clause_250 N d v1 I11 L
    · refine ev_aload_n (pc := 207) 0 dX12_clause_207 rfl ?_
      refine ev_callVI (pc := 208) (d := d + 205) (As := []) (st := []) cv_X12_look rfl w_688 rfl (Nat.le_of_ble_eq_true rfl) (ok_X12_look N (d + 204) I11 L) dX12_clause_208 (fun x14 I15 L16 => ?_)
      refine ev_bipush (pc := 211) 63 k_bipush_63 dX12_clause_211 ?_
      refine ev_icmp_eq (pc := 213) 221 (by decide) dX12_clause_213 ?_ ?_
      · refine ev_aload_n (pc := 221) 0 dX12_clause_221 rfl ?_
        refine ev_dup (pc := 222) rfl dX12_clause_222 ?_
        refine gf_X12_111 (pc := 223) rfl dX12_clause_223 ?_
        refine ev_iconst (pc := 226) 1 k_iconst_1 dX12_clause_226 ?_
        refine ev_iadd (pc := 227) dX12_clause_227 ?_
        refine pf_X12_111 (pc := 228) rfl dX12_clause_228 ?_
        refine ev_nmW (fun I17 => ?_)
        refine ev_aload_n (pc := 231) 0 dX12_clause_231 rfl ?_
        refine gf_X12_28 (pc := 232) rfl dX12_clause_232 ?_
        refine ev_iload_n (pc := 235) 1 dX12_clause_235 rfl ?_
        refine ev_aload_n (pc := 236) 0 dX12_clause_236 rfl ?_
        refine gf_X12_19 (pc := 237) rfl dX12_clause_237 ?_
        refine ev_aload_n (pc := 240) 0 dX12_clause_240 rfl ?_
        refine gf_X12_121 (pc := 241) rfl dX12_clause_241 ?_
        refine ev_iald (pc := 244) kK_42 dX12_clause_244 ?_
        refine ev_iast (pc := 245) kK_45 dX12_clause_245 ?_
        refine ev_nmW (fun I18 => ?_)
        refine ev_aload_n (pc := 246) 0 dX12_clause_246 rfl ?_
        refine ev_callVV (pc := 247) (d := d + 205) (As := []) (st := []) cv_X12_sum rfl w_728 rfl (Nat.le_of_ble_eq_true rfl) (ok_X12_sum N (d + 102) I18 L16) dX12_clause_247 (fun I20 L21 => ?_)
        refine EvW.sub [0, 1] rfl ?_
        exact E_X12_clause_250 N d v1 I20 L21
      · refine ev_aload_n (pc := 216) 0 dX12_clause_216 rfl ?_
        refine ev_callVV (pc := 217) (d := d + 205) (As := []) (st := []) cv_X12_bad rfl w_692 rfl (Nat.le_of_ble_eq_true rfl) (ok_X12_bad N (d + 205) I15 L16) dX12_clause_217 (fun I23 L24 => ?_)
        exact ev_vret (pc := 220) rfl dX12_clause_220
def F_X12_clause_166 (N : Nat) (v1 : Int32) (s0 : Int32) (I : PI) (L : PL) : RES := (if s0 = 0 then F_X12_clause_183 N v1 s0 I L else bV (f_X12_compare N I L) (fun I26 L27 => bV (f_X12_goOnAnd N I26 L27) (fun I29 L30 => bV (f_X12_goOnOr N I29 L30) (fun I32 L33 => F_X12_clause_183 N v1 s0 I32 L33))))
set_option maxRecDepth 100000 in
theorem E_X12_clause_166 (N d : Nat) (v1 : Int32) (s0 : Int32) (I : PI) (L : PL) : EvW M_X12_clause (d + 206) 166 [(0, .ref 12), (1, .int v1)] [.int s0] I L (F_X12_clause_166 N v1 s0 I L) := by
  rw [F_X12_clause_166]
  refine ev_istore_n (pc := 166) (lv' := [(2, .int s0), (0, .ref 12), (1, .int v1)]) dX12_clause_166 rfl rfl rfl ?_
  refine ev_iload_n (pc := 167) 0 dX12_clause_167 rfl ?_
  refine ev_if_eq (pc := 168) 183 (by decide) dX12_clause_168 ?_ ?_
  · refine EvW.sub [1, 2, 0] rfl ?_
    exact E_X12_clause_183 N d v1 s0 I L
  · refine ev_aload_n (pc := 171) 1 dX12_clause_171 rfl ?_
    refine ev_callVV (pc := 172) (d := d + 205) (As := []) (st := []) cv_X12_compare rfl w_759 rfl (Nat.le_of_ble_eq_true rfl) (ok_X12_compare N (d + 101) I L) dX12_clause_172 (fun I26 L27 => ?_)
    refine ev_aload_n (pc := 175) 1 dX12_clause_175 rfl ?_
    refine ev_callVV (pc := 176) (d := d + 205) (As := []) (st := []) cv_X12_goOnAnd rfl w_767 rfl (Nat.le_of_ble_eq_true rfl) (ok_X12_goOnAnd N (d) I26 L27) dX12_clause_176 (fun I29 L30 => ?_)
    refine ev_aload_n (pc := 179) 1 dX12_clause_179 rfl ?_
    refine ev_callVV (pc := 180) (d := d + 205) (As := []) (st := []) cv_X12_goOnOr rfl w_771 rfl (Nat.le_of_ble_eq_true rfl) (ok_X12_goOnOr N (d) I29 L30) dX12_clause_180 (fun I32 L33 => ?_)
    refine EvW.sub [1, 2, 0] rfl ?_
    exact E_X12_clause_183 N d v1 s0 I32 L33
def F_X12_clause_165 (N : Nat) (v1 : Int32) (I : PI) (L : PL) : RES := F_X12_clause_166 N v1 0 I L
set_option maxRecDepth 100000 in
theorem E_X12_clause_165 (N d : Nat) (v1 : Int32) (I : PI) (L : PL) : EvW M_X12_clause (d + 206) 165 [(0, .ref 12), (1, .int v1)] [] I L (F_X12_clause_165 N v1 I L) := by
  rw [F_X12_clause_165]
  refine ev_iconst (pc := 165) 0 k_iconst_0 dX12_clause_165 ?_
  exact E_X12_clause_166 N d v1 0 I L
def F_X12_clause_127 (N : Nat) (v1 : Int32) (s0 : Int32) (I : PI) (L : PL) : RES := (if s0 = 0 then bV (f_X12_sum N I L) (fun I9 L10 => (if (I9 12 4) = (-1 : Int32) then bI (f_X12_look N I9 L10) (fun x34 I35 L36 => bI (f_X12_isSign N x34 I35 L36) (fun x37 I38 L39 => (if x37 = 0 then F_X12_clause_165 N v1 I38 L39 else F_X12_clause_166 N v1 1 I38 L39))) else F_X12_clause_165 N v1 I9 L10)) else bV (f_X12_condition N I L) (fun I41 L42 => F_X12_clause_183 N v1 s0 I41 L42))
set_option maxRecDepth 100000 in
theorem E_X12_clause_127 (N d : Nat) (v1 : Int32) (s0 : Int32) (I : PI) (L : PL) : EvW M_X12_clause (d + 206) 127 [(0, .ref 12), (1, .int v1)] [.int s0] I L (F_X12_clause_127 N v1 s0 I L) := by
  rw [F_X12_clause_127]
  refine ev_istore_n (pc := 127) (lv' := [(2, .int s0), (0, .ref 12), (1, .int v1)]) dX12_clause_127 rfl rfl rfl ?_
  refine ev_iload_n (pc := 128) 0 dX12_clause_128 rfl ?_
  refine ev_if_eq (pc := 129) 139 (by decide) dX12_clause_129 ?_ ?_
  · refine ev_aload_n (pc := 139) 1 dX12_clause_139 rfl ?_
    refine ev_callVV (pc := 140) (d := d + 205) (As := []) (st := []) cv_X12_sum rfl w_728 rfl (Nat.le_of_ble_eq_true rfl) (ok_X12_sum N (d + 102) I L) dX12_clause_140 (fun I9 L10 => ?_)
    refine ev_aload_n (pc := 143) 1 dX12_clause_143 rfl ?_
    refine gf_X12_118 (pc := 144) rfl dX12_clause_144 ?_
    refine ev_iconst (pc := 147) (-1 : Int32) k_iconst_m1 dX12_clause_147 ?_
    refine ev_icmp_ne (pc := 148) 165 (by decide) dX12_clause_148 ?_ ?_
    · refine EvW.sub [1, 2] rfl ?_
      exact E_X12_clause_165 N d v1 I9 L10
    · refine ev_aload_n (pc := 151) 1 dX12_clause_151 rfl ?_
      refine ev_callVI (pc := 152) (d := d + 205) (As := []) (st := []) cv_X12_look rfl w_688 rfl (Nat.le_of_ble_eq_true rfl) (ok_X12_look N (d + 204) I9 L10) dX12_clause_152 (fun x34 I35 L36 => ?_)
      refine ev_callSI (pc := 155) (d := d + 205) (As := [.int x34]) (st := []) cv_X12_isSign rfl w_755 rfl (Nat.le_of_ble_eq_true rfl) (ok_X12_isSign N (d + 205) x34 I35 L36) dX12_clause_155 (fun x37 I38 L39 => ?_)
      refine ev_if_eq (pc := 158) 165 (by decide) dX12_clause_158 ?_ ?_
      · refine EvW.sub [1, 2] rfl ?_
        exact E_X12_clause_165 N d v1 I38 L39
      · refine ev_iconst (pc := 161) 1 k_iconst_1 dX12_clause_161 ?_
        refine ev_goto (pc := 162) 166 (by decide) dX12_clause_162 ?_
        refine EvW.sub [1, 2] rfl ?_
        exact E_X12_clause_166 N d v1 1 I38 L39
  · refine ev_aload_n (pc := 132) 1 dX12_clause_132 rfl ?_
    refine ev_callVV (pc := 133) (d := d + 205) (As := []) (st := []) cv_X12_condition rfl w_775 rfl (Nat.le_of_ble_eq_true rfl) (ok_X12_condition N (d) I L) dX12_clause_133 (fun I41 L42 => ?_)
    refine ev_goto (pc := 136) 183 (by decide) dX12_clause_136 ?_
    refine EvW.sub [1, 2, 0] rfl ?_
    exact E_X12_clause_183 N d v1 s0 I41 L42
def F_X12_clause_122 (N : Nat) (v1 : Int32) (I : PI) (L : PL) : RES := F_X12_clause_127 N v1 1 I L
set_option maxRecDepth 100000 in
theorem E_X12_clause_122 (N d : Nat) (v1 : Int32) (I : PI) (L : PL) : EvW M_X12_clause (d + 206) 122 [(0, .ref 12), (1, .int v1)] [] I L (F_X12_clause_122 N v1 I L) := by
  rw [F_X12_clause_122]
  refine ev_iconst (pc := 122) 1 k_iconst_1 dX12_clause_122 ?_
  refine ev_goto (pc := 123) 127 (by decide) dX12_clause_123 ?_
  exact E_X12_clause_127 N d v1 1 I L
def F_X12_clause_70 (N : Nat) (v1 : Int32) (I : PI) (L : PL) : RES := nmW (uI I 12 3 ((I 12 3) + 1)) (fun I3 => (if (I3 12 4) = (-1 : Int32) then gd (inb (I3 12 14) 7) (gd (inb v1 630) (nmW (uI I3 44 (Int32.toNatClampNeg v1) (I3 42 (Int32.toNatClampNeg (I3 12 14)))) (fun I4 => bI (f_X12_look N I4 L) (fun x5 I6 L7 => (if x5 = 33 then F_X12_clause_122 N v1 I6 L7 else bI (f_X12_look N I6 L7) (fun x43 I44 L45 => (if x43 = 40 then F_X12_clause_122 N v1 I44 L45 else F_X12_clause_127 N v1 0 I44 L45))))))) else some (none, I3, L)))
set_option maxRecDepth 100000 in
theorem E_X12_clause_70 (N d : Nat) (v1 : Int32) (I : PI) (L : PL) : EvW M_X12_clause (d + 206) 70 [(0, .ref 12), (1, .int v1)] [] I L (F_X12_clause_70 N v1 I L) := by
  rw [F_X12_clause_70]
  refine ev_aload_n (pc := 70) 0 dX12_clause_70 rfl ?_
  refine ev_dup (pc := 71) rfl dX12_clause_71 ?_
  refine gf_X12_111 (pc := 72) rfl dX12_clause_72 ?_
  refine ev_iconst (pc := 75) 1 k_iconst_1 dX12_clause_75 ?_
  refine ev_iadd (pc := 76) dX12_clause_76 ?_
  refine pf_X12_111 (pc := 77) rfl dX12_clause_77 ?_
  refine ev_nmW (fun I3 => ?_)
  refine ev_aload_n (pc := 80) 0 dX12_clause_80 rfl ?_
  refine gf_X12_118 (pc := 81) rfl dX12_clause_81 ?_
  refine ev_iconst (pc := 84) (-1 : Int32) k_iconst_m1 dX12_clause_84 ?_
  refine ev_icmp_eq (pc := 85) 89 (by decide) dX12_clause_85 ?_ ?_
  · refine ev_aload_n (pc := 89) 0 dX12_clause_89 rfl ?_
    refine gf_X12_25 (pc := 90) rfl dX12_clause_90 ?_
    refine ev_iload_n (pc := 93) 1 dX12_clause_93 rfl ?_
    refine ev_aload_n (pc := 94) 0 dX12_clause_94 rfl ?_
    refine gf_X12_19 (pc := 95) rfl dX12_clause_95 ?_
    refine ev_aload_n (pc := 98) 0 dX12_clause_98 rfl ?_
    refine gf_X12_121 (pc := 99) rfl dX12_clause_99 ?_
    refine ev_iald (pc := 102) kK_42 dX12_clause_102 ?_
    refine ev_iast (pc := 103) kK_44 dX12_clause_103 ?_
    refine ev_nmW (fun I4 => ?_)
    refine ev_aload_n (pc := 104) 0 dX12_clause_104 rfl ?_
    refine ev_callVI (pc := 105) (d := d + 205) (As := []) (st := []) cv_X12_look rfl w_688 rfl (Nat.le_of_ble_eq_true rfl) (ok_X12_look N (d + 204) I4 L) dX12_clause_105 (fun x5 I6 L7 => ?_)
    refine ev_bipush (pc := 108) 33 k_bipush_33 dX12_clause_108 ?_
    refine ev_icmp_eq (pc := 110) 122 (by decide) dX12_clause_110 ?_ ?_
    · exact E_X12_clause_122 N d v1 I6 L7
    · refine ev_aload_n (pc := 113) 0 dX12_clause_113 rfl ?_
      refine ev_callVI (pc := 114) (d := d + 205) (As := []) (st := []) cv_X12_look rfl w_688 rfl (Nat.le_of_ble_eq_true rfl) (ok_X12_look N (d + 204) I6 L7) dX12_clause_114 (fun x43 I44 L45 => ?_)
      refine ev_bipush (pc := 117) 40 k_bipush_40 dX12_clause_117 ?_
      refine ev_icmp_ne (pc := 119) 126 (by decide) dX12_clause_119 ?_ ?_
      · refine ev_iconst (pc := 126) 0 k_iconst_0 dX12_clause_126 ?_
        exact E_X12_clause_127 N d v1 0 I44 L45
      · exact E_X12_clause_122 N d v1 I44 L45
  · exact ev_vret (pc := 88) rfl dX12_clause_88
def F_X12_clause_39 (N : Nat) (v1 : Int32) (I : PI) (L : PL) : RES := nmW (uI I 12 3 ((I 12 3) + 1)) (fun I2 => (if (I2 12 4) = (-1 : Int32) then bI (f_X12_look N I2 L) (fun x46 I47 L48 => (if x46 = 58 then F_X12_clause_70 N v1 I47 L48 else bV (f_X12_bad N I47 L48) (fun I50 L51 => F_X12_clause_70 N v1 I50 L51))) else F_X12_clause_70 N v1 I2 L))
set_option maxRecDepth 100000 in
theorem E_X12_clause_39 (N d : Nat) (v1 : Int32) (I : PI) (L : PL) : EvW M_X12_clause (d + 206) 39 [(0, .ref 12), (1, .int v1)] [] I L (F_X12_clause_39 N v1 I L) := by
  rw [F_X12_clause_39]
  refine ev_aload_n (pc := 39) 0 dX12_clause_39 rfl ?_
  refine ev_dup (pc := 40) rfl dX12_clause_40 ?_
  refine gf_X12_111 (pc := 41) rfl dX12_clause_41 ?_
  refine ev_iconst (pc := 44) 1 k_iconst_1 dX12_clause_44 ?_
  refine ev_iadd (pc := 45) dX12_clause_45 ?_
  refine pf_X12_111 (pc := 46) rfl dX12_clause_46 ?_
  refine ev_nmW (fun I2 => ?_)
  refine ev_aload_n (pc := 49) 0 dX12_clause_49 rfl ?_
  refine gf_X12_118 (pc := 50) rfl dX12_clause_50 ?_
  refine ev_iconst (pc := 53) (-1 : Int32) k_iconst_m1 dX12_clause_53 ?_
  refine ev_icmp_ne (pc := 54) 70 (by decide) dX12_clause_54 ?_ ?_
  · exact E_X12_clause_70 N d v1 I2 L
  · refine ev_aload_n (pc := 57) 0 dX12_clause_57 rfl ?_
    refine ev_callVI (pc := 58) (d := d + 205) (As := []) (st := []) cv_X12_look rfl w_688 rfl (Nat.le_of_ble_eq_true rfl) (ok_X12_look N (d + 204) I2 L) dX12_clause_58 (fun x46 I47 L48 => ?_)
    refine ev_bipush (pc := 61) 58 k_bipush_58 dX12_clause_61 ?_
    refine ev_icmp_eq (pc := 63) 70 (by decide) dX12_clause_63 ?_ ?_
    · exact E_X12_clause_70 N d v1 I47 L48
    · refine ev_aload_n (pc := 66) 0 dX12_clause_66 rfl ?_
      refine ev_callVV (pc := 67) (d := d + 205) (As := []) (st := []) cv_X12_bad rfl w_692 rfl (Nat.le_of_ble_eq_true rfl) (ok_X12_bad N (d + 205) I47 L48) dX12_clause_67 (fun I50 L51 => ?_)
      exact E_X12_clause_70 N d v1 I50 L51
def f_X12_clause (N : Nat) (I : PI) (L : PL) : RES := gd (inb (I 12 14) 7) (nmI ((90 * (I 12 14)) + (I 43 (Int32.toNatClampNeg (I 12 14)))) (fun x1 => (if (I 12 4) = (-1 : Int32) then bI (f_X12_look N I L) (fun x52 I53 L54 => (if x52 = 121 then F_X12_clause_39 N x1 I53 L54 else bV (f_X12_bad N I53 L54) (fun I56 L57 => F_X12_clause_39 N x1 I56 L57))) else F_X12_clause_39 N x1 I L)))
set_option maxRecDepth 100000 in
theorem ok_X12_clause (N d : Nat) (I : PI) (L : PL) : MOk M_X12_clause (d + 206) [.ref 12] I L (f_X12_clause N I L) := by
  refine MOk.of (by decide +kernel) (Nat.le_of_ble_eq_true rfl) ?_
  show EvW _ _ 0 [(0, .ref 12)] [] I L _
  rw [f_X12_clause]
  refine ev_bipush (pc := 0) 90 k_bipush_90 dX12_clause_0 ?_
  refine ev_aload_n (pc := 2) 0 dX12_clause_2 rfl ?_
  refine gf_X12_121 (pc := 3) rfl dX12_clause_3 ?_
  refine ev_imul (pc := 6) dX12_clause_6 ?_
  refine ev_aload_n (pc := 7) 0 dX12_clause_7 rfl ?_
  refine gf_X12_22 (pc := 8) rfl dX12_clause_8 ?_
  refine ev_aload_n (pc := 11) 0 dX12_clause_11 rfl ?_
  refine gf_X12_121 (pc := 12) rfl dX12_clause_12 ?_
  refine ev_iald (pc := 15) kK_43 dX12_clause_15 ?_
  refine ev_iadd (pc := 16) dX12_clause_16 ?_
  refine ev_nmI (fun x1 => ?_)
  refine ev_istore_n (pc := 17) (lv' := [(1, .int x1), (0, .ref 12)]) dX12_clause_17 rfl rfl rfl ?_
  refine ev_aload_n (pc := 18) 1 dX12_clause_18 rfl ?_
  refine gf_X12_118 (pc := 19) rfl dX12_clause_19 ?_
  refine ev_iconst (pc := 22) (-1 : Int32) k_iconst_m1 dX12_clause_22 ?_
  refine ev_icmp_ne (pc := 23) 39 (by decide) dX12_clause_23 ?_ ?_
  · refine EvW.sub [1, 0] rfl ?_
    exact E_X12_clause_39 N d x1 I L
  · refine ev_aload_n (pc := 26) 1 dX12_clause_26 rfl ?_
    refine ev_callVI (pc := 27) (d := d + 205) (As := []) (st := []) cv_X12_look rfl w_688 rfl (Nat.le_of_ble_eq_true rfl) (ok_X12_look N (d + 204) I L) dX12_clause_27 (fun x52 I53 L54 => ?_)
    refine ev_bipush (pc := 30) 121 k_bipush_121 dX12_clause_30 ?_
    refine ev_icmp_eq (pc := 32) 39 (by decide) dX12_clause_32 ?_ ?_
    · refine EvW.sub [1, 0] rfl ?_
      exact E_X12_clause_39 N d x1 I53 L54
    · refine ev_aload_n (pc := 35) 1 dX12_clause_35 rfl ?_
      refine ev_callVV (pc := 36) (d := d + 205) (As := []) (st := []) cv_X12_bad rfl w_692 rfl (Nat.le_of_ble_eq_true rfl) (ok_X12_bad N (d + 205) I53 L54) dX12_clause_36 (fun I56 L57 => ?_)
      refine EvW.sub [1, 0] rfl ?_
      exact E_X12_clause_39 N d x1 I56 L57
def F_X12_readLaw_43 (N : Nat) (I : PI) (L : PL) : RES := bI (f_X12_atEnd N I L) (fun x7 I8 L9 => some (some (.int x7), I8, L9))
set_option maxRecDepth 100000 in
theorem E_X12_readLaw_43 (N d : Nat) (I : PI) (L : PL) : EvW M_X12_readLaw (d + 207) 43 [(0, .ref 12)] [] I L (F_X12_readLaw_43 N I L) := by
  rw [F_X12_readLaw_43]
  refine ev_aload_n (pc := 43) 0 dX12_readLaw_43 rfl ?_
  refine ev_callVI (pc := 44) (d := d + 206) (As := []) (st := []) cv_X12_atEnd rfl w_696 rfl (Nat.le_of_ble_eq_true rfl) (ok_X12_atEnd N (d + 204) I L) dX12_readLaw_44 (fun x7 I8 L9 => ?_)
  exact ev_iret (pc := 47) rfl dX12_readLaw_47
def F_X12_readLaw_9 (N : Nat) : Nat → PI → PL → RES
  | 0, _, _ => none
  | n + 1, I, L => (if (I 12 4) = (-1 : Int32) then bI (f_X12_look N I L) (fun x10 I11 L12 => (if x10 = 59 then nmW (uI I11 12 3 ((I11 12 3) + 1)) (fun I13 => bV (f_X12_clause N I13 L12) (fun I15 L16 => (F_X12_readLaw_9 N n) I15 L16)) else F_X12_readLaw_43 N I11 L12)) else F_X12_readLaw_43 N I L)
set_option maxRecDepth 100000 in
theorem E_X12_readLaw_9 (N d : Nat) : ∀ (n : Nat) (I : PI) (L : PL), EvW M_X12_readLaw (d + 207) 9 [(0, .ref 12)] [] I L (F_X12_readLaw_9 N n I L) := by
  intro n
  induction n with
  | zero =>
    intro I L
    exact EvW.none
  | succ n hr_9 =>
    intro I L
    rw [F_X12_readLaw_9]
    refine ev_aload_n (pc := 9) 0 dX12_readLaw_9 rfl ?_
    refine gf_X12_118 (pc := 10) rfl dX12_readLaw_10 ?_
    refine ev_iconst (pc := 13) (-1 : Int32) k_iconst_m1 dX12_readLaw_13 ?_
    refine ev_icmp_ne (pc := 14) 43 (by decide) dX12_readLaw_14 ?_ ?_
    · exact E_X12_readLaw_43 N d I L
    · refine ev_aload_n (pc := 17) 0 dX12_readLaw_17 rfl ?_
      refine ev_callVI (pc := 18) (d := d + 206) (As := []) (st := []) cv_X12_look rfl w_688 rfl (Nat.le_of_ble_eq_true rfl) (ok_X12_look N (d + 205) I L) dX12_readLaw_18 (fun x10 I11 L12 => ?_)
      refine ev_bipush (pc := 21) 59 k_bipush_59 dX12_readLaw_21 ?_
      refine ev_icmp_ne (pc := 23) 43 (by decide) dX12_readLaw_23 ?_ ?_
      · exact E_X12_readLaw_43 N d I11 L12
      · refine ev_aload_n (pc := 26) 0 dX12_readLaw_26 rfl ?_
        refine ev_dup (pc := 27) rfl dX12_readLaw_27 ?_
        refine gf_X12_111 (pc := 28) rfl dX12_readLaw_28 ?_
        refine ev_iconst (pc := 31) 1 k_iconst_1 dX12_readLaw_31 ?_
        refine ev_iadd (pc := 32) dX12_readLaw_32 ?_
        refine pf_X12_111 (pc := 33) rfl dX12_readLaw_33 ?_
        refine ev_nmW (fun I13 => ?_)
        refine ev_aload_n (pc := 36) 0 dX12_readLaw_36 rfl ?_
        refine ev_callVV (pc := 37) (d := d + 206) (As := []) (st := []) cv_X12_clause rfl w_779 rfl (Nat.le_of_ble_eq_true rfl) (ok_X12_clause N (d) I13 L12) dX12_readLaw_37 (fun I15 L16 => ?_)
        refine ev_goto (pc := 40) 9 (by decide) dX12_readLaw_40 ?_
        exact hr_9 I15 L16
def f_X12_readLaw (N : Nat) (a1 : Int32) (I : PI) (L : PL) : RES := bV (f_X12_open N a1 I L) (fun I2 L3 => bV (f_X12_clause N I2 L3) (fun I5 L6 => F_X12_readLaw_9 N N I5 L6))
set_option maxRecDepth 100000 in
theorem ok_X12_readLaw (N d : Nat) (a1 : Int32) (I : PI) (L : PL) : MOk M_X12_readLaw (d + 207) [.ref 12, .int a1] I L (f_X12_readLaw N a1 I L) := by
  refine MOk.of (by decide +kernel) (Nat.le_of_ble_eq_true rfl) ?_
  show EvW _ _ 0 [(0, .ref 12), (1, .int a1)] [] I L _
  rw [f_X12_readLaw]
  refine ev_aload_n (pc := 0) 0 dX12_readLaw_0 rfl ?_
  refine ev_iload_n (pc := 1) 1 dX12_readLaw_1 rfl ?_
  refine ev_callVV (pc := 2) (d := d + 206) (As := [.int a1]) (st := []) cv_X12_open rfl w_716 rfl (Nat.le_of_ble_eq_true rfl) (ok_X12_open N (d + 206) a1 I L) dX12_readLaw_2 (fun I2 L3 => ?_)
  refine ev_aload_n (pc := 5) 0 dX12_readLaw_5 rfl ?_
  refine ev_callVV (pc := 6) (d := d + 206) (As := []) (st := []) cv_X12_clause rfl w_779 rfl (Nat.le_of_ble_eq_true rfl) (ok_X12_clause N (d) I2 L3) dX12_readLaw_6 (fun I5 L6 => ?_)
  refine EvW.sub [0] rfl ?_
  exact E_X12_readLaw_9 N d N I5 L6
def f_X12_turnOf (N : Nat) (a1 : Int32) (I : PI) (L : PL) : RES := (if a1 = 43 then some (some (.int 0), I, L) else (if a1 = 105 then some (some (.int 1), I, L) else (if a1 = 45 then some (some (.int 2), I, L) else (if a1 = 106 then some (some (.int 3), I, L) else some (some (.int (-1 : Int32)), I, L)))))
set_option maxRecDepth 100000 in
theorem ok_X12_turnOf (N d : Nat) (a1 : Int32) (I : PI) (L : PL) : MOk M_X12_turnOf (d) [.int a1] I L (f_X12_turnOf N a1 I L) := by
  refine MOk.of (by decide +kernel) (Nat.le_of_ble_eq_true rfl) ?_
  show EvW _ _ 0 [(0, .int a1)] [] I L _
  rw [f_X12_turnOf]
  refine ev_iload_n (pc := 0) 0 dX12_turnOf_0 rfl ?_
  refine ev_bipush (pc := 1) 43 k_bipush_43 dX12_turnOf_1 ?_
  refine ev_icmp_ne (pc := 3) 10 (by decide) dX12_turnOf_3 ?_ ?_
  · refine ev_iload_n (pc := 10) 0 dX12_turnOf_10 rfl ?_
    refine ev_bipush (pc := 11) 105 k_bipush_105 dX12_turnOf_11 ?_
    refine ev_icmp_ne (pc := 13) 20 (by decide) dX12_turnOf_13 ?_ ?_
    · refine ev_iload_n (pc := 20) 0 dX12_turnOf_20 rfl ?_
      refine ev_bipush (pc := 21) 45 k_bipush_45 dX12_turnOf_21 ?_
      refine ev_icmp_ne (pc := 23) 30 (by decide) dX12_turnOf_23 ?_ ?_
      · refine ev_iload_n (pc := 30) 0 dX12_turnOf_30 rfl ?_
        refine ev_bipush (pc := 31) 106 k_bipush_106 dX12_turnOf_31 ?_
        refine ev_icmp_ne (pc := 33) 40 (by decide) dX12_turnOf_33 ?_ ?_
        · refine ev_iconst (pc := 40) (-1 : Int32) k_iconst_m1 dX12_turnOf_40 ?_
          exact ev_iret (pc := 41) rfl dX12_turnOf_41
        · refine ev_iconst (pc := 36) 3 k_iconst_3 dX12_turnOf_36 ?_
          refine ev_goto (pc := 37) 41 (by decide) dX12_turnOf_37 ?_
          exact ev_iret (pc := 41) rfl dX12_turnOf_41
      · refine ev_iconst (pc := 26) 2 k_iconst_2 dX12_turnOf_26 ?_
        refine ev_goto (pc := 27) 41 (by decide) dX12_turnOf_27 ?_
        exact ev_iret (pc := 41) rfl dX12_turnOf_41
    · refine ev_iconst (pc := 16) 1 k_iconst_1 dX12_turnOf_16 ?_
      refine ev_goto (pc := 17) 41 (by decide) dX12_turnOf_17 ?_
      exact ev_iret (pc := 41) rfl dX12_turnOf_41
  · refine ev_iconst (pc := 6) 0 k_iconst_0 dX12_turnOf_6 ?_
    refine ev_goto (pc := 7) 41 (by decide) dX12_turnOf_7 ?_
    exact ev_iret (pc := 41) rfl dX12_turnOf_41
def f_X12_in (N : Nat) (a1 : Int32) (a2 : Int32) (a3 : Int32) (I : PI) (L : PL) : RES := (if a1 < a2 then gd (decide (0 &&& 1 = 0)) (some (some (.int 0), I, L)) else (if a3 < a1 then gd (decide (0 &&& 1 = 0)) (some (some (.int 0), I, L)) else gd (decide (1 &&& 1 = 1)) (some (some (.int 1), I, L))))
set_option maxRecDepth 100000 in
theorem ok_X12_in (N d : Nat) (a1 : Int32) (a2 : Int32) (a3 : Int32) (I : PI) (L : PL) : MOk M_X12_in (d) [.int a1, .int a2, .int a3] I L (f_X12_in N a1 a2 a3 I L) := by
  refine MOk.of (by decide +kernel) (Nat.le_of_ble_eq_true rfl) ?_
  show EvW _ _ 0 [(0, .int a1), (1, .int a2), (2, .int a3)] [] I L _
  rw [f_X12_in]
  refine ev_iload_n (pc := 0) 0 dX12_in_0 rfl ?_
  refine ev_iload_n (pc := 1) 1 dX12_in_1 rfl ?_
  refine ev_icmp_lt (pc := 2) 14 (by decide) dX12_in_2 ?_ ?_
  · refine ev_iconst (pc := 14) 0 k_iconst_0 dX12_in_14 ?_
    exact ev_zret (pc := 15) rfl dX12_in_15
  · refine ev_iload_n (pc := 5) 0 dX12_in_5 rfl ?_
    refine ev_iload_n (pc := 6) 2 dX12_in_6 rfl ?_
    refine ev_icmp_gt (pc := 7) 14 (by decide) dX12_in_7 ?_ ?_
    · refine ev_iconst (pc := 14) 0 k_iconst_0 dX12_in_14 ?_
      exact ev_zret (pc := 15) rfl dX12_in_15
    · refine ev_iconst (pc := 10) 1 k_iconst_1 dX12_in_10 ?_
      refine ev_goto (pc := 11) 15 (by decide) dX12_in_11 ?_
      exact ev_zret (pc := 15) rfl dX12_in_15
def F_X12_readCode_192 (N : Nat) (I : PI) (L : PL) : RES := bI (f_X12_atEnd N I L) (fun x10 I11 L12 => some (some (.int x10), I11, L12))
set_option maxRecDepth 100000 in
theorem E_X12_readCode_192 (N d : Nat) (I : PI) (L : PL) : EvW M_X12_readCode (d + 3) 192 [(0, .ref 12)] [] I L (F_X12_readCode_192 N I L) := by
  rw [F_X12_readCode_192]
  refine ev_aload_n (pc := 192) 0 dX12_readCode_192 rfl ?_
  refine ev_callVI (pc := 193) (d := d + 2) (As := []) (st := []) cv_X12_atEnd rfl w_696 rfl (Nat.le_of_ble_eq_true rfl) (ok_X12_atEnd N (d) I L) dX12_readCode_193 (fun x10 I11 L12 => ?_)
  exact ev_iret (pc := 196) rfl dX12_readCode_196
def F_X12_readCode_150 (N : Nat) (r_32 : Int32 → PI → PL → RES) : Nat → Int32 → Int32 → Int32 → Int32 → PI → PL → RES
  | 0, _, _, _, _, _, _ => none
  | n + 1, v1, v2, v3, v4, I, L => (if v3 ≤ v4 then r_32 v1 I L else gd (inb v1 9) (gd (inb ((24 * v1) + (I 50 (Int32.toNatClampNeg v1))) 216) (nmW (uI I 49 (Int32.toNatClampNeg ((24 * v1) + (I 50 (Int32.toNatClampNeg v1)))) v2) (fun I32 => gd (inb v1 9) (gd (inb v1 9) (nmW (uI I32 50 (Int32.toNatClampNeg v1) ((I32 50 (Int32.toNatClampNeg v1)) + 1)) (fun I33 => (F_X12_readCode_150 N r_32 n) v1 v2 v3 (v4 + 1) I33 L)))))))
set_option maxRecDepth 100000 in
theorem E_X12_readCode_150 (N d : Nat) (r_32 : Int32 → PI → PL → RES) (hr_32 : ∀ (v1 : Int32) (I : PI) (L : PL), EvW M_X12_readCode (d + 3) 32 [(0, .ref 12), (1, .int v1)] [] I L (r_32 v1 I L)) : ∀ (n : Nat) (v1 : Int32) (v2 : Int32) (v3 : Int32) (v4 : Int32) (I : PI) (L : PL), EvW M_X12_readCode (d + 3) 150 [(0, .ref 12), (1, .int v1), (2, .int v2), (3, .int v3), (4, .int v4)] [] I L (F_X12_readCode_150 N r_32 n v1 v2 v3 v4 I L) := by
  intro n
  induction n with
  | zero =>
    intro v1 v2 v3 v4 I L
    exact EvW.none
  | succ n hr_150 =>
    intro v1 v2 v3 v4 I L
    rw [F_X12_readCode_150]
    refine ev_iload (pc := 150) 4 dX12_readCode_150 rfl ?_
    refine ev_iload_n (pc := 152) 3 dX12_readCode_152 rfl ?_
    refine ev_icmp_ge (pc := 153) 189 (by decide) dX12_readCode_153 ?_ ?_
    · refine ev_goto (pc := 189) 32 (by decide) dX12_readCode_189 ?_
      refine EvW.sub [0, 1] rfl ?_
      exact hr_32 v1 I L
    · refine ev_aload_n (pc := 156) 0 dX12_readCode_156 rfl ?_
      refine gf_X12_40 (pc := 157) rfl dX12_readCode_157 ?_
      refine ev_bipush (pc := 160) 24 k_bipush_24 dX12_readCode_160 ?_
      refine ev_iload_n (pc := 162) 1 dX12_readCode_162 rfl ?_
      refine ev_imul (pc := 163) dX12_readCode_163 ?_
      refine ev_aload_n (pc := 164) 0 dX12_readCode_164 rfl ?_
      refine gf_X12_43 (pc := 165) rfl dX12_readCode_165 ?_
      refine ev_iload_n (pc := 168) 1 dX12_readCode_168 rfl ?_
      refine ev_iald (pc := 169) kK_50 dX12_readCode_169 ?_
      refine ev_iadd (pc := 170) dX12_readCode_170 ?_
      refine ev_iload_n (pc := 171) 2 dX12_readCode_171 rfl ?_
      refine ev_iast (pc := 172) kK_49 dX12_readCode_172 ?_
      refine ev_nmW (fun I32 => ?_)
      refine ev_aload_n (pc := 173) 0 dX12_readCode_173 rfl ?_
      refine gf_X12_43 (pc := 174) rfl dX12_readCode_174 ?_
      refine ev_iload_n (pc := 177) 1 dX12_readCode_177 rfl ?_
      refine ev_dup2 (pc := 178) rfl rfl dX12_readCode_178 ?_
      refine ev_iald (pc := 179) kK_50 dX12_readCode_179 ?_
      refine ev_iconst (pc := 180) 1 k_iconst_1 dX12_readCode_180 ?_
      refine ev_iadd (pc := 181) dX12_readCode_181 ?_
      refine ev_iast (pc := 182) kK_50 dX12_readCode_182 ?_
      refine ev_nmW (fun I33 => ?_)
      refine ev_iinc (pc := 183) (lv' := [(4, .int (v4 + 1)), (0, .ref 12), (1, .int v1), (2, .int v2), (3, .int v3)]) dX12_readCode_183 4 rfl rfl 1 k_iconst_1 rfl ?_
      refine ev_goto (pc := 186) 150 (by decide) dX12_readCode_186 ?_
      refine EvW.sub [1, 2, 3, 4, 0] rfl ?_
      exact hr_150 v1 v2 v3 (v4 + 1) I33 L
def F_X12_readCode_32 (N : Nat) : Nat → Int32 → PI → PL → RES
  | 0, _, _, _ => none
  | n + 1, v1, I, L => (if (I 12 4) = (-1 : Int32) then bI (f_X12_look N I L) (fun x13 I14 L15 => bI (f_X12_turnOf N x13 I14 L15) (fun x16 I17 L18 => (if x16 = (-1 : Int32) then F_X12_readCode_192 N I17 L18 else bI (f_X12_here N I17 L18) (fun x19 I20 L21 => bI (f_X12_turnOf N x19 I20 L21) (fun x22 I23 L24 => gd (inb v1 9) ((if (I23 50 (Int32.toNatClampNeg v1)) = 24 then bV (f_X12_bad N I23 L24) (fun I43 L44 => some (some (.int (I43 12 4)), I43, L44)) else nmW (uI I23 12 3 ((I23 12 3) + 1)) (fun I25 => bI (f_X12_look N I25 L24) (fun x26 I27 L28 => bI (f_X12_in N (x26 - 49) 0 8 I27 L28) (fun x29 I30 L31 => (if x29 = 0 then F_X12_readCode_150 N (F_X12_readCode_32 N n) N v1 x22 1 0 I30 L31 else bI (f_X12_here N I30 L31) (fun x34 I35 L36 => nmI (x34 - 48) (fun x37 => gd (inb v1 9) ((if ((I35 50 (Int32.toNatClampNeg v1)) + x37) ≤ 24 then nmW (uI I35 12 3 ((I35 12 3) + 1)) (fun I38 => F_X12_readCode_150 N (F_X12_readCode_32 N n) N v1 x22 x37 0 I38 L36) else bV (f_X12_bad N I35 L36) (fun I40 L41 => some (some (.int (I40 12 4)), I40, L41))))))))))))))))) else F_X12_readCode_192 N I L)
set_option maxRecDepth 100000 in
theorem E_X12_readCode_32 (N d : Nat) : ∀ (n : Nat) (v1 : Int32) (I : PI) (L : PL), EvW M_X12_readCode (d + 3) 32 [(0, .ref 12), (1, .int v1)] [] I L (F_X12_readCode_32 N n v1 I L) := by
  intro n
  induction n with
  | zero =>
    intro v1 I L
    exact EvW.none
  | succ n hr_32 =>
    intro v1 I L
    rw [F_X12_readCode_32]
    refine ev_aload_n (pc := 32) 0 dX12_readCode_32 rfl ?_
    refine gf_X12_118 (pc := 33) rfl dX12_readCode_33 ?_
    refine ev_iconst (pc := 36) (-1 : Int32) k_iconst_m1 dX12_readCode_36 ?_
    refine ev_icmp_ne (pc := 37) 192 (by decide) dX12_readCode_37 ?_ ?_
    · refine EvW.sub [0] rfl ?_
      exact E_X12_readCode_192 N d I L
    · refine ev_aload_n (pc := 40) 0 dX12_readCode_40 rfl ?_
      refine ev_callVI (pc := 41) (d := d + 2) (As := []) (st := []) cv_X12_look rfl w_688 rfl (Nat.le_of_ble_eq_true rfl) (ok_X12_look N (d + 1) I L) dX12_readCode_41 (fun x13 I14 L15 => ?_)
      refine ev_callSI (pc := 44) (d := d + 2) (As := [.int x13]) (st := []) cv_X12_turnOf rfl w_787 rfl (Nat.le_of_ble_eq_true rfl) (ok_X12_turnOf N (d + 2) x13 I14 L15) dX12_readCode_44 (fun x16 I17 L18 => ?_)
      refine ev_iconst (pc := 47) (-1 : Int32) k_iconst_m1 dX12_readCode_47 ?_
      refine ev_icmp_eq (pc := 48) 192 (by decide) dX12_readCode_48 ?_ ?_
      · refine EvW.sub [0] rfl ?_
        exact E_X12_readCode_192 N d I17 L18
      · refine ev_aload_n (pc := 51) 0 dX12_readCode_51 rfl ?_
        refine ev_callVI (pc := 52) (d := d + 2) (As := []) (st := []) cv_X12_here rfl w_684 rfl (Nat.le_of_ble_eq_true rfl) (ok_X12_here N (d + 2) I17 L18) dX12_readCode_52 (fun x19 I20 L21 => ?_)
        refine ev_callSI (pc := 55) (d := d + 2) (As := [.int x19]) (st := []) cv_X12_turnOf rfl w_787 rfl (Nat.le_of_ble_eq_true rfl) (ok_X12_turnOf N (d + 2) x19 I20 L21) dX12_readCode_55 (fun x22 I23 L24 => ?_)
        refine ev_istore_n (pc := 58) (lv' := [(2, .int x22), (0, .ref 12), (1, .int v1)]) dX12_readCode_58 rfl rfl rfl ?_
        refine ev_aload_n (pc := 59) 1 dX12_readCode_59 rfl ?_
        refine gf_X12_43 (pc := 60) rfl dX12_readCode_60 ?_
        refine ev_iload_n (pc := 63) 2 dX12_readCode_63 rfl ?_
        refine ev_iald (pc := 64) kK_50 dX12_readCode_64 ?_
        refine ev_bipush (pc := 65) 24 k_bipush_24 dX12_readCode_65 ?_
        refine ev_icmp_ne (pc := 67) 79 (by decide) dX12_readCode_67 ?_ ?_
        · refine ev_aload_n (pc := 79) 1 dX12_readCode_79 rfl ?_
          refine ev_dup (pc := 80) rfl dX12_readCode_80 ?_
          refine gf_X12_111 (pc := 81) rfl dX12_readCode_81 ?_
          refine ev_iconst (pc := 84) 1 k_iconst_1 dX12_readCode_84 ?_
          refine ev_iadd (pc := 85) dX12_readCode_85 ?_
          refine pf_X12_111 (pc := 86) rfl dX12_readCode_86 ?_
          refine ev_nmW (fun I25 => ?_)
          refine ev_iconst (pc := 89) 1 k_iconst_1 dX12_readCode_89 ?_
          refine ev_istore_n (pc := 90) (lv' := [(3, .int 1), (2, .int x22), (0, .ref 12), (1, .int v1)]) dX12_readCode_90 rfl rfl rfl ?_
          refine ev_aload_n (pc := 91) 2 dX12_readCode_91 rfl ?_
          refine ev_callVI (pc := 92) (d := d + 2) (As := []) (st := []) cv_X12_look rfl w_688 rfl (Nat.le_of_ble_eq_true rfl) (ok_X12_look N (d + 1) I25 L24) dX12_readCode_92 (fun x26 I27 L28 => ?_)
          refine ev_bipush (pc := 95) 49 k_bipush_49 dX12_readCode_95 ?_
          refine ev_isub (pc := 97) dX12_readCode_97 ?_
          refine ev_iconst (pc := 98) 0 k_iconst_0 dX12_readCode_98 ?_
          refine ev_bipush (pc := 99) 8 k_bipush_8 dX12_readCode_99 ?_
          refine ev_callSI (pc := 101) (d := d + 2) (As := [.int (x26 - 49), .int 0, .int 8]) (st := []) cv_X12_in rfl w_790 rfl (Nat.le_of_ble_eq_true rfl) (ok_X12_in N (d + 2) (x26 - 49) 0 8 I27 L28) dX12_readCode_101 (fun x29 I30 L31 => ?_)
          refine ev_if_eq (pc := 104) 147 (by decide) dX12_readCode_104 ?_ ?_
          · refine ev_iconst (pc := 147) 0 k_iconst_0 dX12_readCode_147 ?_
            refine ev_istore (pc := 148) (lv' := [(4, .int 0), (3, .int 1), (2, .int x22), (0, .ref 12), (1, .int v1)]) dX12_readCode_148 rfl rfl ?_
            refine EvW.sub [3, 4, 2, 1, 0] rfl ?_
            exact E_X12_readCode_150 N d (F_X12_readCode_32 N n) hr_32 N v1 x22 1 0 I30 L31
          · refine ev_aload_n (pc := 107) 2 dX12_readCode_107 rfl ?_
            refine ev_callVI (pc := 108) (d := d + 2) (As := []) (st := []) cv_X12_here rfl w_684 rfl (Nat.le_of_ble_eq_true rfl) (ok_X12_here N (d + 2) I30 L31) dX12_readCode_108 (fun x34 I35 L36 => ?_)
            refine ev_bipush (pc := 111) 48 k_bipush_48 dX12_readCode_111 ?_
            refine ev_isub (pc := 113) dX12_readCode_113 ?_
            refine ev_nmI (fun x37 => ?_)
            refine ev_istore_n (pc := 114) (lv' := [(3, .int x37), (2, .int x22), (0, .ref 12), (1, .int v1)]) dX12_readCode_114 rfl rfl rfl ?_
            refine ev_aload_n (pc := 115) 2 dX12_readCode_115 rfl ?_
            refine gf_X12_43 (pc := 116) rfl dX12_readCode_116 ?_
            refine ev_iload_n (pc := 119) 3 dX12_readCode_119 rfl ?_
            refine ev_iald (pc := 120) kK_50 dX12_readCode_120 ?_
            refine ev_iload_n (pc := 121) 0 dX12_readCode_121 rfl ?_
            refine ev_iadd (pc := 122) dX12_readCode_122 ?_
            refine ev_bipush (pc := 123) 24 k_bipush_24 dX12_readCode_123 ?_
            refine ev_icmp_le (pc := 125) 137 (by decide) dX12_readCode_125 ?_ ?_
            · refine ev_aload_n (pc := 137) 2 dX12_readCode_137 rfl ?_
              refine ev_dup (pc := 138) rfl dX12_readCode_138 ?_
              refine gf_X12_111 (pc := 139) rfl dX12_readCode_139 ?_
              refine ev_iconst (pc := 142) 1 k_iconst_1 dX12_readCode_142 ?_
              refine ev_iadd (pc := 143) dX12_readCode_143 ?_
              refine pf_X12_111 (pc := 144) rfl dX12_readCode_144 ?_
              refine ev_nmW (fun I38 => ?_)
              refine ev_iconst (pc := 147) 0 k_iconst_0 dX12_readCode_147 ?_
              refine ev_istore (pc := 148) (lv' := [(4, .int 0), (3, .int x37), (2, .int x22), (0, .ref 12), (1, .int v1)]) dX12_readCode_148 rfl rfl ?_
              refine EvW.sub [3, 4, 2, 1, 0] rfl ?_
              exact E_X12_readCode_150 N d (F_X12_readCode_32 N n) hr_32 N v1 x22 x37 0 I38 L36
            · refine ev_aload_n (pc := 128) 2 dX12_readCode_128 rfl ?_
              refine ev_callVV (pc := 129) (d := d + 2) (As := []) (st := []) cv_X12_bad rfl w_692 rfl (Nat.le_of_ble_eq_true rfl) (ok_X12_bad N (d + 2) I35 L36) dX12_readCode_129 (fun I40 L41 => ?_)
              refine ev_aload_n (pc := 132) 2 dX12_readCode_132 rfl ?_
              refine gf_X12_118 (pc := 133) rfl dX12_readCode_133 ?_
              exact ev_iret (pc := 136) rfl dX12_readCode_136
        · refine ev_aload_n (pc := 70) 1 dX12_readCode_70 rfl ?_
          refine ev_callVV (pc := 71) (d := d + 2) (As := []) (st := []) cv_X12_bad rfl w_692 rfl (Nat.le_of_ble_eq_true rfl) (ok_X12_bad N (d + 2) I23 L24) dX12_readCode_71 (fun I43 L44 => ?_)
          refine ev_aload_n (pc := 74) 1 dX12_readCode_74 rfl ?_
          refine gf_X12_118 (pc := 75) rfl dX12_readCode_75 ?_
          exact ev_iret (pc := 78) rfl dX12_readCode_78
def f_X12_readCode (N : Nat) (a1 : Int32) (I : PI) (L : PL) : RES := nmW (uI I 12 3 0) (fun I1 => nmW (uI I1 12 4 (-1 : Int32)) (fun I2 => gd (inb a1 9) (nmW (uI I2 50 (Int32.toNatClampNeg a1) 0) (fun I3 => bI (f_X12_look N I3 L) (fun x4 I5 L6 => bI (f_X12_turnOf N x4 I5 L6) (fun x7 I8 L9 => (if x7 = (-1 : Int32) then bV (f_X12_bad N I8 L9) (fun I46 L47 => F_X12_readCode_32 N N a1 I46 L47) else F_X12_readCode_32 N N a1 I8 L9)))))))
set_option maxRecDepth 100000 in
theorem ok_X12_readCode (N d : Nat) (a1 : Int32) (I : PI) (L : PL) : MOk M_X12_readCode (d + 3) [.ref 12, .int a1] I L (f_X12_readCode N a1 I L) := by
  refine MOk.of (by decide +kernel) (Nat.le_of_ble_eq_true rfl) ?_
  show EvW _ _ 0 [(0, .ref 12), (1, .int a1)] [] I L _
  rw [f_X12_readCode]
  refine ev_aload_n (pc := 0) 0 dX12_readCode_0 rfl ?_
  refine ev_iconst (pc := 1) 0 k_iconst_0 dX12_readCode_1 ?_
  refine pf_X12_111 (pc := 2) rfl dX12_readCode_2 ?_
  refine ev_nmW (fun I1 => ?_)
  refine ev_aload_n (pc := 5) 0 dX12_readCode_5 rfl ?_
  refine ev_iconst (pc := 6) (-1 : Int32) k_iconst_m1 dX12_readCode_6 ?_
  refine pf_X12_118 (pc := 7) rfl dX12_readCode_7 ?_
  refine ev_nmW (fun I2 => ?_)
  refine ev_aload_n (pc := 10) 0 dX12_readCode_10 rfl ?_
  refine gf_X12_43 (pc := 11) rfl dX12_readCode_11 ?_
  refine ev_iload_n (pc := 14) 1 dX12_readCode_14 rfl ?_
  refine ev_iconst (pc := 15) 0 k_iconst_0 dX12_readCode_15 ?_
  refine ev_iast (pc := 16) kK_50 dX12_readCode_16 ?_
  refine ev_nmW (fun I3 => ?_)
  refine ev_aload_n (pc := 17) 0 dX12_readCode_17 rfl ?_
  refine ev_callVI (pc := 18) (d := d + 2) (As := []) (st := []) cv_X12_look rfl w_688 rfl (Nat.le_of_ble_eq_true rfl) (ok_X12_look N (d + 1) I3 L) dX12_readCode_18 (fun x4 I5 L6 => ?_)
  refine ev_callSI (pc := 21) (d := d + 2) (As := [.int x4]) (st := []) cv_X12_turnOf rfl w_787 rfl (Nat.le_of_ble_eq_true rfl) (ok_X12_turnOf N (d + 2) x4 I5 L6) dX12_readCode_21 (fun x7 I8 L9 => ?_)
  refine ev_iconst (pc := 24) (-1 : Int32) k_iconst_m1 dX12_readCode_24 ?_
  refine ev_icmp_ne (pc := 25) 32 (by decide) dX12_readCode_25 ?_ ?_
  · exact E_X12_readCode_32 N d N a1 I8 L9
  · refine ev_aload_n (pc := 28) 0 dX12_readCode_28 rfl ?_
    refine ev_callVV (pc := 29) (d := d + 2) (As := []) (st := []) cv_X12_bad rfl w_692 rfl (Nat.le_of_ble_eq_true rfl) (ok_X12_bad N (d + 2) I8 L9) dX12_readCode_29 (fun I46 L47 => ?_)
    exact E_X12_readCode_32 N d N a1 I46 L47
def f_X12_fault (N : Nat) (a1 : Int32) (I : PI) (L : PL) : RES := (if a1 = 0 then bI (f_X12_readCode N 8 I L) (fun x7 I8 L9 => some (some (.int x7), I8, L9)) else (if a1 = 1 then bI (f_X12_readLaw N 6 I L) (fun x4 I5 L6 => some (some (.int x4), I5, L6)) else (if a1 = 2 then bI (f_X12_readRests N 6 I L) (fun x1 I2 L3 => some (some (.int x1), I2, L3)) else some (some (.int (-2 : Int32)), I, L))))
set_option maxRecDepth 100000 in
theorem ok_X12_fault (N d : Nat) (a1 : Int32) (I : PI) (L : PL) : MOk M_X12_fault (d + 208) [.ref 12, .int a1] I L (f_X12_fault N a1 I L) := by
  refine MOk.of (by decide +kernel) (Nat.le_of_ble_eq_true rfl) ?_
  show EvW _ _ 0 [(0, .ref 12), (1, .int a1)] [] I L _
  rw [f_X12_fault]
  refine ev_iload_n (pc := 0) 1 dX12_fault_0 rfl ?_
  refine ev_if_ne (pc := 1) 13 (by decide) dX12_fault_1 ?_ ?_
  · refine ev_iload_n (pc := 13) 1 dX12_fault_13 rfl ?_
    refine ev_iconst (pc := 14) 1 k_iconst_1 dX12_fault_14 ?_
    refine ev_icmp_ne (pc := 15) 27 (by decide) dX12_fault_15 ?_ ?_
    · refine ev_iload_n (pc := 27) 1 dX12_fault_27 rfl ?_
      refine ev_iconst (pc := 28) 2 k_iconst_2 dX12_fault_28 ?_
      refine ev_icmp_ne (pc := 29) 41 (by decide) dX12_fault_29 ?_ ?_
      · refine ev_bipush (pc := 41) (-2 : Int32) k_bipush_m2 dX12_fault_41 ?_
        exact ev_iret (pc := 43) rfl dX12_fault_43
      · refine ev_aload_n (pc := 32) 0 dX12_fault_32 rfl ?_
        refine ev_bipush (pc := 33) 6 k_bipush_6 dX12_fault_33 ?_
        refine ev_callVI (pc := 35) (d := d + 207) (As := [.int 6]) (st := []) cv_X12_readRests rfl w_708 rfl (Nat.le_of_ble_eq_true rfl) (ok_X12_readRests N (d + 204) 6 I L) dX12_fault_35 (fun x1 I2 L3 => ?_)
        refine ev_goto (pc := 38) 43 (by decide) dX12_fault_38 ?_
        exact ev_iret (pc := 43) rfl dX12_fault_43
    · refine ev_aload_n (pc := 18) 0 dX12_fault_18 rfl ?_
      refine ev_bipush (pc := 19) 6 k_bipush_6 dX12_fault_19 ?_
      refine ev_callVI (pc := 21) (d := d + 207) (As := [.int 6]) (st := []) cv_X12_readLaw rfl w_783 rfl (Nat.le_of_ble_eq_true rfl) (ok_X12_readLaw N (d) 6 I L) dX12_fault_21 (fun x4 I5 L6 => ?_)
      refine ev_goto (pc := 24) 43 (by decide) dX12_fault_24 ?_
      exact ev_iret (pc := 43) rfl dX12_fault_43
  · refine ev_aload_n (pc := 4) 0 dX12_fault_4 rfl ?_
    refine ev_bipush (pc := 5) 8 k_bipush_8 dX12_fault_5 ?_
    refine ev_callVI (pc := 7) (d := d + 207) (As := [.int 8]) (st := []) cv_X12_readCode rfl w_795 rfl (Nat.le_of_ble_eq_true rfl) (ok_X12_readCode N (d + 204) 8 I L) dX12_fault_7 (fun x7 I8 L9 => ?_)
    refine ev_goto (pc := 10) 43 (by decide) dX12_fault_10 ?_
    exact ev_iret (pc := 43) rfl dX12_fault_43
def F_X12_text_95 (N : Nat) (v1 : Int32) (I : PI) (L : PL) : RES := (if v1 = 2 then (if 6 ≤ (I 12 22) then some (some (.int (-1 : Int32)), I, L) else bI (f_X12_readRests N (I 12 22) I L) (fun x1 I2 L3 => (if x1 = (-1 : Int32) then nmW (uI I2 12 2 0) (fun I4 => nmW (uI I4 12 22 ((I4 12 22) + 1)) (fun I5 => some (some (.int ((I5 12 22) - 1)), I5, L3))) else some (some (.int (-1 : Int32)), I2, L3)))) else some (some (.int (-1 : Int32)), I, L))
set_option maxRecDepth 100000 in
theorem E_X12_text_95 (N d : Nat) (v1 : Int32) (I : PI) (L : PL) : EvW M_X12_text (d + 208) 95 [(0, .ref 12), (1, .int v1)] [] I L (F_X12_text_95 N v1 I L) := by
  rw [F_X12_text_95]
  refine ev_iload_n (pc := 95) 1 dX12_text_95 rfl ?_
  refine ev_iconst (pc := 96) 2 k_iconst_2 dX12_text_96 ?_
  refine ev_icmp_ne (pc := 97) 143 (by decide) dX12_text_97 ?_ ?_
  · refine ev_iconst (pc := 143) (-1 : Int32) k_iconst_m1 dX12_text_143 ?_
    exact ev_iret (pc := 144) rfl dX12_text_144
  · refine ev_aload_n (pc := 100) 0 dX12_text_100 rfl ?_
    refine gf_X12_241 (pc := 101) rfl dX12_text_101 ?_
    refine ev_bipush (pc := 104) 6 k_bipush_6 dX12_text_104 ?_
    refine ev_icmp_ge (pc := 106) 143 (by decide) dX12_text_106 ?_ ?_
    · refine ev_iconst (pc := 143) (-1 : Int32) k_iconst_m1 dX12_text_143 ?_
      exact ev_iret (pc := 144) rfl dX12_text_144
    · refine ev_aload_n (pc := 109) 0 dX12_text_109 rfl ?_
      refine ev_aload_n (pc := 110) 0 dX12_text_110 rfl ?_
      refine gf_X12_241 (pc := 111) rfl dX12_text_111 ?_
      refine ev_callVI (pc := 114) (d := d + 207) (As := [.int (I 12 22)]) (st := []) cv_X12_readRests rfl w_708 rfl (Nat.le_of_ble_eq_true rfl) (ok_X12_readRests N (d + 204) (I 12 22) I L) dX12_text_114 (fun x1 I2 L3 => ?_)
      refine ev_iconst (pc := 117) (-1 : Int32) k_iconst_m1 dX12_text_117 ?_
      refine ev_icmp_ne (pc := 118) 143 (by decide) dX12_text_118 ?_ ?_
      · refine ev_iconst (pc := 143) (-1 : Int32) k_iconst_m1 dX12_text_143 ?_
        exact ev_iret (pc := 144) rfl dX12_text_144
      · refine ev_aload_n (pc := 121) 0 dX12_text_121 rfl ?_
        refine ev_iconst (pc := 122) 0 k_iconst_0 dX12_text_122 ?_
        refine pf_X12_108 (pc := 123) rfl dX12_text_123 ?_
        refine ev_nmW (fun I4 => ?_)
        refine ev_aload_n (pc := 126) 0 dX12_text_126 rfl ?_
        refine ev_dup (pc := 127) rfl dX12_text_127 ?_
        refine gf_X12_241 (pc := 128) rfl dX12_text_128 ?_
        refine ev_iconst (pc := 131) 1 k_iconst_1 dX12_text_131 ?_
        refine ev_iadd (pc := 132) dX12_text_132 ?_
        refine pf_X12_241 (pc := 133) rfl dX12_text_133 ?_
        refine ev_nmW (fun I5 => ?_)
        refine ev_aload_n (pc := 136) 0 dX12_text_136 rfl ?_
        refine gf_X12_241 (pc := 137) rfl dX12_text_137 ?_
        refine ev_iconst (pc := 140) 1 k_iconst_1 dX12_text_140 ?_
        refine ev_isub (pc := 141) dX12_text_141 ?_
        exact ev_iret (pc := 142) rfl dX12_text_142
def F_X12_text_47 (N : Nat) (v1 : Int32) (I : PI) (L : PL) : RES := (if v1 = 1 then (if 6 ≤ (I 12 13) then F_X12_text_95 N v1 I L else bI (f_X12_readLaw N (I 12 13) I L) (fun x6 I7 L8 => (if x6 = (-1 : Int32) then nmW (uI I7 12 2 0) (fun I9 => nmW (uI I9 12 13 ((I9 12 13) + 1)) (fun I10 => some (some (.int ((I10 12 13) - 1)), I10, L8))) else F_X12_text_95 N v1 I7 L8))) else F_X12_text_95 N v1 I L)
set_option maxRecDepth 100000 in
theorem E_X12_text_47 (N d : Nat) (v1 : Int32) (I : PI) (L : PL) : EvW M_X12_text (d + 208) 47 [(0, .ref 12), (1, .int v1)] [] I L (F_X12_text_47 N v1 I L) := by
  rw [F_X12_text_47]
  refine ev_iload_n (pc := 47) 1 dX12_text_47 rfl ?_
  refine ev_iconst (pc := 48) 1 k_iconst_1 dX12_text_48 ?_
  refine ev_icmp_ne (pc := 49) 95 (by decide) dX12_text_49 ?_ ?_
  · exact E_X12_text_95 N d v1 I L
  · refine ev_aload_n (pc := 52) 0 dX12_text_52 rfl ?_
    refine gf_X12_238 (pc := 53) rfl dX12_text_53 ?_
    refine ev_bipush (pc := 56) 6 k_bipush_6 dX12_text_56 ?_
    refine ev_icmp_ge (pc := 58) 95 (by decide) dX12_text_58 ?_ ?_
    · exact E_X12_text_95 N d v1 I L
    · refine ev_aload_n (pc := 61) 0 dX12_text_61 rfl ?_
      refine ev_aload_n (pc := 62) 0 dX12_text_62 rfl ?_
      refine gf_X12_238 (pc := 63) rfl dX12_text_63 ?_
      refine ev_callVI (pc := 66) (d := d + 207) (As := [.int (I 12 13)]) (st := []) cv_X12_readLaw rfl w_783 rfl (Nat.le_of_ble_eq_true rfl) (ok_X12_readLaw N (d) (I 12 13) I L) dX12_text_66 (fun x6 I7 L8 => ?_)
      refine ev_iconst (pc := 69) (-1 : Int32) k_iconst_m1 dX12_text_69 ?_
      refine ev_icmp_ne (pc := 70) 95 (by decide) dX12_text_70 ?_ ?_
      · exact E_X12_text_95 N d v1 I7 L8
      · refine ev_aload_n (pc := 73) 0 dX12_text_73 rfl ?_
        refine ev_iconst (pc := 74) 0 k_iconst_0 dX12_text_74 ?_
        refine pf_X12_108 (pc := 75) rfl dX12_text_75 ?_
        refine ev_nmW (fun I9 => ?_)
        refine ev_aload_n (pc := 78) 0 dX12_text_78 rfl ?_
        refine ev_dup (pc := 79) rfl dX12_text_79 ?_
        refine gf_X12_238 (pc := 80) rfl dX12_text_80 ?_
        refine ev_iconst (pc := 83) 1 k_iconst_1 dX12_text_83 ?_
        refine ev_iadd (pc := 84) dX12_text_84 ?_
        refine pf_X12_238 (pc := 85) rfl dX12_text_85 ?_
        refine ev_nmW (fun I10 => ?_)
        refine ev_aload_n (pc := 88) 0 dX12_text_88 rfl ?_
        refine gf_X12_238 (pc := 89) rfl dX12_text_89 ?_
        refine ev_iconst (pc := 92) 1 k_iconst_1 dX12_text_92 ?_
        refine ev_isub (pc := 93) dX12_text_93 ?_
        exact ev_iret (pc := 94) rfl dX12_text_94
def f_X12_text (N : Nat) (a1 : Int32) (I : PI) (L : PL) : RES := (if a1 = 0 then (if 8 ≤ (I 12 21) then F_X12_text_47 N a1 I L else bI (f_X12_readCode N (I 12 21) I L) (fun x11 I12 L13 => (if x11 = (-1 : Int32) then nmW (uI I12 12 2 0) (fun I14 => nmW (uI I14 12 21 ((I14 12 21) + 1)) (fun I15 => some (some (.int ((I15 12 21) - 1)), I15, L13))) else F_X12_text_47 N a1 I12 L13))) else F_X12_text_47 N a1 I L)
set_option maxRecDepth 100000 in
theorem ok_X12_text (N d : Nat) (a1 : Int32) (I : PI) (L : PL) : MOk M_X12_text (d + 208) [.ref 12, .int a1] I L (f_X12_text N a1 I L) := by
  refine MOk.of (by decide +kernel) (Nat.le_of_ble_eq_true rfl) ?_
  show EvW _ _ 0 [(0, .ref 12), (1, .int a1)] [] I L _
  rw [f_X12_text]
  refine ev_iload_n (pc := 0) 1 dX12_text_0 rfl ?_
  refine ev_if_ne (pc := 1) 47 (by decide) dX12_text_1 ?_ ?_
  · exact E_X12_text_47 N d a1 I L
  · refine ev_aload_n (pc := 4) 0 dX12_text_4 rfl ?_
    refine gf_X12_235 (pc := 5) rfl dX12_text_5 ?_
    refine ev_bipush (pc := 8) 8 k_bipush_8 dX12_text_8 ?_
    refine ev_icmp_ge (pc := 10) 47 (by decide) dX12_text_10 ?_ ?_
    · exact E_X12_text_47 N d a1 I L
    · refine ev_aload_n (pc := 13) 0 dX12_text_13 rfl ?_
      refine ev_aload_n (pc := 14) 0 dX12_text_14 rfl ?_
      refine gf_X12_235 (pc := 15) rfl dX12_text_15 ?_
      refine ev_callVI (pc := 18) (d := d + 207) (As := [.int (I 12 21)]) (st := []) cv_X12_readCode rfl w_795 rfl (Nat.le_of_ble_eq_true rfl) (ok_X12_readCode N (d + 204) (I 12 21) I L) dX12_text_18 (fun x11 I12 L13 => ?_)
      refine ev_iconst (pc := 21) (-1 : Int32) k_iconst_m1 dX12_text_21 ?_
      refine ev_icmp_ne (pc := 22) 47 (by decide) dX12_text_22 ?_ ?_
      · exact E_X12_text_47 N d a1 I12 L13
      · refine ev_aload_n (pc := 25) 0 dX12_text_25 rfl ?_
        refine ev_iconst (pc := 26) 0 k_iconst_0 dX12_text_26 ?_
        refine pf_X12_108 (pc := 27) rfl dX12_text_27 ?_
        refine ev_nmW (fun I14 => ?_)
        refine ev_aload_n (pc := 30) 0 dX12_text_30 rfl ?_
        refine ev_dup (pc := 31) rfl dX12_text_31 ?_
        refine gf_X12_235 (pc := 32) rfl dX12_text_32 ?_
        refine ev_iconst (pc := 35) 1 k_iconst_1 dX12_text_35 ?_
        refine ev_iadd (pc := 36) dX12_text_36 ?_
        refine pf_X12_235 (pc := 37) rfl dX12_text_37 ?_
        refine ev_nmW (fun I15 => ?_)
        refine ev_aload_n (pc := 40) 0 dX12_text_40 rfl ?_
        refine gf_X12_235 (pc := 41) rfl dX12_text_41 ?_
        refine ev_iconst (pc := 44) 1 k_iconst_1 dX12_text_44 ?_
        refine ev_isub (pc := 45) dX12_text_45 ?_
        exact ev_iret (pc := 46) rfl dX12_text_46
def f_X12_isCode (N : Nat) (a1 : Int32) (I : PI) (L : PL) : RES := bI (f_X12_in N a1 0 ((I 12 21) - 1) I L) (fun x1 I2 L3 => gd (decide (x1 &&& 1 = x1)) (some (some (.int x1), I2, L3)))
set_option maxRecDepth 100000 in
theorem ok_X12_isCode (N d : Nat) (a1 : Int32) (I : PI) (L : PL) : MOk M_X12_isCode (d + 1) [.ref 12, .int a1] I L (f_X12_isCode N a1 I L) := by
  refine MOk.of (by decide +kernel) (Nat.le_of_ble_eq_true rfl) ?_
  show EvW _ _ 0 [(0, .ref 12), (1, .int a1)] [] I L _
  rw [f_X12_isCode]
  refine ev_iload_n (pc := 0) 1 dX12_isCode_0 rfl ?_
  refine ev_iconst (pc := 1) 0 k_iconst_0 dX12_isCode_1 ?_
  refine ev_aload_n (pc := 2) 0 dX12_isCode_2 rfl ?_
  refine gf_X12_235 (pc := 3) rfl dX12_isCode_3 ?_
  refine ev_iconst (pc := 6) 1 k_iconst_1 dX12_isCode_6 ?_
  refine ev_isub (pc := 7) dX12_isCode_7 ?_
  refine ev_callSI (pc := 8) (d := d) (As := [.int a1, .int 0, .int ((I 12 21) - 1)]) (st := []) cv_X12_in rfl w_790 rfl (Nat.le_of_ble_eq_true rfl) (ok_X12_in N (d) a1 0 ((I 12 21) - 1) I L) dX12_isCode_8 (fun x1 I2 L3 => ?_)
  exact ev_zret (pc := 11) rfl dX12_isCode_11
def F_X12_sign_40 (N : Nat) (v1 : Int32) (v2 : Int32) (v3 : Int32) (s0 : Int32) (I : PI) (L : PL) : RES := nmW (uI I 12 0 s0) (fun I4 => (if v3 = 0 then some (some (.int 0), I4, L) else (if v2 = (-1 : Int32) then gd (inb v1 9) (some (some (.int (I4 50 (Int32.toNatClampNeg v1))), I4, L)) else gd (inb ((24 * v1) + v2) 216) (some (some (.int (I4 49 (Int32.toNatClampNeg ((24 * v1) + v2)))), I4, L)))))
set_option maxRecDepth 100000 in
theorem E_X12_sign_40 (N d : Nat) (v1 : Int32) (v2 : Int32) (v3 : Int32) (s0 : Int32) (I : PI) (L : PL) : EvW M_X12_sign (d + 2) 40 [(0, .ref 12), (1, .int v1), (2, .int v2), (3, .int v3)] [.int s0, .ref 12] I L (F_X12_sign_40 N v1 v2 v3 s0 I L) := by
  rw [F_X12_sign_40]
  refine pf_X12_101 (pc := 40) rfl dX12_sign_40 ?_
  refine ev_nmW (fun I4 => ?_)
  refine ev_iload_n (pc := 43) 3 dX12_sign_43 rfl ?_
  refine ev_if_ne (pc := 44) 51 (by decide) dX12_sign_44 ?_ ?_
  · refine ev_iload_n (pc := 51) 2 dX12_sign_51 rfl ?_
    refine ev_iconst (pc := 52) (-1 : Int32) k_iconst_m1 dX12_sign_52 ?_
    refine ev_icmp_ne (pc := 53) 65 (by decide) dX12_sign_53 ?_ ?_
    · refine ev_aload_n (pc := 65) 0 dX12_sign_65 rfl ?_
      refine gf_X12_40 (pc := 66) rfl dX12_sign_66 ?_
      refine ev_bipush (pc := 69) 24 k_bipush_24 dX12_sign_69 ?_
      refine ev_iload_n (pc := 71) 1 dX12_sign_71 rfl ?_
      refine ev_imul (pc := 72) dX12_sign_72 ?_
      refine ev_iload_n (pc := 73) 2 dX12_sign_73 rfl ?_
      refine ev_iadd (pc := 74) dX12_sign_74 ?_
      refine ev_iald (pc := 75) kK_49 dX12_sign_75 ?_
      exact ev_iret (pc := 76) rfl dX12_sign_76
    · refine ev_aload_n (pc := 56) 0 dX12_sign_56 rfl ?_
      refine gf_X12_43 (pc := 57) rfl dX12_sign_57 ?_
      refine ev_iload_n (pc := 60) 1 dX12_sign_60 rfl ?_
      refine ev_iald (pc := 61) kK_50 dX12_sign_61 ?_
      refine ev_goto (pc := 62) 76 (by decide) dX12_sign_62 ?_
      exact ev_iret (pc := 76) rfl dX12_sign_76
  · refine ev_iconst (pc := 47) 0 k_iconst_0 dX12_sign_47 ?_
    refine ev_goto (pc := 48) 76 (by decide) dX12_sign_48 ?_
    exact ev_iret (pc := 76) rfl dX12_sign_76
def F_X12_sign_29 (N : Nat) (v1 : Int32) (v2 : Int32) (s0 : Int32) (I : PI) (L : PL) : RES := (if s0 = 0 then F_X12_sign_40 N v1 v2 s0 1 I L else F_X12_sign_40 N v1 v2 s0 0 I L)
set_option maxRecDepth 100000 in
theorem E_X12_sign_29 (N d : Nat) (v1 : Int32) (v2 : Int32) (s0 : Int32) (I : PI) (L : PL) : EvW M_X12_sign (d + 2) 29 [(0, .ref 12), (1, .int v1), (2, .int v2)] [.int s0] I L (F_X12_sign_29 N v1 v2 s0 I L) := by
  rw [F_X12_sign_29]
  refine ev_istore_n (pc := 29) (lv' := [(3, .int s0), (0, .ref 12), (1, .int v1), (2, .int v2)]) dX12_sign_29 rfl rfl rfl ?_
  refine ev_aload_n (pc := 30) 1 dX12_sign_30 rfl ?_
  refine ev_iload_n (pc := 31) 0 dX12_sign_31 rfl ?_
  refine ev_if_eq (pc := 32) 39 (by decide) dX12_sign_32 ?_ ?_
  · refine ev_iconst (pc := 39) 1 k_iconst_1 dX12_sign_39 ?_
    refine EvW.sub [1, 2, 3, 0] rfl ?_
    exact E_X12_sign_40 N d v1 v2 s0 1 I L
  · refine ev_iconst (pc := 35) 0 k_iconst_0 dX12_sign_35 ?_
    refine ev_goto (pc := 36) 40 (by decide) dX12_sign_36 ?_
    refine EvW.sub [1, 2, 3, 0] rfl ?_
    exact E_X12_sign_40 N d v1 v2 s0 0 I L
def F_X12_sign_28 (N : Nat) (v1 : Int32) (v2 : Int32) (I : PI) (L : PL) : RES := F_X12_sign_29 N v1 v2 0 I L
set_option maxRecDepth 100000 in
theorem E_X12_sign_28 (N d : Nat) (v1 : Int32) (v2 : Int32) (I : PI) (L : PL) : EvW M_X12_sign (d + 2) 28 [(0, .ref 12), (1, .int v1), (2, .int v2)] [] I L (F_X12_sign_28 N v1 v2 I L) := by
  rw [F_X12_sign_28]
  refine ev_iconst (pc := 28) 0 k_iconst_0 dX12_sign_28 ?_
  exact E_X12_sign_29 N d v1 v2 0 I L
def f_X12_sign (N : Nat) (a1 : Int32) (a2 : Int32) (I : PI) (L : PL) : RES := bI (f_X12_isCode N a1 I L) (fun x1 I2 L3 => (if x1 = 0 then F_X12_sign_28 N a1 a2 I2 L3 else gd (inb a1 9) (bI (f_X12_in N a2 (-1 : Int32) ((I2 50 (Int32.toNatClampNeg a1)) - 1) I2 L3) (fun x5 I6 L7 => (if x5 = 0 then F_X12_sign_28 N a1 a2 I6 L7 else F_X12_sign_29 N a1 a2 1 I6 L7)))))
set_option maxRecDepth 100000 in
theorem ok_X12_sign (N d : Nat) (a1 : Int32) (a2 : Int32) (I : PI) (L : PL) : MOk M_X12_sign (d + 2) [.ref 12, .int a1, .int a2] I L (f_X12_sign N a1 a2 I L) := by
  refine MOk.of (by decide +kernel) (Nat.le_of_ble_eq_true rfl) ?_
  show EvW _ _ 0 [(0, .ref 12), (1, .int a1), (2, .int a2)] [] I L _
  rw [f_X12_sign]
  refine ev_aload_n (pc := 0) 0 dX12_sign_0 rfl ?_
  refine ev_iload_n (pc := 1) 1 dX12_sign_1 rfl ?_
  refine ev_callVI (pc := 2) (d := d + 1) (As := [.int a1]) (st := []) cv_X12_isCode rfl w_802 rfl (Nat.le_of_ble_eq_true rfl) (ok_X12_isCode N (d) a1 I L) dX12_sign_2 (fun x1 I2 L3 => ?_)
  refine ev_if_eq (pc := 5) 28 (by decide) dX12_sign_5 ?_ ?_
  · exact E_X12_sign_28 N d a1 a2 I2 L3
  · refine ev_iload_n (pc := 8) 2 dX12_sign_8 rfl ?_
    refine ev_iconst (pc := 9) (-1 : Int32) k_iconst_m1 dX12_sign_9 ?_
    refine ev_aload_n (pc := 10) 0 dX12_sign_10 rfl ?_
    refine gf_X12_43 (pc := 11) rfl dX12_sign_11 ?_
    refine ev_iload_n (pc := 14) 1 dX12_sign_14 rfl ?_
    refine ev_iald (pc := 15) kK_50 dX12_sign_15 ?_
    refine ev_iconst (pc := 16) 1 k_iconst_1 dX12_sign_16 ?_
    refine ev_isub (pc := 17) dX12_sign_17 ?_
    refine ev_callSI (pc := 18) (d := d + 1) (As := [.int a2, .int (-1 : Int32), .int ((I2 50 (Int32.toNatClampNeg a1)) - 1)]) (st := []) cv_X12_in rfl w_790 rfl (Nat.le_of_ble_eq_true rfl) (ok_X12_in N (d + 1) a2 (-1 : Int32) ((I2 50 (Int32.toNatClampNeg a1)) - 1) I2 L3) dX12_sign_18 (fun x5 I6 L7 => ?_)
    refine ev_if_eq (pc := 21) 28 (by decide) dX12_sign_21 ?_ ?_
    · exact E_X12_sign_28 N d a1 a2 I6 L7
    · refine ev_iconst (pc := 24) 1 k_iconst_1 dX12_sign_24 ?_
      refine ev_goto (pc := 25) 29 (by decide) dX12_sign_25 ?_
      exact E_X12_sign_29 N d a1 a2 1 I6 L7
def f_X12_isSet (N : Nat) (a1 : Int32) (I : PI) (L : PL) : RES := bI (f_X12_in N a1 0 ((I 12 22) - 1) I L) (fun x1 I2 L3 => gd (decide (x1 &&& 1 = x1)) (some (some (.int x1), I2, L3)))
set_option maxRecDepth 100000 in
theorem ok_X12_isSet (N d : Nat) (a1 : Int32) (I : PI) (L : PL) : MOk M_X12_isSet (d + 1) [.ref 12, .int a1] I L (f_X12_isSet N a1 I L) := by
  refine MOk.of (by decide +kernel) (Nat.le_of_ble_eq_true rfl) ?_
  show EvW _ _ 0 [(0, .ref 12), (1, .int a1)] [] I L _
  rw [f_X12_isSet]
  refine ev_iload_n (pc := 0) 1 dX12_isSet_0 rfl ?_
  refine ev_iconst (pc := 1) 0 k_iconst_0 dX12_isSet_1 ?_
  refine ev_aload_n (pc := 2) 0 dX12_isSet_2 rfl ?_
  refine gf_X12_241 (pc := 3) rfl dX12_isSet_3 ?_
  refine ev_iconst (pc := 6) 1 k_iconst_1 dX12_isSet_6 ?_
  refine ev_isub (pc := 7) dX12_isSet_7 ?_
  refine ev_callSI (pc := 8) (d := d) (As := [.int a1, .int 0, .int ((I 12 22) - 1)]) (st := []) cv_X12_in rfl w_790 rfl (Nat.le_of_ble_eq_true rfl) (ok_X12_in N (d) a1 0 ((I 12 22) - 1) I L) dX12_isSet_8 (fun x1 I2 L3 => ?_)
  exact ev_zret (pc := 11) rfl dX12_isSet_11
def F_X12_rest_24 (N : Nat) (I : PI) (L : PL) : RES := some (some (.int (-1 : Int32)), I, L)
set_option maxRecDepth 100000 in
theorem E_X12_rest_24 (N d : Nat) (I : PI) (L : PL) : EvW M_X12_rest (d + 2) 24 [] [] I L (F_X12_rest_24 N I L) := by
  rw [F_X12_rest_24]
  refine ev_iconst (pc := 24) (-1 : Int32) k_iconst_m1 dX12_rest_24 ?_
  refine ev_goto (pc := 25) 53 (by decide) dX12_rest_25 ?_
  exact ev_iret (pc := 53) rfl dX12_rest_53
def f_X12_rest (N : Nat) (a1 : Int32) (a2 : Int32) (I : PI) (L : PL) : RES := bI (f_X12_isSet N a1 I L) (fun x1 I2 L3 => (if x1 = 0 then F_X12_rest_24 N I2 L3 else gd (inb a1 7) (bI (f_X12_in N a2 (-1 : Int32) ((I2 52 (Int32.toNatClampNeg a1)) - 1) I2 L3) (fun x4 I5 L6 => (if x4 = 0 then F_X12_rest_24 N I5 L6 else (if a2 = (-1 : Int32) then gd (inb a1 7) (some (some (.int (I5 52 (Int32.toNatClampNeg a1))), I5, L6)) else gd (inb ((8 * a1) + a2) 56) (some (some (.int (I5 51 (Int32.toNatClampNeg ((8 * a1) + a2)))), I5, L6))))))))
set_option maxRecDepth 100000 in
theorem ok_X12_rest (N d : Nat) (a1 : Int32) (a2 : Int32) (I : PI) (L : PL) : MOk M_X12_rest (d + 2) [.ref 12, .int a1, .int a2] I L (f_X12_rest N a1 a2 I L) := by
  refine MOk.of (by decide +kernel) (Nat.le_of_ble_eq_true rfl) ?_
  show EvW _ _ 0 [(0, .ref 12), (1, .int a1), (2, .int a2)] [] I L _
  rw [f_X12_rest]
  refine ev_aload_n (pc := 0) 0 dX12_rest_0 rfl ?_
  refine ev_iload_n (pc := 1) 1 dX12_rest_1 rfl ?_
  refine ev_callVI (pc := 2) (d := d + 1) (As := [.int a1]) (st := []) cv_X12_isSet rfl w_806 rfl (Nat.le_of_ble_eq_true rfl) (ok_X12_isSet N (d) a1 I L) dX12_rest_2 (fun x1 I2 L3 => ?_)
  refine ev_if_eq (pc := 5) 24 (by decide) dX12_rest_5 ?_ ?_
  · refine EvW.sub [] rfl ?_
    exact E_X12_rest_24 N d I2 L3
  · refine ev_iload_n (pc := 8) 2 dX12_rest_8 rfl ?_
    refine ev_iconst (pc := 9) (-1 : Int32) k_iconst_m1 dX12_rest_9 ?_
    refine ev_aload_n (pc := 10) 0 dX12_rest_10 rfl ?_
    refine gf_X12_49 (pc := 11) rfl dX12_rest_11 ?_
    refine ev_iload_n (pc := 14) 1 dX12_rest_14 rfl ?_
    refine ev_iald (pc := 15) kK_52 dX12_rest_15 ?_
    refine ev_iconst (pc := 16) 1 k_iconst_1 dX12_rest_16 ?_
    refine ev_isub (pc := 17) dX12_rest_17 ?_
    refine ev_callSI (pc := 18) (d := d + 1) (As := [.int a2, .int (-1 : Int32), .int ((I2 52 (Int32.toNatClampNeg a1)) - 1)]) (st := []) cv_X12_in rfl w_790 rfl (Nat.le_of_ble_eq_true rfl) (ok_X12_in N (d + 1) a2 (-1 : Int32) ((I2 52 (Int32.toNatClampNeg a1)) - 1) I2 L3) dX12_rest_18 (fun x4 I5 L6 => ?_)
    refine ev_if_ne (pc := 21) 28 (by decide) dX12_rest_21 ?_ ?_
    · refine ev_iload_n (pc := 28) 2 dX12_rest_28 rfl ?_
      refine ev_iconst (pc := 29) (-1 : Int32) k_iconst_m1 dX12_rest_29 ?_
      refine ev_icmp_ne (pc := 30) 42 (by decide) dX12_rest_30 ?_ ?_
      · refine ev_aload_n (pc := 42) 0 dX12_rest_42 rfl ?_
        refine gf_X12_46 (pc := 43) rfl dX12_rest_43 ?_
        refine ev_bipush (pc := 46) 8 k_bipush_8 dX12_rest_46 ?_
        refine ev_iload_n (pc := 48) 1 dX12_rest_48 rfl ?_
        refine ev_imul (pc := 49) dX12_rest_49 ?_
        refine ev_iload_n (pc := 50) 2 dX12_rest_50 rfl ?_
        refine ev_iadd (pc := 51) dX12_rest_51 ?_
        refine ev_iald (pc := 52) kK_51 dX12_rest_52 ?_
        exact ev_iret (pc := 53) rfl dX12_rest_53
      · refine ev_aload_n (pc := 33) 0 dX12_rest_33 rfl ?_
        refine gf_X12_49 (pc := 34) rfl dX12_rest_34 ?_
        refine ev_iload_n (pc := 37) 1 dX12_rest_37 rfl ?_
        refine ev_iald (pc := 38) kK_52 dX12_rest_38 ?_
        refine ev_goto (pc := 39) 53 (by decide) dX12_rest_39 ?_
        exact ev_iret (pc := 53) rfl dX12_rest_53
    · refine EvW.sub [] rfl ?_
      exact E_X12_rest_24 N d I5 L6
def f_X12_isLaw (N : Nat) (a1 : Int32) (I : PI) (L : PL) : RES := bI (f_X12_in N a1 (-1 : Int32) ((I 12 13) - 1) I L) (fun x1 I2 L3 => gd (decide (x1 &&& 1 = x1)) (some (some (.int x1), I2, L3)))
set_option maxRecDepth 100000 in
theorem ok_X12_isLaw (N d : Nat) (a1 : Int32) (I : PI) (L : PL) : MOk M_X12_isLaw (d + 1) [.ref 12, .int a1] I L (f_X12_isLaw N a1 I L) := by
  refine MOk.of (by decide +kernel) (Nat.le_of_ble_eq_true rfl) ?_
  show EvW _ _ 0 [(0, .ref 12), (1, .int a1)] [] I L _
  rw [f_X12_isLaw]
  refine ev_iload_n (pc := 0) 1 dX12_isLaw_0 rfl ?_
  refine ev_iconst (pc := 1) (-1 : Int32) k_iconst_m1 dX12_isLaw_1 ?_
  refine ev_aload_n (pc := 2) 0 dX12_isLaw_2 rfl ?_
  refine gf_X12_238 (pc := 3) rfl dX12_isLaw_3 ?_
  refine ev_iconst (pc := 6) 1 k_iconst_1 dX12_isLaw_6 ?_
  refine ev_isub (pc := 7) dX12_isLaw_7 ?_
  refine ev_callSI (pc := 8) (d := d) (As := [.int a1, .int (-1 : Int32), .int ((I 12 13) - 1)]) (st := []) cv_X12_in rfl w_790 rfl (Nat.le_of_ble_eq_true rfl) (ok_X12_in N (d) a1 (-1 : Int32) ((I 12 13) - 1) I L) dX12_isLaw_8 (fun x1 I2 L3 => ?_)
  exact ev_zret (pc := 11) rfl dX12_isLaw_11
def f_X12_partOf (N : Nat) (a1 : Int32) (a2 : Int32) (I : PI) (L : PL) : RES := nmI (a1 &&& 3) (fun x1 => (if a2 = 0 then (if x1 = 1 then some (some (.int 1), I, L) else (if x1 = 3 then some (some (.int (-1 : Int32)), I, L) else some (some (.int 0), I, L))) else (if x1 = 0 then some (some (.int 1), I, L) else (if x1 = 2 then some (some (.int (-1 : Int32)), I, L) else some (some (.int 0), I, L)))))
set_option maxRecDepth 100000 in
theorem ok_X12_partOf (N d : Nat) (a1 : Int32) (a2 : Int32) (I : PI) (L : PL) : MOk M_X12_partOf (d) [.int a1, .int a2] I L (f_X12_partOf N a1 a2 I L) := by
  refine MOk.of (by decide +kernel) (Nat.le_of_ble_eq_true rfl) ?_
  show EvW _ _ 0 [(0, .int a1), (1, .int a2)] [] I L _
  rw [f_X12_partOf]
  refine ev_iload_n (pc := 0) 0 dX12_partOf_0 rfl ?_
  refine ev_iconst (pc := 1) 3 k_iconst_3 dX12_partOf_1 ?_
  refine ev_iand (pc := 2) dX12_partOf_2 ?_
  refine ev_nmI (fun x1 => ?_)
  refine ev_istore_n (pc := 3) (lv' := [(2, .int x1), (0, .int a1), (1, .int a2)]) dX12_partOf_3 rfl rfl rfl ?_
  refine ev_iload_n (pc := 4) 2 dX12_partOf_4 rfl ?_
  refine ev_if_eq (pc := 5) 29 (by decide) dX12_partOf_5 ?_ ?_
  · refine ev_iload_n (pc := 29) 0 dX12_partOf_29 rfl ?_
    refine ev_iconst (pc := 30) 1 k_iconst_1 dX12_partOf_30 ?_
    refine ev_icmp_ne (pc := 31) 38 (by decide) dX12_partOf_31 ?_ ?_
    · refine ev_iload_n (pc := 38) 0 dX12_partOf_38 rfl ?_
      refine ev_iconst (pc := 39) 3 k_iconst_3 dX12_partOf_39 ?_
      refine ev_icmp_ne (pc := 40) 47 (by decide) dX12_partOf_40 ?_ ?_
      · refine ev_iconst (pc := 47) 0 k_iconst_0 dX12_partOf_47 ?_
        exact ev_iret (pc := 48) rfl dX12_partOf_48
      · refine ev_iconst (pc := 43) (-1 : Int32) k_iconst_m1 dX12_partOf_43 ?_
        refine ev_goto (pc := 44) 48 (by decide) dX12_partOf_44 ?_
        exact ev_iret (pc := 48) rfl dX12_partOf_48
    · refine ev_iconst (pc := 34) 1 k_iconst_1 dX12_partOf_34 ?_
      refine ev_goto (pc := 35) 48 (by decide) dX12_partOf_35 ?_
      exact ev_iret (pc := 48) rfl dX12_partOf_48
  · refine ev_iload_n (pc := 8) 0 dX12_partOf_8 rfl ?_
    refine ev_if_ne (pc := 9) 16 (by decide) dX12_partOf_9 ?_ ?_
    · refine ev_iload_n (pc := 16) 0 dX12_partOf_16 rfl ?_
      refine ev_iconst (pc := 17) 2 k_iconst_2 dX12_partOf_17 ?_
      refine ev_icmp_ne (pc := 18) 25 (by decide) dX12_partOf_18 ?_ ?_
      · refine ev_iconst (pc := 25) 0 k_iconst_0 dX12_partOf_25 ?_
        refine ev_goto (pc := 26) 48 (by decide) dX12_partOf_26 ?_
        exact ev_iret (pc := 48) rfl dX12_partOf_48
      · refine ev_iconst (pc := 21) (-1 : Int32) k_iconst_m1 dX12_partOf_21 ?_
        refine ev_goto (pc := 22) 48 (by decide) dX12_partOf_22 ?_
        exact ev_iret (pc := 48) rfl dX12_partOf_48
    · refine ev_iconst (pc := 12) 1 k_iconst_1 dX12_partOf_12 ?_
      refine ev_goto (pc := 13) 48 (by decide) dX12_partOf_13 ?_
      exact ev_iret (pc := 48) rfl dX12_partOf_48
def f_X12_bounded (N : Nat) (a1 : Int64) (I : PI) (L : PL) : RES := some (some (.int (Int64.toInt32 (jmaxJ (-1000000 : Int64) (jminJ 1000000 a1)))), I, L)
set_option maxRecDepth 100000 in
theorem ok_X12_bounded (N d : Nat) (a1 : Int64) (I : PI) (L : PL) : MOk M_X12_bounded (d + 1) [.long a1] I L (f_X12_bounded N a1 I L) := by
  refine MOk.of (by decide +kernel) (Nat.le_of_ble_eq_true rfl) ?_
  show EvW _ _ 0 [(0, .long a1)] [] I L _
  rw [f_X12_bounded]
  refine ev_ldc2 (pc := 0) w_817 dX12_bounded_0 ?_
  refine ev_ldc2 (pc := 3) w_818 dX12_bounded_3 ?_
  refine ev_lload_n (pc := 6) 0 dX12_bounded_6 rfl ?_
  refine ev_mminJ (pc := 7) (d := d) w_819 w_181 w_131 w_182 (Nat.le_of_ble_eq_true rfl) dX12_bounded_7 ?_
  refine ev_mmaxJ (pc := 10) (d := d) w_820 w_184 w_131 w_185 (Nat.le_of_ble_eq_true rfl) dX12_bounded_10 ?_
  refine ev_l2i (pc := 13) dX12_bounded_13 ?_
  exact ev_iret (pc := 14) rfl dX12_bounded_14
def F_X12_worked_156 (N : Nat) (I : PI) (L : PL) : RES := some (some (.int 1), I, L)
set_option maxRecDepth 100000 in
theorem E_X12_worked_156 (N d : Nat) (I : PI) (L : PL) : EvW M_X12_worked (d + 2) 156 [] [] I L (F_X12_worked_156 N I L) := by
  rw [F_X12_worked_156]
  refine ev_iconst (pc := 156) 1 k_iconst_1 dX12_worked_156 ?_
  refine ev_goto (pc := 157) 161 (by decide) dX12_worked_157 ?_
  exact ev_iret (pc := 161) rfl dX12_worked_161
def F_X12_worked_144 (N : Nat) (v1 : Int64) (v3 : Int64) (I : PI) (L : PL) : RES := (if (lg_cmp v1 0) = 0 then (if (lg_cmp v3 0) = 0 then some (some (.int 0), I, L) else F_X12_worked_156 N I L) else F_X12_worked_156 N I L)
set_option maxRecDepth 100000 in
theorem E_X12_worked_144 (N d : Nat) (v1 : Int64) (v3 : Int64) (I : PI) (L : PL) : EvW M_X12_worked (d + 2) 144 [(1, .long v1), (3, .long v3)] [] I L (F_X12_worked_144 N v1 v3 I L) := by
  rw [F_X12_worked_144]
  refine ev_lload_n (pc := 144) 0 dX12_worked_144 rfl ?_
  refine ev_lconst (pc := 145) 0 rfl dX12_worked_145 ?_
  refine ev_lcmp (pc := 146) dX12_worked_146 ?_
  refine ev_if_ne (pc := 147) 156 (by decide) dX12_worked_147 ?_ ?_
  · refine EvW.sub [] rfl ?_
    exact E_X12_worked_156 N d I L
  · refine ev_lload_n (pc := 150) 1 dX12_worked_150 rfl ?_
    refine ev_lconst (pc := 151) 0 rfl dX12_worked_151 ?_
    refine ev_lcmp (pc := 152) dX12_worked_152 ?_
    refine ev_if_eq (pc := 153) 160 (by decide) dX12_worked_153 ?_ ?_
    · refine ev_iconst (pc := 160) 0 k_iconst_0 dX12_worked_160 ?_
      exact ev_iret (pc := 161) rfl dX12_worked_161
    · refine EvW.sub [] rfl ?_
      exact E_X12_worked_156 N d I L
def f_X12_worked (N : Nat) (a1 : Int32) (a2 : Int64) (a3 : Int64) (I : PI) (L : PL) : RES := swT 2 [bI (f_X12_bounded N (a2 + a3) I L) (fun x1 I2 L3 => some (some (.int x1), I2, L3)), bI (f_X12_bounded N (a2 - a3) I L) (fun x4 I5 L6 => some (some (.int x4), I5, L6)), bI (f_X12_bounded N (a2 * a3) I L) (fun x7 I8 L9 => some (some (.int x7), I8, L9)), (if (lg_cmp a3 0) = 0 then some (some (.int 0), I, L) else gd (decide (¬ a3 = 0)) (bI (f_X12_bounded N (a2 / a3) I L) (fun x10 I11 L12 => some (some (.int x10), I11, L12)))), (if (lg_cmp a2 a3) = 0 then some (some (.int 1), I, L) else some (some (.int 0), I, L)), (if 0 ≤ (lg_cmp a2 a3) then some (some (.int 0), I, L) else some (some (.int 1), I, L)), (if (lg_cmp a2 a3) ≤ 0 then some (some (.int 0), I, L) else some (some (.int 1), I, L)), F_X12_worked_144 N a2 a3 I L, (if (lg_cmp a2 0) = 0 then some (some (.int 0), I, L) else (if (lg_cmp a3 0) = 0 then some (some (.int 0), I, L) else some (some (.int 1), I, L)))] (F_X12_worked_144 N a2 a3 I L) a1
set_option maxRecDepth 100000 in
theorem ok_X12_worked (N d : Nat) (a1 : Int32) (a2 : Int64) (a3 : Int64) (I : PI) (L : PL) : MOk M_X12_worked (d + 2) [.int a1, .long a2, .long a3] I L (f_X12_worked N a1 a2 a3 I L) := by
  refine MOk.of (by decide +kernel) (Nat.le_of_ble_eq_true rfl) ?_
  show EvW _ _ 0 [(0, .int a1), (1, .long a2), (3, .long a3)] [] I L _
  rw [f_X12_worked]
  refine ev_iload_n (pc := 0) 0 dX12_worked_0 rfl ?_
  refine ev_table (pc := 1) 144 (by decide) rfl dX12_worked_1 ⟨⟨52, by decide, ?_⟩, ⟨59, by decide, ?_⟩, ⟨66, by decide, ?_⟩, ⟨73, by decide, ?_⟩, ⟨90, by decide, ?_⟩, ⟨102, by decide, ?_⟩, ⟨114, by decide, ?_⟩, ⟨144, by decide, ?_⟩, ⟨126, by decide, ?_⟩, trivial⟩ ?_
  · refine ev_lload_n (pc := 52) 1 dX12_worked_52 rfl ?_
    refine ev_lload_n (pc := 53) 2 dX12_worked_53 rfl ?_
    refine ev_ladd (pc := 54) dX12_worked_54 ?_
    refine ev_callSI (pc := 55) (d := d + 1) (As := [.long (a2 + a3)]) (st := []) cv_X12_bounded rfl w_823 rfl (Nat.le_of_ble_eq_true rfl) (ok_X12_bounded N (d) (a2 + a3) I L) dX12_worked_55 (fun x1 I2 L3 => ?_)
    exact ev_iret (pc := 58) rfl dX12_worked_58
  · refine ev_lload_n (pc := 59) 1 dX12_worked_59 rfl ?_
    refine ev_lload_n (pc := 60) 2 dX12_worked_60 rfl ?_
    refine ev_lsub (pc := 61) dX12_worked_61 ?_
    refine ev_callSI (pc := 62) (d := d + 1) (As := [.long (a2 - a3)]) (st := []) cv_X12_bounded rfl w_823 rfl (Nat.le_of_ble_eq_true rfl) (ok_X12_bounded N (d) (a2 - a3) I L) dX12_worked_62 (fun x4 I5 L6 => ?_)
    exact ev_iret (pc := 65) rfl dX12_worked_65
  · refine ev_lload_n (pc := 66) 1 dX12_worked_66 rfl ?_
    refine ev_lload_n (pc := 67) 2 dX12_worked_67 rfl ?_
    refine ev_lmul (pc := 68) dX12_worked_68 ?_
    refine ev_callSI (pc := 69) (d := d + 1) (As := [.long (a2 * a3)]) (st := []) cv_X12_bounded rfl w_823 rfl (Nat.le_of_ble_eq_true rfl) (ok_X12_bounded N (d) (a2 * a3) I L) dX12_worked_69 (fun x7 I8 L9 => ?_)
    exact ev_iret (pc := 72) rfl dX12_worked_72
  · refine ev_lload_n (pc := 73) 2 dX12_worked_73 rfl ?_
    refine ev_lconst (pc := 74) 0 rfl dX12_worked_74 ?_
    refine ev_lcmp (pc := 75) dX12_worked_75 ?_
    refine ev_if_ne (pc := 76) 83 (by decide) dX12_worked_76 ?_ ?_
    · refine ev_lload_n (pc := 83) 1 dX12_worked_83 rfl ?_
      refine ev_lload_n (pc := 84) 2 dX12_worked_84 rfl ?_
      refine ev_ldiv (pc := 85) dX12_worked_85 ?_
      refine ev_callSI (pc := 86) (d := d + 1) (As := [.long (a2 / a3)]) (st := []) cv_X12_bounded rfl w_823 rfl (Nat.le_of_ble_eq_true rfl) (ok_X12_bounded N (d) (a2 / a3) I L) dX12_worked_86 (fun x10 I11 L12 => ?_)
      exact ev_iret (pc := 89) rfl dX12_worked_89
    · refine ev_iconst (pc := 79) 0 k_iconst_0 dX12_worked_79 ?_
      refine ev_goto (pc := 80) 89 (by decide) dX12_worked_80 ?_
      exact ev_iret (pc := 89) rfl dX12_worked_89
  · refine ev_lload_n (pc := 90) 1 dX12_worked_90 rfl ?_
    refine ev_lload_n (pc := 91) 2 dX12_worked_91 rfl ?_
    refine ev_lcmp (pc := 92) dX12_worked_92 ?_
    refine ev_if_ne (pc := 93) 100 (by decide) dX12_worked_93 ?_ ?_
    · refine ev_iconst (pc := 100) 0 k_iconst_0 dX12_worked_100 ?_
      exact ev_iret (pc := 101) rfl dX12_worked_101
    · refine ev_iconst (pc := 96) 1 k_iconst_1 dX12_worked_96 ?_
      refine ev_goto (pc := 97) 101 (by decide) dX12_worked_97 ?_
      exact ev_iret (pc := 101) rfl dX12_worked_101
  · refine ev_lload_n (pc := 102) 1 dX12_worked_102 rfl ?_
    refine ev_lload_n (pc := 103) 2 dX12_worked_103 rfl ?_
    refine ev_lcmp (pc := 104) dX12_worked_104 ?_
    refine ev_if_ge (pc := 105) 112 (by decide) dX12_worked_105 ?_ ?_
    · refine ev_iconst (pc := 112) 0 k_iconst_0 dX12_worked_112 ?_
      exact ev_iret (pc := 113) rfl dX12_worked_113
    · refine ev_iconst (pc := 108) 1 k_iconst_1 dX12_worked_108 ?_
      refine ev_goto (pc := 109) 113 (by decide) dX12_worked_109 ?_
      exact ev_iret (pc := 113) rfl dX12_worked_113
  · refine ev_lload_n (pc := 114) 1 dX12_worked_114 rfl ?_
    refine ev_lload_n (pc := 115) 2 dX12_worked_115 rfl ?_
    refine ev_lcmp (pc := 116) dX12_worked_116 ?_
    refine ev_if_le (pc := 117) 124 (by decide) dX12_worked_117 ?_ ?_
    · refine ev_iconst (pc := 124) 0 k_iconst_0 dX12_worked_124 ?_
      exact ev_iret (pc := 125) rfl dX12_worked_125
    · refine ev_iconst (pc := 120) 1 k_iconst_1 dX12_worked_120 ?_
      refine ev_goto (pc := 121) 125 (by decide) dX12_worked_121 ?_
      exact ev_iret (pc := 125) rfl dX12_worked_125
  · refine EvW.sub [1, 2] rfl ?_
    exact E_X12_worked_144 N d a2 a3 I L
  · refine ev_lload_n (pc := 126) 1 dX12_worked_126 rfl ?_
    refine ev_lconst (pc := 127) 0 rfl dX12_worked_127 ?_
    refine ev_lcmp (pc := 128) dX12_worked_128 ?_
    refine ev_if_eq (pc := 129) 142 (by decide) dX12_worked_129 ?_ ?_
    · refine ev_iconst (pc := 142) 0 k_iconst_0 dX12_worked_142 ?_
      exact ev_iret (pc := 143) rfl dX12_worked_143
    · refine ev_lload_n (pc := 132) 2 dX12_worked_132 rfl ?_
      refine ev_lconst (pc := 133) 0 rfl dX12_worked_133 ?_
      refine ev_lcmp (pc := 134) dX12_worked_134 ?_
      refine ev_if_eq (pc := 135) 142 (by decide) dX12_worked_135 ?_ ?_
      · refine ev_iconst (pc := 142) 0 k_iconst_0 dX12_worked_142 ?_
        exact ev_iret (pc := 143) rfl dX12_worked_143
      · refine ev_iconst (pc := 138) 1 k_iconst_1 dX12_worked_138 ?_
        refine ev_goto (pc := 139) 143 (by decide) dX12_worked_139 ?_
        exact ev_iret (pc := 143) rfl dX12_worked_143
  · refine EvW.sub [1, 2] rfl ?_
    exact E_X12_worked_144 N d a2 a3 I L
def F_X12_workOut_83 (N : Nat) (r_12 : Int32 → Int32 → Int32 → Int32 → PI → PL → RES) (v1 : Int32) (v3 : Int32) (v4 : Int32) (v5 : Int32) (s0 : Int32) (s1 : Int32) (I : PI) (L : PL) : RES := gd (inb s1 80) (nmW (uI I 48 (Int32.toNatClampNeg s1) s0) (fun I2 => r_12 v1 v3 (v4 + 1) (v5 + 1) I2 L))
set_option maxRecDepth 100000 in
theorem E_X12_workOut_83 (N d : Nat) (r_12 : Int32 → Int32 → Int32 → Int32 → PI → PL → RES) (hr_12 : ∀ (v1 : Int32) (v3 : Int32) (v4 : Int32) (v5 : Int32) (I : PI) (L : PL), EvW M_X12_workOut (d + 3) 12 [(0, .ref 12), (1, .int v1), (3, .int v3), (4, .int v4), (5, .int v5)] [] I L (r_12 v1 v3 v4 v5 I L)) (v1 : Int32) (v3 : Int32) (v4 : Int32) (v5 : Int32) (s0 : Int32) (s1 : Int32) (I : PI) (L : PL) : EvW M_X12_workOut (d + 3) 83 [(0, .ref 12), (1, .int v1), (3, .int v3), (4, .int v4), (5, .int v5)] [.int s0, .int s1, .ref 48] I L (F_X12_workOut_83 N r_12 v1 v3 v4 v5 s0 s1 I L) := by
  rw [F_X12_workOut_83]
  refine ev_iast (pc := 83) kK_48 dX12_workOut_83 ?_
  refine ev_nmW (fun I2 => ?_)
  refine ev_iinc (pc := 84) (lv' := [(4, .int (v4 + 1)), (0, .ref 12), (1, .int v1), (3, .int v3), (5, .int v5)]) dX12_workOut_84 3 rfl rfl 1 k_iconst_1 rfl ?_
  refine ev_goto (pc := 87) 165 (by decide) dX12_workOut_87 ?_
  refine ev_iinc (pc := 165) (lv' := [(5, .int (v5 + 1)), (4, .int (v4 + 1)), (0, .ref 12), (1, .int v1), (3, .int v3)]) dX12_workOut_165 4 rfl rfl 1 k_iconst_1 rfl ?_
  refine ev_goto (pc := 168) 12 (by decide) dX12_workOut_168 ?_
  refine EvW.sub [2, 3, 4, 1, 0] rfl ?_
  exact hr_12 v1 v3 (v4 + 1) (v5 + 1) I2 L
def F_X12_workOut_45 (N : Nat) (r_12 : Int32 → Int32 → Int32 → Int32 → PI → PL → RES) (v1 : Int32) (v3 : Int32) (v4 : Int32) (v5 : Int32) (I : PI) (L : PL) : RES := gd (inb v5 1820) ((if (I 40 (Int32.toNatClampNeg v5)) = 0 then gd (inb v5 1820) (F_X12_workOut_83 N r_12 v1 v3 v4 v5 (I 41 (Int32.toNatClampNeg v5)) v4 I L) else gd (inb v5 1820) (gd (inb (I 41 (Int32.toNatClampNeg v5)) 4) (F_X12_workOut_83 N r_12 v1 v3 v4 v5 (I 47 (Int32.toNatClampNeg (I 41 (Int32.toNatClampNeg v5)))) v4 I L))))
set_option maxRecDepth 100000 in
theorem E_X12_workOut_45 (N d : Nat) (r_12 : Int32 → Int32 → Int32 → Int32 → PI → PL → RES) (hr_12 : ∀ (v1 : Int32) (v3 : Int32) (v4 : Int32) (v5 : Int32) (I : PI) (L : PL), EvW M_X12_workOut (d + 3) 12 [(0, .ref 12), (1, .int v1), (3, .int v3), (4, .int v4), (5, .int v5)] [] I L (r_12 v1 v3 v4 v5 I L)) (v1 : Int32) (v3 : Int32) (v4 : Int32) (v5 : Int32) (I : PI) (L : PL) : EvW M_X12_workOut (d + 3) 45 [(0, .ref 12), (1, .int v1), (3, .int v3), (4, .int v4), (5, .int v5)] [] I L (F_X12_workOut_45 N r_12 v1 v3 v4 v5 I L) := by
  rw [F_X12_workOut_45]
  refine ev_aload_n (pc := 45) 0 dX12_workOut_45 rfl ?_
  refine gf_X12_37 (pc := 46) rfl dX12_workOut_46 ?_
  refine ev_iload (pc := 49) 3 dX12_workOut_49 rfl ?_
  refine ev_aload_n (pc := 51) 0 dX12_workOut_51 rfl ?_
  refine gf_X12_13 (pc := 52) rfl dX12_workOut_52 ?_
  refine ev_iload (pc := 55) 4 dX12_workOut_55 rfl ?_
  refine ev_iald (pc := 57) kK_40 dX12_workOut_57 ?_
  refine ev_if_ne (pc := 58) 71 (by decide) dX12_workOut_58 ?_ ?_
  · refine ev_aload_n (pc := 71) 0 dX12_workOut_71 rfl ?_
    refine gf_X12_34 (pc := 72) rfl dX12_workOut_72 ?_
    refine ev_aload_n (pc := 75) 0 dX12_workOut_75 rfl ?_
    refine gf_X12_16 (pc := 76) rfl dX12_workOut_76 ?_
    refine ev_iload (pc := 79) 4 dX12_workOut_79 rfl ?_
    refine ev_iald (pc := 81) kK_41 dX12_workOut_81 ?_
    refine ev_iald (pc := 82) kK_47 dX12_workOut_82 ?_
    exact E_X12_workOut_83 N d r_12 hr_12 v1 v3 v4 v5 (I 47 (Int32.toNatClampNeg (I 41 (Int32.toNatClampNeg v5)))) v4 I L
  · refine ev_aload_n (pc := 61) 0 dX12_workOut_61 rfl ?_
    refine gf_X12_16 (pc := 62) rfl dX12_workOut_62 ?_
    refine ev_iload (pc := 65) 4 dX12_workOut_65 rfl ?_
    refine ev_iald (pc := 67) kK_41 dX12_workOut_67 ?_
    refine ev_goto (pc := 68) 83 (by decide) dX12_workOut_68 ?_
    exact E_X12_workOut_83 N d r_12 hr_12 v1 v3 v4 v5 (I 41 (Int32.toNatClampNeg v5)) v4 I L
def F_X12_workOut_12 (N : Nat) : Nat → Int32 → Int32 → Int32 → Int32 → PI → PL → RES
  | 0, _, _, _, _, _, _ => none
  | n + 1, v1, v3, v4, v5, I, L => (if ((260 * v1) + v3) ≤ v5 then gd (inb 0 80) (some (some (.int (I 48 (Int32.toNatClampNeg 0))), I, L)) else gd (inb v5 1820) ((if (I 40 (Int32.toNatClampNeg v5)) = 0 then F_X12_workOut_45 N (F_X12_workOut_12 N n) v1 v3 v4 v5 I L else gd (inb v5 1820) ((if (I 40 (Int32.toNatClampNeg v5)) = 1 then F_X12_workOut_45 N (F_X12_workOut_12 N n) v1 v3 v4 v5 I L else gd (inb v5 1820) ((if (I 40 (Int32.toNatClampNeg v5)) = 9 then gd (inb (v4 - 1) 80) (gd (inb (v4 - 1) 80) (nmW (uI I 48 (Int32.toNatClampNeg (v4 - 1)) (1 - (I 48 (Int32.toNatClampNeg (v4 - 1))))) (fun I7 => (F_X12_workOut_12 N n) v1 v3 v4 (v5 + 1) I7 L))) else gd (inb v5 1820) (gd (inb ((v4 + (-1 : Int32)) - 1) 80) (gd (inb (v4 + (-1 : Int32)) 80) (bI (f_X12_worked N (I 40 (Int32.toNatClampNeg v5)) (Int32.toInt64 (I 48 (Int32.toNatClampNeg ((v4 + (-1 : Int32)) - 1)))) (Int32.toInt64 (I 48 (Int32.toNatClampNeg (v4 + (-1 : Int32))))) I L) (fun x3 I4 L5 => gd (inb ((v4 + (-1 : Int32)) - 1) 80) (nmW (uI I4 48 (Int32.toNatClampNeg ((v4 + (-1 : Int32)) - 1)) x3) (fun I6 => (F_X12_workOut_12 N n) v1 v3 (v4 + (-1 : Int32)) (v5 + 1) I6 L5)))))))))))))
set_option maxRecDepth 100000 in
theorem E_X12_workOut_12 (N d : Nat) : ∀ (n : Nat) (v1 : Int32) (v3 : Int32) (v4 : Int32) (v5 : Int32) (I : PI) (L : PL), EvW M_X12_workOut (d + 3) 12 [(0, .ref 12), (1, .int v1), (3, .int v3), (4, .int v4), (5, .int v5)] [] I L (F_X12_workOut_12 N n v1 v3 v4 v5 I L) := by
  intro n
  induction n with
  | zero =>
    intro v1 v3 v4 v5 I L
    exact EvW.none
  | succ n hr_12 =>
    intro v1 v3 v4 v5 I L
    rw [F_X12_workOut_12]
    refine ev_iload (pc := 12) 4 dX12_workOut_12 rfl ?_
    refine ev_sipush (pc := 14) 260 k_sipush_260 dX12_workOut_14 ?_
    refine ev_iload_n (pc := 17) 1 dX12_workOut_17 rfl ?_
    refine ev_imul (pc := 18) dX12_workOut_18 ?_
    refine ev_iload_n (pc := 19) 2 dX12_workOut_19 rfl ?_
    refine ev_iadd (pc := 20) dX12_workOut_20 ?_
    refine ev_icmp_ge (pc := 21) 171 (by decide) dX12_workOut_21 ?_ ?_
    · refine ev_aload_n (pc := 171) 0 dX12_workOut_171 rfl ?_
      refine gf_X12_37 (pc := 172) rfl dX12_workOut_172 ?_
      refine ev_iconst (pc := 175) 0 k_iconst_0 dX12_workOut_175 ?_
      refine ev_iald (pc := 176) kK_48 dX12_workOut_176 ?_
      exact ev_iret (pc := 177) rfl dX12_workOut_177
    · refine ev_aload_n (pc := 24) 0 dX12_workOut_24 rfl ?_
      refine gf_X12_13 (pc := 25) rfl dX12_workOut_25 ?_
      refine ev_iload (pc := 28) 4 dX12_workOut_28 rfl ?_
      refine ev_iald (pc := 30) kK_40 dX12_workOut_30 ?_
      refine ev_if_eq (pc := 31) 45 (by decide) dX12_workOut_31 ?_ ?_
      · exact E_X12_workOut_45 N d (F_X12_workOut_12 N n) hr_12 v1 v3 v4 v5 I L
      · refine ev_aload_n (pc := 34) 0 dX12_workOut_34 rfl ?_
        refine gf_X12_13 (pc := 35) rfl dX12_workOut_35 ?_
        refine ev_iload (pc := 38) 4 dX12_workOut_38 rfl ?_
        refine ev_iald (pc := 40) kK_40 dX12_workOut_40 ?_
        refine ev_iconst (pc := 41) 1 k_iconst_1 dX12_workOut_41 ?_
        refine ev_icmp_ne (pc := 42) 90 (by decide) dX12_workOut_42 ?_ ?_
        · refine ev_aload_n (pc := 90) 0 dX12_workOut_90 rfl ?_
          refine gf_X12_13 (pc := 91) rfl dX12_workOut_91 ?_
          refine ev_iload (pc := 94) 4 dX12_workOut_94 rfl ?_
          refine ev_iald (pc := 96) kK_40 dX12_workOut_96 ?_
          refine ev_bipush (pc := 97) 9 k_bipush_9 dX12_workOut_97 ?_
          refine ev_icmp_ne (pc := 99) 125 (by decide) dX12_workOut_99 ?_ ?_
          · refine ev_iinc (pc := 125) (lv' := [(4, .int (v4 + (-1 : Int32))), (0, .ref 12), (1, .int v1), (3, .int v3), (5, .int v5)]) dX12_workOut_125 3 rfl rfl (-1 : Int32) k_iconst_m1 rfl ?_
            refine ev_aload_n (pc := 128) 1 dX12_workOut_128 rfl ?_
            refine gf_X12_37 (pc := 129) rfl dX12_workOut_129 ?_
            refine ev_iload (pc := 132) 0 dX12_workOut_132 rfl ?_
            refine ev_iconst (pc := 134) 1 k_iconst_1 dX12_workOut_134 ?_
            refine ev_isub (pc := 135) dX12_workOut_135 ?_
            refine ev_aload_n (pc := 136) 1 dX12_workOut_136 rfl ?_
            refine gf_X12_13 (pc := 137) rfl dX12_workOut_137 ?_
            refine ev_iload (pc := 140) 4 dX12_workOut_140 rfl ?_
            refine ev_iald (pc := 142) kK_40 dX12_workOut_142 ?_
            refine ev_aload_n (pc := 143) 1 dX12_workOut_143 rfl ?_
            refine gf_X12_37 (pc := 144) rfl dX12_workOut_144 ?_
            refine ev_iload (pc := 147) 0 dX12_workOut_147 rfl ?_
            refine ev_iconst (pc := 149) 1 k_iconst_1 dX12_workOut_149 ?_
            refine ev_isub (pc := 150) dX12_workOut_150 ?_
            refine ev_iald (pc := 151) kK_48 dX12_workOut_151 ?_
            refine ev_i2l (pc := 152) dX12_workOut_152 ?_
            refine ev_aload_n (pc := 153) 1 dX12_workOut_153 rfl ?_
            refine gf_X12_37 (pc := 154) rfl dX12_workOut_154 ?_
            refine ev_iload (pc := 157) 0 dX12_workOut_157 rfl ?_
            refine ev_iald (pc := 159) kK_48 dX12_workOut_159 ?_
            refine ev_i2l (pc := 160) dX12_workOut_160 ?_
            refine ev_callSI (pc := 161) (d := d + 2) (As := [.int (I 40 (Int32.toNatClampNeg v5)), .long (Int32.toInt64 (I 48 (Int32.toNatClampNeg ((v4 + (-1 : Int32)) - 1)))), .long (Int32.toInt64 (I 48 (Int32.toNatClampNeg (v4 + (-1 : Int32)))))]) (st := [.int ((v4 + (-1 : Int32)) - 1), .ref 48]) cv_X12_worked rfl w_826 rfl (Nat.le_of_ble_eq_true rfl) (ok_X12_worked N (d) (I 40 (Int32.toNatClampNeg v5)) (Int32.toInt64 (I 48 (Int32.toNatClampNeg ((v4 + (-1 : Int32)) - 1)))) (Int32.toInt64 (I 48 (Int32.toNatClampNeg (v4 + (-1 : Int32))))) I L) dX12_workOut_161 (fun x3 I4 L5 => ?_)
            refine ev_iast (pc := 164) kK_48 dX12_workOut_164 ?_
            refine ev_nmW (fun I6 => ?_)
            refine ev_iinc (pc := 165) (lv' := [(5, .int (v5 + 1)), (4, .int (v4 + (-1 : Int32))), (0, .ref 12), (1, .int v1), (3, .int v3)]) dX12_workOut_165 4 rfl rfl 1 k_iconst_1 rfl ?_
            refine ev_goto (pc := 168) 12 (by decide) dX12_workOut_168 ?_
            refine EvW.sub [2, 3, 4, 1, 0] rfl ?_
            exact hr_12 v1 v3 (v4 + (-1 : Int32)) (v5 + 1) I6 L5
          · refine ev_aload_n (pc := 102) 0 dX12_workOut_102 rfl ?_
            refine gf_X12_37 (pc := 103) rfl dX12_workOut_103 ?_
            refine ev_iload (pc := 106) 3 dX12_workOut_106 rfl ?_
            refine ev_iconst (pc := 108) 1 k_iconst_1 dX12_workOut_108 ?_
            refine ev_isub (pc := 109) dX12_workOut_109 ?_
            refine ev_iconst (pc := 110) 1 k_iconst_1 dX12_workOut_110 ?_
            refine ev_aload_n (pc := 111) 0 dX12_workOut_111 rfl ?_
            refine gf_X12_37 (pc := 112) rfl dX12_workOut_112 ?_
            refine ev_iload (pc := 115) 3 dX12_workOut_115 rfl ?_
            refine ev_iconst (pc := 117) 1 k_iconst_1 dX12_workOut_117 ?_
            refine ev_isub (pc := 118) dX12_workOut_118 ?_
            refine ev_iald (pc := 119) kK_48 dX12_workOut_119 ?_
            refine ev_isub (pc := 120) dX12_workOut_120 ?_
            refine ev_iast (pc := 121) kK_48 dX12_workOut_121 ?_
            refine ev_nmW (fun I7 => ?_)
            refine ev_goto (pc := 122) 165 (by decide) dX12_workOut_122 ?_
            refine ev_iinc (pc := 165) (lv' := [(5, .int (v5 + 1)), (0, .ref 12), (1, .int v1), (3, .int v3), (4, .int v4)]) dX12_workOut_165 4 rfl rfl 1 k_iconst_1 rfl ?_
            refine ev_goto (pc := 168) 12 (by decide) dX12_workOut_168 ?_
            refine EvW.sub [1, 2, 3, 4, 0] rfl ?_
            exact hr_12 v1 v3 v4 (v5 + 1) I7 L
        · exact E_X12_workOut_45 N d (F_X12_workOut_12 N n) hr_12 v1 v3 v4 v5 I L
def f_X12_workOut (N : Nat) (a1 : Int32) (a2 : Int32) (a3 : Int32) (I : PI) (L : PL) : RES := nmI ((260 * a1) + a2) (fun x1 => F_X12_workOut_12 N N a1 a3 0 x1 I L)
set_option maxRecDepth 100000 in
theorem ok_X12_workOut (N d : Nat) (a1 : Int32) (a2 : Int32) (a3 : Int32) (I : PI) (L : PL) : MOk M_X12_workOut (d + 3) [.ref 12, .int a1, .int a2, .int a3] I L (f_X12_workOut N a1 a2 a3 I L) := by
  refine MOk.of (by decide +kernel) (Nat.le_of_ble_eq_true rfl) ?_
  show EvW _ _ 0 [(0, .ref 12), (1, .int a1), (2, .int a2), (3, .int a3)] [] I L _
  rw [f_X12_workOut]
  refine ev_iconst (pc := 0) 0 k_iconst_0 dX12_workOut_0 ?_
  refine ev_istore (pc := 1) (lv' := [(4, .int 0), (0, .ref 12), (1, .int a1), (2, .int a2), (3, .int a3)]) dX12_workOut_1 rfl rfl ?_
  refine ev_sipush (pc := 3) 260 k_sipush_260 dX12_workOut_3 ?_
  refine ev_iload_n (pc := 6) 2 dX12_workOut_6 rfl ?_
  refine ev_imul (pc := 7) dX12_workOut_7 ?_
  refine ev_iload_n (pc := 8) 3 dX12_workOut_8 rfl ?_
  refine ev_iadd (pc := 9) dX12_workOut_9 ?_
  refine ev_nmI (fun x1 => ?_)
  refine ev_istore (pc := 10) (lv' := [(5, .int x1), (4, .int 0), (0, .ref 12), (1, .int a1), (2, .int a2), (3, .int a3)]) dX12_workOut_10 rfl rfl ?_
  refine EvW.sub [2, 3, 5, 1, 0] rfl ?_
  exact E_X12_workOut_12 N d N a1 a3 0 x1 I L
