theorem cw_170 : Cond.classLink RL 8 RX11 ∈ WL := wl_of (List.mem_append_right _ (in_t1 (List.mem_of_getElem? (i := 22) rfl))) rfl
theorem cw_171 : Cond.classLink RL 16 RX12 ∈ WL := wl_of (List.mem_append_right _ (in_t5 (List.mem_of_getElem? (i := 185) rfl))) rfl
theorem cw_172 : Cond.instantiable RX11 12 ∈ WL := wl_of (List.mem_append_right _ (in_t1 (List.mem_of_getElem? (i := 23) rfl))) rfl
theorem cw_173 : Cond.instantiable RX12 51 ∈ WL := wl_of (List.mem_append_right _ (in_t5 (List.mem_of_getElem? (i := 186) rfl))) rfl
theorem cw_174 : Cond.methodLink RL 15 yX11_init ∈ WL := wl_of (List.mem_append_right _ (in_t1 (List.mem_of_getElem? (i := 24) rfl))) rfl
theorem cw_175 : Cond.methodLink RL 18 yX12_init ∈ WL := wl_of (List.mem_append_right _ (in_t5 (List.mem_of_getElem? (i := 187) rfl))) rfl
def I00 : PI := fun _ _ => 0
def L00 : PL := fun _ _ => 0
/-- the int cells behind PulseParts() -/
def I11 : PI := uI (fillI (fillI (fillI (uI (uI (uI (uI (uI (uI I00 13 (Int32.toNatClampNeg 0) 1) 13 (Int32.toNatClampNeg 1) 1) 13 (Int32.toNatClampNeg 2) 1) 13 (Int32.toNatClampNeg 3) 3) 13 (Int32.toNatClampNeg 4) 3) 13 (Int32.toNatClampNeg 5) 20) 23 52 (-1 : Int32)) 24 32 (-1 : Int32)) 27 8 (-1 : Int32)) 2 3 (-1 : Int32)
/-- and behind PulsePartsModel() -/
def I12 : PI := uI (uI (uI (uI (uI (uI (uI (uI (uI (uI (uI (uI (uI (uI I11 12 32 1) 12 33 1) 12 34 1) 12 35 3) 12 36 3) 12 37 20) 54 (Int32.toNatClampNeg 0) (-1 : Int32)) 54 (Int32.toNatClampNeg 1) (-1 : Int32)) 54 (Int32.toNatClampNeg 2) (-1 : Int32)) 54 (Int32.toNatClampNeg 3) (-1 : Int32)) 54 (Int32.toNatClampNeg 4) (-1 : Int32)) 54 (Int32.toNatClampNeg 5) (-1 : Int32)) 54 (Int32.toNatClampNeg 6) (-1 : Int32)) 54 (Int32.toNatClampNeg 7) (-1 : Int32)
theorem I11_o {a : Nat} (h : 28 ≤ a) : I11 a = fun _ => 0 := by
  unfold I11
  exact (uI_o (by omega)).trans ((fillI_o (by omega)).trans ((fillI_o (by omega)).trans ((fillI_o (by omega)).trans ((uI_o (by omega)).trans ((uI_o (by omega)).trans ((uI_o (by omega)).trans ((uI_o (by omega)).trans ((uI_o (by omega)).trans ((uI_o (by omega)).trans rfl)))))))))
theorem I11_12 : I11 12 = fun _ => 0 := by
  unfold I11
  exact (uI_o (by decide)).trans ((fillI_o (by decide)).trans ((fillI_o (by decide)).trans ((fillI_o (by decide)).trans ((uI_o (by decide)).trans ((uI_o (by decide)).trans ((uI_o (by decide)).trans ((uI_o (by decide)).trans ((uI_o (by decide)).trans ((uI_o (by decide)).trans rfl)))))))))
def ZNlaw : ZN := fun _ _ _ _ _ s _ below t => ∃ o, t.status = .running ∧ Ended t below o ∧ o = .returned (some (.int 1)) ∧ Framed s o t [] 601024 7293034
def YNlaw (l9 : Nat) (xs : Nat → Int32) : YTy := fun l R s ad A => YLaw l9 xs l R s ad A ∧ NW s ∧ ZT ad A s s.heap
theorem en_bridge {l9 d pc : Nat} {xs : Nat → Int32} {κ : Nat × Nat} {Ks : KS} {lv : List (Nat × Value)} {st : List Value} {I I' : PI} {L L' : PL} {o : RES} (hKs : (List.range 64).all (fun j => match K0[j]? with | some q => decide ((j, q) ∈ Ks) | none => true) = true) (hκ : κ.1 ≤ 601024 ∧ κ.2 ≤ 7293034) (ho : o = some (some (.int 1), I', L')) (h : EvG κ ZLaw (YLaw l9 xs) M_L_law d pc lv st I L o) : EvN ZNlaw (YNlaw l9 xs) M_L_law d [1000, 1001, 2000] (601024, 7293034) κ Ks pc lv st I L := by
  intro p l e R s m args below meth c H locs D cI cL ad0 ad A ls C hM hn hE Wd hl hY
  have e1 : ad 1000 = ad0 1000 := hE 1000 (by decide)
  have e2 : ad 1001 = ad0 1001 := hE 1001 (by decide)
  have e3 : ad 2000 = ad0 2000 := hE 2000 (by decide)
  obtain ⟨⟨y1, y2, y3, y4, y5, y6⟩, yN, yZ⟩ := hY
  have hmem : ∀ (j : Nat) (q : KC), K0[j]? = some q → (j, q) ∈ Ks := by
    intro j q hj
    have hlt : j < 64 := by
      have h9 := (List.getElem?_eq_some_iff.mp hj).1
      exact h9
    have h8 := List.all_eq_true.mp hKs j (List.mem_range.mpr hlt)
    rw [hj] at h8
    exact of_decide_eq_true h8
  have at9 : ∀ (k : Nat) (q : Nat × va_E), (WS cI cL ad I L)[k]? = some q → ∃ (i : Nat) (kc : KC), Ks[i]? = some (k, kc) ∧ q = (ad k, celE cI cL ad I L k kc) := by
    intro k q hk
    rw [wsF_get, Nat.zero_add] at hk
    cases hx : K0[k]? with
    | none => rw [hx] at hk; cases hk
    | some kc =>
      rw [hx] at hk
      obtain ⟨i, hi⟩ := List.getElem?_of_mem (hmem k kc hx)
      exact ⟨i, kc, hi, (Option.some.inj hk).symm⟩
  have hP : va_P D vwCl (WS cI cL ad I L) H := by
    intro k q hk
    obtain ⟨i, kc, hi, rfl⟩ := at9 k q hk
    exact Wd.2.1 i _ (wsD_get hi)
  have hD : va_D A (WS cI cL ad I L) := by
    refine ⟨fun i j x y hi hj hxy => ?_, fun k q hk => ?_⟩
    · obtain ⟨i', ki, hi', rfl⟩ := at9 i x hi
      obtain ⟨j', kj, hj', rfl⟩ := at9 j y hj
      have h7 := Wd.2.2.1.1 i' j' _ _ (wsD_get hi') (wsD_get hj') hxy
      subst h7
      rw [hi'] at hj'
      exact congrArg Prod.fst (Option.some.inj hj')
    · obtain ⟨i, kc, hi, rfl⟩ := at9 k q hk
      exact Wd.2.2.1.2 i _ (wsD_get hi)
  have hZ : ZT ad A s s.heap := by
    unfold ZT at yZ ⊢
    rw [e1, e2]
    exact yZ
  intro T hT X
  obtain ⟨t, a1, b1⟩ := h (some (.int 1)) I' L' ho p l e R s m args below meth c H locs D cI cL ad A ls C ⟨Wd.1, hP, hD, Wd.2.2.2.1, Wd.2.2.2.2, yN, hZ⟩ hl ⟨⟨y1, y2, by rw [e3]; exact y3, by rw [e3]; exact y4, by rw [e3]; exact y5, y6⟩, Nat.le_trans hκ.1 y1.1, Nat.le_trans hκ.2 y1.2⟩ T hT X
  exact ⟨t, a1, b1 rfl⟩
theorem en_istore {Z : ZN} {Y : YTy} {μ : MI} {d pc : Nat} {ids : List Nat} {M2 κ : Nat × Nat} {Ks : KS} {lv lv' : List (Nat × Value)} {st : List Value} {I : PI} {L : PL} {i : Nat} {x : Int32} (hd : decode μ.2.1 pc = .ok (.istore i, 2)) (hn9 : Nat.blt i μ.2.2.1 = true) (hv : (i, Value.int x) :: lv.filter (fun q => !(q.1 == i) && !(q.1 + 1 == i && q.2.category == 2)) = lv') (k : EvN Z Y μ d ids M2 κ Ks (pc + 2) lv' st I L) : EvN Z Y μ d ids M2 κ Ks pc lv (.int x :: st) I L := by
  intro p l e R s m args below meth c H locs D cI cL ad0 ad A ls C hM hn hE Wd hl hY
  refine lv_istore (i := i) (lv := trL ad lv) (lv' := trL ad lv') (rest := st.map (trV ad)) C.1 C.2.1 hd hl (Nat.le_of_ble_eq_true hn9) ?_ (fun ls2 hl2 => k p l e R s m args below meth c H locs D cI cL ad0 ad A ls2 C hM hn hE Wd hl2 hY)
  rw [trL_filter ad _ (fun j w => by dsimp only; rw [trV_cat]), ← hv]
  rfl
set_option maxRecDepth 100000 in
set_option maxHeartbeats 8000000 in
theorem law_prologue (N l9 : Nat) (xs : Nat → Int32) (hsgn : SignRow N l9 xs) {I' : PI} {L' : PL} (ho : F_L_law_23 N l9 xs 600 0 I12 L00 = some (some (.int 1), I', L')) : EvN ZNlaw (YNlaw l9 xs) M_L_law 300 [1000, 1001, 2000] (601024, 7293034) (0, 0) [] 0 [(0, .ref 2000)] [] I00 L00 := by
  refine en_new (ci := 11) (N := 12) (pc := 0) 11 [2, 2, 2, 2, 2, 2, 2, 2, 2, 2, 2, 2] tyX11 rfl inW11 tyX11_ok cw_170 cw_172 cw_134 (fun ad j hj => by
      match j, hj with
      | 0, _ => rfl
      | 1, _ => rfl
      | 2, _ => rfl
      | 3, _ => rfl
      | 4, _ => rfl
      | 5, _ => rfl
      | 6, _ => rfl
      | 7, _ => rfl
      | 8, _ => rfl
      | 9, _ => rfl
      | 10, _ => rfl
      | 11, _ => rfl
      | k + 12, h9 => exact absurd h9 (by omega)) (by decide +kernel) (by decide +kernel) (by decide +kernel) (by decide +kernel) (by decide +kernel) ⟨by decide +kernel, by decide +kernel⟩ dL_law_0 ?_
  refine en_dup (pc := 3) rfl dL_law_3 ?_
  refine en_ctor (d := 299) (Kc := [(11, 13, 0, [2, 2, 2, 2, 2, 2, 2, 2, 2, 2, 2, 2])]) (Kr := []) (Kc' := [(11, 13, 0, [13, 6, 9, 10, 7, 4, 11, 5, 8, 12, 3, 16]), (13, 0, 6, []), (10, 12, 0, [17, 0, 0]), (14, 0, 120, []), (3, 5, 0, [18, 19, 0]), (15, 0, 216, []), (16, 0, 9, []), (6, 8, 0, [13, 20, 0]), (17, 0, 120, []), (7, 9, 0, [21, 22, 23, 0, 0]), (18, 0, 720, []), (19, 0, 6, []), (20, 0, 120, []), (4, 6, 0, [6, 10, 24, 25, 0, 0]), (21, 0, 24, []), (22, 0, 64, []), (1, 3, 0, [6, 7, 26, 27, 0, 0, 0, 0]), (23, 0, 52, []), (24, 0, 32, []), (8, 10, 0, [16, 28, 29, 30, 31, 32, 0, 0, 0]), (25, 0, 56, []), (26, 0, 7, []), (28, 0, 256, []), (29, 1, 155, []), (27, 0, 8, []), (2, 4, 0, [33, 34, 35, 0, 0, 0, 0]), (30, 0, 1240, []), (31, 0, 31, []), (32, 0, 40, []), (5, 7, 0, [5, 16, 36, 0]), (33, 0, 16, []), (9, 11, 0, [37, 0, 1]), (34, 1, 9, []), (0, 2, 0, [38, 39, 40, 41, 0]), (35, 0, 8, []), (36, 0, 8, []), (37, 0, 8, []), (38, 0, 8, [])]) (Ks' := [(11, 13, 0, [13, 6, 9, 10, 7, 4, 11, 5, 8, 12, 3, 16]), (13, 0, 6, []), (10, 12, 0, [17, 0, 0]), (14, 0, 120, []), (3, 5, 0, [18, 19, 0]), (15, 0, 216, []), (16, 0, 9, []), (6, 8, 0, [13, 20, 0]), (17, 0, 120, []), (7, 9, 0, [21, 22, 23, 0, 0]), (18, 0, 720, []), (19, 0, 6, []), (20, 0, 120, []), (4, 6, 0, [6, 10, 24, 25, 0, 0]), (21, 0, 24, []), (22, 0, 64, []), (1, 3, 0, [6, 7, 26, 27, 0, 0, 0, 0]), (23, 0, 52, []), (24, 0, 32, []), (8, 10, 0, [16, 28, 29, 30, 31, 32, 0, 0, 0]), (25, 0, 56, []), (26, 0, 7, []), (28, 0, 256, []), (29, 1, 155, []), (27, 0, 8, []), (2, 4, 0, [33, 34, 35, 0, 0, 0, 0]), (30, 0, 1240, []), (31, 0, 31, []), (32, 0, 40, []), (5, 7, 0, [5, 16, 36, 0]), (33, 0, 16, []), (9, 11, 0, [37, 0, 1]), (34, 1, 9, []), (0, 2, 0, [38, 39, 40, 41, 0]), (35, 0, 8, []), (36, 0, 8, []), (37, 0, 8, []), (38, 0, 8, [])]) (idsC := [11]) (N2 := (37, 3395)) (I' := I11) (L' := L00) (As := []) (st := [.ref 11]) (pc := 4) [13, 10, 14, 3, 15, 16, 6, 17, 7, 18, 19, 20, 4, 21, 22, 1, 23, 24, 8, 25, 26, 28, 29, 27, 2, 30, 31, 32, 5, 33, 9, 34, 0, 35, 36, 37, 38] [0] [] (by decide +kernel) (by decide +kernel) (by decide +kernel) (by decide +kernel) (by decide +kernel) (by decide +kernel) (fun q hq => absurd hq List.not_mem_nil) (by decide +kernel) (by decide +kernel) (by decide +kernel) (by decide +kernel) (by decide +kernel) ⟨by decide +kernel, by decide +kernel⟩ (Nat.le_of_ble_eq_true rfl) ci_X11_init rfl cw_174 rfl (ct_X11_init 296 I00 L00 (rfl) (rfl) (rfl) (rfl) (rfl) (rfl) (rfl) (rfl) (rfl) (rfl) (rfl) (rfl) (rfl) (rfl) (rfl) (rfl) (rfl) (rfl) (rfl) (rfl) (rfl) (rfl) (rfl) (rfl) (rfl) (rfl) (rfl) (rfl) (rfl) (rfl) (rfl) (rfl) (rfl) (rfl) (rfl) (rfl) (rfl) (rfl) (rfl) (rfl) (rfl) (rfl) (rfl) (rfl) (rfl) (rfl) (rfl) (rfl)) dL_law_4 ?_
  refine en_astore_n (pc := 7) (lv' := [(1, .ref 11), (0, .ref 2000)]) dL_law_7 rfl rfl rfl ?_
  refine en_new (ci := 12) (N := 51) (pc := 8) 12 [0, 2, 0, 0, 0, 0, 2, 2, 2, 2, 2, 2, 2, 0, 0, 2, 2, 2, 2, 2, 2, 0, 0, 2, 0, 0, 0, 0, 0, 0, 0, 0, 0, 0, 0, 0, 0, 0, 2, 2, 2, 2, 2, 0, 0, 0, 2, 2, 2, 2, 0] tyX12 rfl inW12 tyX12_ok cw_171 cw_173 cw_168 (fun ad j hj => by
      match j, hj with
      | 0, _ => exact congrArg Value.int (congrFun (I11_12) 0).symm
      | 1, _ => rfl
      | 2, _ => exact congrArg Value.int (congrFun (I11_12) 2).symm
      | 3, _ => exact congrArg Value.int (congrFun (I11_12) 3).symm
      | 4, _ => exact congrArg Value.int (congrFun (I11_12) 4).symm
      | 5, _ => exact congrArg Value.int (congrFun (I11_12) 5).symm
      | 6, _ => rfl
      | 7, _ => rfl
      | 8, _ => rfl
      | 9, _ => rfl
      | 10, _ => rfl
      | 11, _ => rfl
      | 12, _ => rfl
      | 13, _ => exact congrArg Value.int (congrFun (I11_12) 13).symm
      | 14, _ => exact congrArg Value.int (congrFun (I11_12) 14).symm
      | 15, _ => rfl
      | 16, _ => rfl
      | 17, _ => rfl
      | 18, _ => rfl
      | 19, _ => rfl
      | 20, _ => rfl
      | 21, _ => exact congrArg Value.int (congrFun (I11_12) 21).symm
      | 22, _ => exact congrArg Value.int (congrFun (I11_12) 22).symm
      | 23, _ => rfl
      | 24, _ => exact congrArg Value.int (congrFun (I11_12) 24).symm
      | 25, _ => exact congrArg Value.int (congrFun (I11_12) 25).symm
      | 26, _ => exact congrArg Value.int (congrFun (I11_12) 26).symm
      | 27, _ => exact congrArg Value.int (congrFun (I11_12) 27).symm
      | 28, _ => exact congrArg Value.int (congrFun (I11_12) 28).symm
      | 29, _ => exact congrArg Value.int (congrFun (I11_12) 29).symm
      | 30, _ => exact congrArg Value.int (congrFun (I11_12) 30).symm
      | 31, _ => exact congrArg Value.int (congrFun (I11_12) 31).symm
      | 32, _ => exact congrArg Value.int (congrFun (I11_12) 32).symm
      | 33, _ => exact congrArg Value.int (congrFun (I11_12) 33).symm
      | 34, _ => exact congrArg Value.int (congrFun (I11_12) 34).symm
      | 35, _ => exact congrArg Value.int (congrFun (I11_12) 35).symm
      | 36, _ => exact congrArg Value.int (congrFun (I11_12) 36).symm
      | 37, _ => exact congrArg Value.int (congrFun (I11_12) 37).symm
      | 38, _ => rfl
      | 39, _ => rfl
      | 40, _ => rfl
      | 41, _ => rfl
      | 42, _ => rfl
      | 43, _ => exact congrArg Value.int (congrFun (I11_12) 43).symm
      | 44, _ => exact congrArg Value.int (congrFun (I11_12) 44).symm
      | 45, _ => exact congrArg Value.int (congrFun (I11_12) 45).symm
      | 46, _ => rfl
      | 47, _ => rfl
      | 48, _ => rfl
      | 49, _ => rfl
      | 50, _ => exact congrArg Value.int (congrFun (I11_12) 50).symm
      | k + 51, h9 => exact absurd h9 (by omega)) (by decide +kernel) (by decide +kernel) (by decide +kernel) (by decide +kernel) (by decide +kernel) ⟨by decide +kernel, by decide +kernel⟩ dL_law_8 ?_
  refine en_dup (pc := 11) rfl dL_law_11 ?_
  refine en_ctor (d := 299) (Kc := [(12, 14, 0, [0, 2, 0, 0, 0, 0, 2, 2, 2, 2, 2, 2, 2, 0, 0, 2, 2, 2, 2, 2, 2, 0, 0, 2, 0, 0, 0, 0, 0, 0, 0, 0, 0, 0, 0, 0, 0, 0, 2, 2, 2, 2, 2, 0, 0, 0, 2, 2, 2, 2, 0])]) (Kr := [(11, 13, 0, [13, 6, 9, 10, 7, 4, 11, 5, 8, 12, 3, 16]), (13, 0, 6, []), (10, 12, 0, [17, 0, 0]), (14, 0, 120, []), (3, 5, 0, [18, 19, 0]), (15, 0, 216, []), (16, 0, 9, []), (6, 8, 0, [13, 20, 0]), (17, 0, 120, []), (7, 9, 0, [21, 22, 23, 0, 0]), (18, 0, 720, []), (19, 0, 6, []), (20, 0, 120, []), (4, 6, 0, [6, 10, 24, 25, 0, 0]), (21, 0, 24, []), (22, 0, 64, []), (1, 3, 0, [6, 7, 26, 27, 0, 0, 0, 0]), (23, 0, 52, []), (24, 0, 32, []), (8, 10, 0, [16, 28, 29, 30, 31, 32, 0, 0, 0]), (25, 0, 56, []), (26, 0, 7, []), (28, 0, 256, []), (29, 1, 155, []), (27, 0, 8, []), (2, 4, 0, [33, 34, 35, 0, 0, 0, 0]), (30, 0, 1240, []), (31, 0, 31, []), (32, 0, 40, []), (5, 7, 0, [5, 16, 36, 0]), (33, 0, 16, []), (9, 11, 0, [37, 0, 1]), (34, 1, 9, []), (0, 2, 0, [38, 39, 40, 41, 0]), (35, 0, 8, []), (36, 0, 8, []), (37, 0, 8, []), (38, 0, 8, [])]) (Kc' := [(12, 14, 0, [0, 42, 0, 0, 0, 0, 43, 44, 45, 46, 47, 48, 49, 0, 0, 50, 51, 52, 53, 54, 55, 0, 0, 56, 0, 0, 0, 0, 0, 0, 0, 0, 0, 0, 0, 0, 0, 0, 57, 58, 59, 60, 61, 0, 0, 0, 62, 63, 64, 65, 0]), (39, 0, 120, []), (40, 0, 1820, []), (41, 0, 1820, []), (42, 0, 7, []), (43, 0, 7, []), (44, 0, 630, []), (45, 0, 630, []), (46, 0, 630, []), (47, 0, 4, []), (48, 0, 80, []), (49, 0, 216, []), (50, 0, 9, []), (51, 0, 56, []), (52, 0, 7, []), (53, 0, 24, []), (54, 0, 8, []), (55, 0, 41, []), (56, 0, 1230, []), (57, 0, 1230, []), (58, 0, 41, []), (59, 0, 16, []), (60, 0, 8, []), (61, 0, 8, []), (62, 0, 8, [])]) (Ks' := [(11, 13, 0, [13, 6, 9, 10, 7, 4, 11, 5, 8, 12, 3, 16]), (13, 0, 6, []), (10, 12, 0, [17, 0, 0]), (14, 0, 120, []), (3, 5, 0, [18, 19, 0]), (15, 0, 216, []), (16, 0, 9, []), (6, 8, 0, [13, 20, 0]), (17, 0, 120, []), (7, 9, 0, [21, 22, 23, 0, 0]), (18, 0, 720, []), (19, 0, 6, []), (20, 0, 120, []), (4, 6, 0, [6, 10, 24, 25, 0, 0]), (21, 0, 24, []), (22, 0, 64, []), (1, 3, 0, [6, 7, 26, 27, 0, 0, 0, 0]), (23, 0, 52, []), (24, 0, 32, []), (8, 10, 0, [16, 28, 29, 30, 31, 32, 0, 0, 0]), (25, 0, 56, []), (26, 0, 7, []), (28, 0, 256, []), (29, 1, 155, []), (27, 0, 8, []), (2, 4, 0, [33, 34, 35, 0, 0, 0, 0]), (30, 0, 1240, []), (31, 0, 31, []), (32, 0, 40, []), (5, 7, 0, [5, 16, 36, 0]), (33, 0, 16, []), (9, 11, 0, [37, 0, 1]), (34, 1, 9, []), (0, 2, 0, [38, 39, 40, 41, 0]), (35, 0, 8, []), (36, 0, 8, []), (37, 0, 8, []), (38, 0, 8, []), (12, 14, 0, [0, 42, 0, 0, 0, 0, 43, 44, 45, 46, 47, 48, 49, 0, 0, 50, 51, 52, 53, 54, 55, 0, 0, 56, 0, 0, 0, 0, 0, 0, 0, 0, 0, 0, 0, 0, 0, 0, 57, 58, 59, 60, 61, 0, 0, 0, 62, 63, 64, 65, 0]), (39, 0, 120, []), (40, 0, 1820, []), (41, 0, 1820, []), (42, 0, 7, []), (43, 0, 7, []), (44, 0, 630, []), (45, 0, 630, []), (46, 0, 630, []), (47, 0, 4, []), (48, 0, 80, []), (49, 0, 216, []), (50, 0, 9, []), (51, 0, 56, []), (52, 0, 7, []), (53, 0, 24, []), (54, 0, 8, []), (55, 0, 41, []), (56, 0, 1230, []), (57, 0, 1230, []), (58, 0, 41, []), (59, 0, 16, []), (60, 0, 8, []), (61, 0, 8, []), (62, 0, 8, [])]) (idsC := [12]) (N2 := (24, 8650)) (I' := I12) (L' := L00) (As := []) (st := [.ref 12]) (pc := 12) [39, 40, 41, 42, 43, 44, 45, 46, 47, 48, 49, 50, 51, 52, 53, 54, 55, 56, 57, 58, 59, 60, 61, 62] [38] [0, 1, 2, 3, 4, 5, 6, 7, 8, 9, 10, 11, 12, 13, 14, 15, 16, 17, 18, 19, 20, 21, 22, 23, 24, 25, 26, 27, 28, 29, 30, 31, 32, 33, 34, 35, 36, 37] (by decide +kernel) (by decide +kernel) (by decide +kernel) (by decide +kernel) (by decide +kernel) (by decide +kernel) (fun q hq => by
      have h9 := (show ∀ q ∈ ([(11, 13, 0, [13, 6, 9, 10, 7, 4, 11, 5, 8, 12, 3, 16]), (13, 0, 6, []), (10, 12, 0, [17, 0, 0]), (14, 0, 120, []), (3, 5, 0, [18, 19, 0]), (15, 0, 216, []), (16, 0, 9, []), (6, 8, 0, [13, 20, 0]), (17, 0, 120, []), (7, 9, 0, [21, 22, 23, 0, 0]), (18, 0, 720, []), (19, 0, 6, []), (20, 0, 120, []), (4, 6, 0, [6, 10, 24, 25, 0, 0]), (21, 0, 24, []), (22, 0, 64, []), (1, 3, 0, [6, 7, 26, 27, 0, 0, 0, 0]), (23, 0, 52, []), (24, 0, 32, []), (8, 10, 0, [16, 28, 29, 30, 31, 32, 0, 0, 0]), (25, 0, 56, []), (26, 0, 7, []), (28, 0, 256, []), (29, 1, 155, []), (27, 0, 8, []), (2, 4, 0, [33, 34, 35, 0, 0, 0, 0]), (30, 0, 1240, []), (31, 0, 31, []), (32, 0, 40, []), (5, 7, 0, [5, 16, 36, 0]), (33, 0, 16, []), (9, 11, 0, [37, 0, 1]), (34, 1, 9, []), (0, 2, 0, [38, 39, 40, 41, 0]), (35, 0, 8, []), (36, 0, 8, []), (37, 0, 8, []), (38, 0, 8, [])] : KS), q.1 ≠ 12 ∧ q.1 ≠ 54 by decide +kernel) q hq
      exact ⟨((((((((((((((uI_o h9.2)).trans (uI_o h9.2)).trans (uI_o h9.2)).trans (uI_o h9.2)).trans (uI_o h9.2)).trans (uI_o h9.2)).trans (uI_o h9.2)).trans (uI_o h9.2)).trans (uI_o h9.1)).trans (uI_o h9.1)).trans (uI_o h9.1)).trans (uI_o h9.1)).trans (uI_o h9.1)).trans (uI_o h9.1), rfl⟩) (by decide +kernel) (by decide +kernel) (by decide +kernel) (by decide +kernel) (by decide +kernel) ⟨by decide +kernel, by decide +kernel⟩ (Nat.le_of_ble_eq_true rfl) ci_X12_init rfl cw_175 rfl (ct_X12_init 298 I11 L00 (I11_o (by decide)) (I11_o (by decide)) (I11_o (by decide)) (I11_o (by decide)) (I11_o (by decide)) (I11_o (by decide)) (I11_o (by decide)) (I11_o (by decide)) (I11_o (by decide)) (I11_o (by decide)) (I11_o (by decide)) (I11_o (by decide)) (I11_o (by decide)) (I11_o (by decide)) (I11_o (by decide)) (I11_o (by decide)) (I11_o (by decide)) (I11_o (by decide)) (I11_o (by decide)) (I11_o (by decide)) (I11_o (by decide)) (I11_o (by decide)) (I11_o (by decide)) (I11_o (by decide))) dL_law_12 ?_
  refine en_astore_n (pc := 15) (lv' := [(2, .ref 12), (1, .ref 11), (0, .ref 2000)]) dL_law_15 rfl rfl rfl ?_
  refine en_iconst (pc := 16) 1 (by decide +kernel) dL_law_16 ?_
  refine en_newaL (pc := 17) 63 1 rfl cw_53 (by decide +kernel) (by decide +kernel) (by decide +kernel) (by decide +kernel) (by decide +kernel) (by decide +kernel) (by decide +kernel) ⟨by decide +kernel, by decide +kernel⟩ dL_law_17 ?_
  refine en_astore_n (pc := 19) (lv' := [(3, .ref 63), (2, .ref 12), (1, .ref 11), (0, .ref 2000)]) dL_law_19 rfl rfl rfl ?_
  refine en_iconst (pc := 20) 0 (by decide +kernel) dL_law_20 ?_
  refine en_istore (pc := 21) (lv' := [(4, .int 0), (3, .ref 63), (2, .ref 12), (1, .ref 11), (0, .ref 2000)]) dL_law_21 rfl rfl ?_
  refine EvN.sub [4, 3, 2, 1, 0] rfl ?_
  exact en_bridge (by decide +kernel) ⟨by decide +kernel, by decide +kernel⟩ ho (E_L_law_23 N 90 l9 xs hsgn 600 _ 0 I12 L00 (by decide +kernel) (by decide +kernel))
set_option maxRecDepth 100000 in
set_option maxHeartbeats 8000000 in
/-- whole_start, out of the pure statement on the law's function and of the row of its sign() -/
theorem whole_start_open (N : Nat) (hpure : ∀ (l9 : Nat) (xs : Nat → Int32), l9 ≤ 3584 → ∃ (I' : PI) (L' : PL), F_L_law_23 N l9 xs 600 0 I12 L00 = some (some (.int 1), I', L')) (hsgn : ∀ (l9 : Nat) (xs : Nat → Int32), SignRow N l9 xs)
    {p : Program} {e : Env} {s : State} {m : MethodId} {below : List Frame} {meth : Method} {c : Code} (l : Launch) (hflags : l.flags = flags0) {b L : Nat} {xs : Nat → Int32} (hL : L ≤ 3584) (hx : p.tables.exec = Jvm.exec) (hb : c.code = code) (hr : meth.sig.returnType = ret) (hml : c.maxLocals = 7) (hown : s.vm.findClass RL = some m.cls) (hts : ∀ w ∈ lw_tbl, w.before #[Value.ref b] s = true) (hX : va_X b L xs s s.heap) (hbl : b < s.heap.size) (hlocks : meth.locks = false) (hgv : (Jvm.Cond.and given_1 narrow_1).before #[Value.ref b] s = true) (hmn : meth.name = "law") :
    W p l e room_1 s m #[Value.ref b] below meth c s.heap [] 0 0 (ZNlaw (fun _ => 0) (fun _ => 0, fun _ _ => 0) 0 0 (fun _ => True) s #[] below) (entryFrame m ([Value.ref b] : List Value).toArray 7) := by
  obtain ⟨I', L', ho⟩ := hpure L xs hL
  have hw : ∀ w ∈ WL, w.before #[Value.ref b] s = true := fun w h => hts w (List.mem_filter.mp h).1
  have hs := flat_of_before _ hgv
  have hA0 : ∀ q : Nat, q < s.heap.size → ¬ s.heap.size ≤ q := fun q h => Nat.not_le.mpr h
  obtain ⟨c0, i0, hKn0⟩ := u_known (C := RX0) (T := TX0) (N := 5) (n := 5) hw inW0 (hw _ cw_130)
  obtain ⟨c1, i1, hKn1⟩ := u_known (C := RX1) (T := TX1) (N := 8) (n := 8) hw inW1 (hw _ cw_110)
  obtain ⟨c2, i2, hKn2⟩ := u_known (C := RX2) (T := TX2) (N := 7) (n := 7) hw inW2 (hw _ cw_118)
  obtain ⟨c3, i3, hKn3⟩ := u_known (C := RX3) (T := TX3) (N := 3) (n := 3) hw inW3 (hw _ cw_94)
  obtain ⟨c4, i4, hKn4⟩ := u_known (C := RX4) (T := TX4) (N := 6) (n := 6) hw inW4 (hw _ cw_106)
  obtain ⟨c5, i5, hKn5⟩ := u_known (C := RX5) (T := TX5) (N := 4) (n := 4) hw inW5 (hw _ cw_122)
  obtain ⟨c6, i6, hKn6⟩ := u_known (C := RX6) (T := TX6) (N := 3) (n := 3) hw inW6 (hw _ cw_98)
  obtain ⟨c7, i7, hKn7⟩ := u_known (C := RX7) (T := TX7) (N := 5) (n := 5) hw inW7 (hw _ cw_102)
  obtain ⟨c8, i8, hKn8⟩ := u_known (C := RX8) (T := TX8) (N := 9) (n := 9) hw inW8 (hw _ cw_114)
  obtain ⟨c9, i9, hKn9⟩ := u_known (C := RX9) (T := TX9) (N := 3) (n := 3) hw inW9 (hw _ cw_126)
  obtain ⟨c10, i10, hKn10⟩ := u_known (C := RX10) (T := TX10) (N := 3) (n := 3) hw inW10 (hw _ cw_90)
  obtain ⟨c11, i11, hKn11⟩ := u_known (C := RX11) (T := TX11) (N := 12) (n := 12) hw inW11 (hw _ cw_172)
  obtain ⟨c12, i12, hKn12⟩ := u_known (C := RX12) (T := TX12) (N := 51) (n := 51) hw inW12 (hw _ cw_173)
  have hKc : ∀ (k : Nat) (q : vw_C), vwCl[k]? = some q → u_Kn s q.1 q.2.1 q.2.2 ([c0, c1, c2, c3, c4, c5, c6, c7, c8, c9, c10, c11, c12].getD k 0) (([i0, i1, i2, i3, i4, i5, i6, i7, i8, i9, i10, i11, i12] : List (Nat → Nat)).getD k (fun _ => 0)) := by
    intro k q hq
    match k, hq with
    | 0, hq => cases hq; exact hKn0
    | 1, hq => cases hq; exact hKn1
    | 2, hq => cases hq; exact hKn2
    | 3, hq => cases hq; exact hKn3
    | 4, hq => cases hq; exact hKn4
    | 5, hq => cases hq; exact hKn5
    | 6, hq => cases hq; exact hKn6
    | 7, hq => cases hq; exact hKn7
    | 8, hq => cases hq; exact hKn8
    | 9, hq => cases hq; exact hKn9
    | 10, hq => cases hq; exact hKn10
    | 11, hq => cases hq; exact hKn11
    | 12, hq => cases hq; exact hKn12
    | k + 13, hq => simp [vwCl] at hq
  obtain ⟨cI, kI, pI, g1, g2, g3⟩ := Cond.arrayClass_spec (hw _ cw_6)
  obtain ⟨cL, kL, pL, g4, g5, g6⟩ := Cond.arrayClass_spec (hw _ cw_53)
  have hK : va_K (fun k => [c0, c1, c2, c3, c4, c5, c6, c7, c8, c9, c10, c11, c12].getD k 0, fun k => ([i0, i1, i2, i3, i4, i5, i6, i7, i8, i9, i10, i11, i12] : List (Nat → Nat)).getD k (fun _ => 0)) vwCl (TYS cI cL) s := by
    refine ⟨hKc, fun k q hk => ?_⟩
    match k, hk with
    | 0, hk => cases hk; exact ⟨fun n z => ⟨fun k h => (by cases h), kI, g2, pI, g3⟩, g1⟩
    | 1, hk => cases hk; exact ⟨fun n z => ⟨fun k h => (by cases h), kL, g5, pL, g6⟩, g4⟩
    | k + 2, hk => simp [TYS] at hk
  obtain ⟨t1, z1, z2⟩ := va_Tof (tm := .static "PulseParts" "LEAST_SETTINGS" "[I") (ty := .int) (N := 6) (f := fLeast) (A := fun q => s.heap.size ≤ q) (by decide) (hs _ (by decide +kernel)) (va_eqt (z := 6) (hs (Cond.eq (.length (.static "PulseParts" "LEAST_SETTINGS" "[I")) (.int 6)) (by decide +kernel))) (fun j hj => by
      match j, hj with
      | 0, _ => exact va_eqt (z := 0) (hs (Cond.eq (.elem (.static "PulseParts" "LEAST_SETTINGS" "[I") (.int 0)) (.int 0)) (by decide +kernel))
      | 1, _ => exact va_eqt (z := 1) (hs (Cond.eq (.elem (.static "PulseParts" "LEAST_SETTINGS" "[I") (.int 1)) (.int 1)) (by decide +kernel))
      | 2, _ => exact va_eqt (z := 0) (hs (Cond.eq (.elem (.static "PulseParts" "LEAST_SETTINGS" "[I") (.int 2)) (.int 0)) (by decide +kernel))
      | 3, _ => exact va_eqt (z := 1) (hs (Cond.eq (.elem (.static "PulseParts" "LEAST_SETTINGS" "[I") (.int 3)) (.int 1)) (by decide +kernel))
      | 4, _ => exact va_eqt (z := 1) (hs (Cond.eq (.elem (.static "PulseParts" "LEAST_SETTINGS" "[I") (.int 4)) (.int 1)) (by decide +kernel))
      | 5, _ => exact va_eqt (z := 0) (hs (Cond.eq (.elem (.static "PulseParts" "LEAST_SETTINGS" "[I") (.int 5)) (.int 0)) (by decide +kernel))
      | k + 6, h9 => exact absurd h9 (by omega)) hA0
  obtain ⟨t2, z3, z4⟩ := va_Tof (tm := .static "PulseParts" "GREATEST_SETTINGS" "[I") (ty := .int) (N := 6) (f := fGreat) (A := fun q => s.heap.size ≤ q) (by decide) (hs _ (by decide +kernel)) (va_eqt (z := 6) (hs (Cond.eq (.length (.static "PulseParts" "GREATEST_SETTINGS" "[I")) (.int 6)) (by decide +kernel))) (fun j hj => by
      match j, hj with
      | 0, _ => exact va_eqt (z := 9) (hs (Cond.eq (.elem (.static "PulseParts" "GREATEST_SETTINGS" "[I") (.int 0)) (.int 9)) (by decide +kernel))
      | 1, _ => exact va_eqt (z := 8) (hs (Cond.eq (.elem (.static "PulseParts" "GREATEST_SETTINGS" "[I") (.int 1)) (.int 8)) (by decide +kernel))
      | 2, _ => exact va_eqt (z := 3) (hs (Cond.eq (.elem (.static "PulseParts" "GREATEST_SETTINGS" "[I") (.int 2)) (.int 3)) (by decide +kernel))
      | 3, _ => exact va_eqt (z := 8) (hs (Cond.eq (.elem (.static "PulseParts" "GREATEST_SETTINGS" "[I") (.int 3)) (.int 8)) (by decide +kernel))
      | 4, _ => exact va_eqt (z := 16) (hs (Cond.eq (.elem (.static "PulseParts" "GREATEST_SETTINGS" "[I") (.int 4)) (.int 16)) (by decide +kernel))
      | 5, _ => exact va_eqt (z := 99) (hs (Cond.eq (.elem (.static "PulseParts" "GREATEST_SETTINGS" "[I") (.int 5)) (.int 99)) (by decide +kernel))
      | k + 6, h9 => exact absurd h9 (by omega)) hA0
  have iniP : (Cond.initialized "PulseParts").before #[Value.ref b] s = true := hw _ cw_134
  have s1 := va_Zof (A := fun q => s.heap.size ≤ q) (hts (Cond.laysStatic "PulseParts" "LEAST_SETTINGS" "[I") (by decide +kernel)) iniP z1 hA0
  have s2 := va_Zof (A := fun q => s.heap.size ≤ q) (hts (Cond.laysStatic "PulseParts" "GREATEST_SETTINGS" "[I") (by decide +kernel)) iniP z3 hA0
  have iniT : (Cond.initialized "java/lang/Throwable").before #[Value.ref b] s = true := hts _ (by decide +kernel)
  have u1 : vx_Zq Bundle.tN "UNASSIGNED_STACK" Bundle.steD (fun q => s.heap.size ≤ q) s s.heap := vx_Zqof (hts (Cond.laysStatic Bundle.tN "UNASSIGNED_STACK" Bundle.steD) (by decide +kernel)) iniT (hs _ (by decide +kernel)) hA0
  have u2 : vx_Zq Bundle.tN "SUPPRESSED_SENTINEL" Bundle.listD (fun q => s.heap.size ≤ q) s s.heap := vx_Zqof (hts (Cond.laysStatic Bundle.tN "SUPPRESSED_SENTINEL" Bundle.listD) (by decide +kernel)) iniT (hs _ (by decide +kernel)) hA0
  have hx0 : ∀ w ∈ vx_at0 RX11 155 "java/util/NoSuchElementException" ["java/lang/RuntimeException", "java/lang/Exception"], w ∈ lw_tbl ∧ w.onTables = true := by decide +kernel
  have hat : ∀ (args : Array Value), ∀ w ∈ vx_at0 RX11 155 "java/util/NoSuchElementException" ["java/lang/RuntimeException", "java/lang/Exception"], w.before args s = true := fun args w h => va_tabs (hx0 w h).2 rfl (hts w (hx0 w h).1)
  have hst : l.stackTraces = false := by
    unfold Launch.stackTraces
    rw [hflags]
    decide +kernel
  have hN : NW s := by
    have hall : (∀ q ∈ nestF, Cond.fieldLinkNest q.1 q.2.1 q.2.2.1 q.2.2.2.1 q.2.2.2.2.1 q.2.2.2.2.2 ∈ lw_tbl) ∧ nestM ∈ lw_tbl := by decide +kernel
    exact ⟨fun q hq => va_Nw.of rfl (hts _ (hall.1 q hq)), va_Nw.of rfl (hts _ hall.2)⟩
  have hl := lv_entry ([.ref b]) (n := 7) (Nat.le_of_ble_eq_true rfl)
  rw [lg_entry_eq]
  have hpro := law_prologue N L xs (hsgn L xs) ho p l e room_1 s m #[Value.ref b] below meth c s.heap [] (fun k => [c0, c1, c2, c3, c4, c5, c6, c7, c8, c9, c10, c11, c12].getD k 0, fun k => ([i0, i1, i2, i3, i4, i5, i6, i7, i8, i9, i10, i11, i12] : List (Nat → Nat)).getD k (fun _ => 0)) cI cL (fun q => if q = 2000 then b else if q = 1000 then t1 else t2) (fun q => if q = 2000 then b else if q = 1000 then t1 else t2) (fun q => s.heap.size ≤ q) _ ⟨hx, hb, hml, hr, hw, hown, hlocks, by decide +kernel, by decide +kernel⟩ ⟨by decide +kernel, by decide +kernel⟩ hmn (fun _ _ => rfl) ⟨hK, fun k q h => by simp [wsD] at h, ⟨fun i j x y h => by simp [wsD] at h, fun k q h => by simp [wsD] at h⟩, va_S.rf, fun _ h => h⟩ hl ⟨⟨⟨by decide +kernel, by decide +kernel⟩, fun _ h => h, hX, hbl, Nat.not_le.mpr hbl, hst, u1, u2, hat⟩, hN, s1, s2, z2, z4⟩
  exact hpro
