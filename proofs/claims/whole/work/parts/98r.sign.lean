/-! the class's sign() may throw; the law's own sign() catches it -/
def XE : String := "java/util/NoSuchElementException"
def ATW : List Cond := vx_at0 RX11 155 "java/util/NoSuchElementException" ["java/lang/RuntimeException", "java/lang/Exception"]
def wkX (w : Cond) : Bool := goodWord w || (match w with
  | .declares _ => true
  | .castable _ _ => true
  | _ => false)
theorem wkX_warm {w : Cond} {s U : State} {args a' : Array Value} (h : wkX w = true) (hW : s.WarmedH U.vm) (hb : w.before args s = true) : w.before a' U = true := by
  unfold wkX at h
  rw [Bool.or_eq_true] at h
  rcases h with h | h
  · exact word_at hW (good_of_word h) hb
  · split at h
    · rename_i x
      have h1 : va_Nw (.declares x) s := va_tabs rfl rfl hb
      exact va_tabs rfl rfl (va_Nw.warmD hW h1)
    · rename_i x y
      have h1 : va_Nw (.castable x y) s := va_tabs rfl rfl hb
      exact va_tabs rfl rfl (va_Nw.warmC hW h1)
    · cases h
theorem atw_ok : ATW.all wkX = true := by decide +kernel
theorem atw_ot : (Cond.classLink RX11 153 "java/util/NoSuchElementException" :: Cond.initialized "java/util/NoSuchElementException" :: ATW).all vx_ot = true := by decide +kernel
theorem atw_cast : Cond.castable "java/util/NoSuchElementException" "java/util/NoSuchElementException" ∈ ATW := by decide +kernel
def hatS (s : State) : Prop := ∀ (args : Array Value), ∀ w ∈ ATW, w.before args s = true
theorem hatS.warm {s U : State} (hW : s.WarmedH U.vm) (h : hatS s) : hatS U := fun _ w hw => wkX_warm (List.all_eq_true.mp atw_ok w hw) hW (h #[] w hw)
theorem xw_1 : Cond.initialized "java/util/NoSuchElementException" ∈ WL := wl_of (List.mem_append_right _ (in_t1 (List.mem_of_getElem? (i := 19) rfl))) rfl
theorem xw_2 : Cond.methodLink RL 38 yL_sign ∈ WL := wl_of (List.mem_append_right _ (in_t5 (List.mem_of_getElem? (i := 116) rfl))) rfl
theorem xw_3 : Cond.static yL_sign ∈ WL := wl_of (List.mem_append_right _ (in_t5 (List.mem_of_getElem? (i := 117) rfl))) rfl
theorem xw_4 : Cond.codeWith yL_sign cL_sign 5 (some .int) [(0, 10, 13, 13)] ∈ WL := wl_of (List.mem_append_right _ (in_t5 (List.mem_of_getElem? (i := 118) rfl))) rfl
theorem xw_5 : Cond.classLink RL 13 "java/util/NoSuchElementException" ∈ WL := wl_of (List.mem_append_right _ (in_t5 (List.mem_of_getElem? (i := 119) rfl))) rfl
theorem xw_6 : Cond.methodLink RL 7 yX11_sign ∈ WL := wl_of (List.mem_append_right _ (in_t5 (List.mem_of_getElem? (i := 120) rfl))) rfl
theorem xw_7 : Cond.instanceMethod yX11_sign ∈ WL := wl_of (List.mem_append_right _ (in_t5 (List.mem_of_getElem? (i := 121) rfl))) rfl
theorem xw_8 : Cond.selects yX11_sign.cls yX11_sign yX11_sign ∈ WL := wl_of (List.mem_append_right _ (in_t5 (List.mem_of_getElem? (i := 122) rfl))) rfl
theorem xw_9 : Cond.code M_X11_sign.1 M_X11_sign.2.1 M_X11_sign.2.2.1 M_X11_sign.2.2.2 ∈ WL := wl_of (List.mem_append_right _ (in_t5 (List.mem_of_getElem? (i := 123) rfl))) rfl
theorem xw_10 : Cond.classLink RX11 153 "java/util/NoSuchElementException" ∈ WL := wl_of (List.mem_append_right _ (in_t5 (List.mem_of_getElem? (i := 124) rfl))) rfl
theorem xw_11 : Cond.initialized RL ∈ WL := wl_of (List.mem_append_right _ (in_t1 (List.mem_of_getElem? (i := 0) rfl))) rfl
theorem cv_X11_sign : CalV M_X11_sign 2 11 := ⟨xw_7, xw_8, w_16, xw_9, by decide +kernel, by decide, ⟨TX11, 12, rfl⟩, ⟨_, _, rfl⟩⟩
abbrev M_L_sign : MI := (yL_sign, cL_sign, 5, some .int)
/-- a frame's judgement that knows of its code, too -/
def EvC (κ : Nat × Nat) (Z : ZTy) (Y : YTy) (Γ : Code → Prop) (μ : MI) (d pc : Nat) (lv : List (Nat × Value)) (st : List Value) (I : PI) (L : PL) (o : RES) : Prop :=
  ∀ (v : Option Value) (I' : PI) (L' : PL), o = some (v, I', L') → ∀ (p : Program) (l : Launch) (e : Env) (R : Room) (s : State) (m : MethodId) (args : Array Value) (below : List Frame) (meth : Method) (c : Code) (H : Heap) (locs : List Loc) (D : va_G) (cI cL : ClassId) (ad : Nat → Nat) (A : Nat → Prop) (ls : Array Slot),
    Ctx μ d p R s m args meth c → Wld D cI cL ad A I L s H locs → lv_has ls μ.2.2.1 (trL ad lv) → ((Y l R s ad A ∧ Γ c) ∧ κ.1 ≤ R.cells ∧ κ.2 ≤ R.slots) → W p l e R s m args below meth c H locs κ.1 κ.2 (Z v I' L' D cI cL ad A s args below) (F0 m pc ls (st.map (trV ad)))
section EC
variable {κ : Nat × Nat} {Z : ZTy} {Y : YTy} {Γ : Code → Prop} {μ ν : MI} {d pc n ci ix : Nat} {lv lv' : List (Nat × Value)} {st stk As : List Value} {I : PI} {L : PL} {o o1 o2 oc : RES}
theorem ec_iconst {n : Int} (x : Int32) (hx : Int32.ofInt n = x) (hd : decode μ.2.1 pc = .ok (.iconst n, 1)) (k : EvC κ Z Y Γ μ d (pc + 1) lv (.int x :: st) I L o) : EvC κ Z Y Γ μ d pc lv (st) I L o := by
  intro v I' L' ho p l e R s m args below meth c H locs D cI cL ad A ls C Wd hl hY
  exact lv_iconst C.1 C.2.1 (v := x) (rest := st.map (trV ad)) hd hx (k v I' L' ho p l e R s m args below meth c H locs D cI cL ad A ls C Wd hl hY)
theorem ec_iload_n {q : Fin 4} {x : Int32} (j : Nat) (hd : decode μ.2.1 pc = .ok (.iload_n q, 1)) (hj : lv[j]? = some ((q : Nat), .int x)) (k : EvC κ Z Y Γ μ d (pc + 1) lv (.int x :: st) I L o) : EvC κ Z Y Γ μ d pc lv (st) I L o := by
  intro v I' L' ho p l e R s m args below meth c H locs D cI cL ad A ls C Wd hl hY
  exact lv_iload_n C.1 C.2.1 (x := x) (rest := st.map (trV ad)) hd rfl (lv_at hl j (trL_get hj)) (k v I' L' ho p l e R s m args below meth c H locs D cI cL ad A ls C Wd hl hY)
theorem ec_aload_n {q : Fin 4} {x : Nat} (j : Nat) (hd : decode μ.2.1 pc = .ok (.aload_n q, 1)) (hj : lv[j]? = some ((q : Nat), .ref x)) (k : EvC κ Z Y Γ μ d (pc + 1) lv (.ref x :: st) I L o) : EvC κ Z Y Γ μ d pc lv (st) I L o := by
  intro v I' L' ho p l e R s m args below meth c H locs D cI cL ad A ls C Wd hl hY
  exact lv_aload_n C.1 C.2.1 (x := ad x) (rest := st.map (trV ad)) hd rfl (lv_at hl j (trL_get hj)) (k v I' L' ho p l e R s m args below meth c H locs D cI cL ad A ls C Wd hl hY)
theorem ec_isub {x y : Int32} (hd : decode μ.2.1 pc = .ok (.isub, 1)) (k : EvC κ Z Y Γ μ d (pc + 1) lv (.int (x - y) :: st) I L o) : EvC κ Z Y Γ μ d pc lv (.int y :: .int x :: st) I L o := by
  intro v I' L' ho p l e R s m args below meth c H locs D cI cL ad A ls C Wd hl hY
  exact lv_isub C.1 C.2.1 (x := x) (y := y) (rest := st.map (trV ad)) hd (k v I' L' ho p l e R s m args below meth c H locs D cI cL ad A ls C Wd hl hY)
theorem ec_goto {off : Int} (tgt : Nat) (ht : (pc : Int) + off = (tgt : Int)) (hd : decode μ.2.1 pc = .ok (.goto off, 3)) (k : EvC κ Z Y Γ μ d tgt lv st I L o) : EvC κ Z Y Γ μ d pc lv st I L o := by
  intro v I' L' ho p l e R s m args below meth c H locs D cI cL ad A ls C Wd hl hY
  exact lv_goto C.1 C.2.1 hd ht (k v I' L' ho p l e R s m args below meth c H locs D cI cL ad A ls C Wd hl hY)
theorem ec_if_eq {x : Int32} {off : Int} (tgt : Nat) (ht : (pc : Int) + off = (tgt : Int)) (hd : decode μ.2.1 pc = .ok (.ifCond .eq off, 3)) (kt : EvC κ Z Y Γ μ d tgt lv st I L o1) (kf : EvC κ Z Y Γ μ d (pc + 3) lv st I L o2) : EvC κ Z Y Γ μ d pc lv (.int x :: st) I L (if x = 0 then o1 else o2) := by
  intro v I' L' ho p l e R s m args below meth c H locs D cI cL ad A ls C Wd hl hY
  exact lv_if_eq C.1 C.2.1 (x := x) (rest := st.map (trV ad)) hd ht (fun hc => kt v I' L' (by rw [if_pos hc] at ho; exact ho) p l e R s m args below meth c H locs D cI cL ad A ls C Wd hl hY) (fun hc => kf v I' L' (by rw [if_neg hc] at ho; exact ho) p l e R s m args below meth c H locs D cI cL ad A ls C Wd hl hY)
theorem ec_if_ne {x : Int32} {off : Int} (tgt : Nat) (ht : (pc : Int) + off = (tgt : Int)) (hd : decode μ.2.1 pc = .ok (.ifCond .ne off, 3)) (kt : EvC κ Z Y Γ μ d tgt lv st I L o1) (kf : EvC κ Z Y Γ μ d (pc + 3) lv st I L o2) : EvC κ Z Y Γ μ d pc lv (.int x :: st) I L (if x = 0 then o2 else o1) := by
  intro v I' L' ho p l e R s m args below meth c H locs D cI cL ad A ls C Wd hl hY
  exact lv_if_ne C.1 C.2.1 (x := x) (rest := st.map (trV ad)) hd ht (fun hc => kt v I' L' (by rw [if_neg hc] at ho; exact ho) p l e R s m args below meth c H locs D cI cL ad A ls C Wd hl hY) (fun hc => kf v I' L' (by rw [if_pos hc] at ho; exact ho) p l e R s m args below meth c H locs D cI cL ad A ls C Wd hl hY)
theorem ec_icmp_ne {x y : Int32} {off : Int} (tgt : Nat) (ht : (pc : Int) + off = (tgt : Int)) (hd : decode μ.2.1 pc = .ok (.if_icmp .ne off, 3)) (kt : EvC κ Z Y Γ μ d tgt lv st I L o1) (kf : EvC κ Z Y Γ μ d (pc + 3) lv st I L o2) : EvC κ Z Y Γ μ d pc lv (.int y :: .int x :: st) I L (if x = y then o2 else o1) := by
  intro v I' L' ho p l e R s m args below meth c H locs D cI cL ad A ls C Wd hl hY
  exact lv_icmp_ne C.1 C.2.1 (x := x) (y := y) (rest := st.map (trV ad)) hd ht (fun hc => kt v I' L' (by rw [if_neg hc] at ho; exact ho) p l e R s m args below meth c H locs D cI cL ad A ls C Wd hl hY) (fun hc => kf v I' L' (by rw [if_pos hc] at ho; exact ho) p l e R s m args below meth c H locs D cI cL ad A ls C Wd hl hY)
theorem ec_i2l {x : Int32} (hd : decode μ.2.1 pc = .ok (.i2l, 1)) (k : EvC κ Z Y Γ μ d (pc + 1) lv (.long x.toInt64 :: st) I L o) : EvC κ Z Y Γ μ d pc lv (.int x :: st) I L o := by
  intro v I' L' ho p l e R s m args below meth c H locs D cI cL ad A ls C Wd hl hY
  exact lv_i2l C.1 C.2.1 (x := x) (rest := st.map (trV ad)) hd rfl (k v I' L' ho p l e R s m args below meth c H locs D cI cL ad A ls C Wd hl hY)
theorem ec_last {c0 n : Nat} {i : Int32} {x : Int64} (hK : K0[c0]? = some (1, n, [])) (hd : decode μ.2.1 pc = .ok (.lastore, 1)) (k : EvC κ Z Y Γ μ d (pc + 1) lv st I (uL L c0 i.toNatClampNeg x) o) : EvC κ Z Y Γ μ d pc lv (.long x :: .int i :: .ref c0 :: st) I L (gd (inb i n) o) := by
  intro v I' L' ho p l e R s m args below meth c H locs D cI cL ad A ls C Wd hl hY
  obtain ⟨hin, ho⟩ := gd_some ho
  refine va_last C.1 C.2.1 Wd.1 Wd.2.1 Wd.2.2.1 Wd.2.2.2.1 c0 1 (ws_arrL hK) rfl (inb_in hin) hd (fun H1 locs1 hP hD hS => ?_)
  rw [ws_setL hK] at hP hD
  exact k v I' L' ho p l e R s m args below meth c H1 locs1 D cI cL ad A ls C ⟨Wd.1, hP, hD, hS, Wd.2.2.2.2⟩ hl hY
theorem ec_getV {c0 ci z k9 ix N x9 : Nat} {C9 : String} {T9 : u_T} {fs : List Nat} {w : Value} (hc : vwCl[ci]? = some (C9, T9, N)) (hin : ∀ w ∈ u_ws C9 T9 N, w ∈ WL) (hk : k9 < N) (hlink : Cond.fieldLink μ.1.cls ix (T9 k9).1 (T9 k9).2.1 (T9 k9).2.2.1 ∈ WL) (hK : K0[c0]? = some (ci + 2, z, fs)) (hx : fs[k9]? = some x9) (hw : ∀ ad : Nat → Nat, fvV ad I L c0 k9 x9 = trV ad w)
    (hd : decode μ.2.1 pc = .ok (.getfield ix, 3)) (k : EvC κ Z Y Γ μ d (pc + 3) lv (w :: st) I L o) : EvC κ Z Y Γ μ d pc lv (.ref c0 :: st) I L o := by
  intro v I' L' ho p l e R s m args below meth c H locs D cI cL ad A ls C Wd hl hY
  refine va_get C.1 C.2.1 (a := ad c0) (rest := st.map (trV ad)) C.2.2.2.2.1 hin C.2.2.2.2.2.1 Wd.1 Wd.2.1 c0 (ws_obj hK) hc k9 hk (C.2.2.2.2.1 _ hlink) (fun _ h => h) (v := trV ad w) ?_ hd (k v I' L' ho p l e R s m args below meth c H locs D cI cL ad A ls C Wd hl hY)
  rw [fvs_get, hx, Nat.zero_add, Option.map_some, hw]
theorem ec_callVI {K : Int32 → PI → PL → RES} (cv : CalV ν n ci) (hn : As.length = n) (hl : Cond.methodLink μ.1.cls ix ν.1 ∈ WL) (hst : stk = As.reverse ++ .ref ci :: st) (hcat : (st.map fun v => v.category).sum ≤ 8) (hm : MOk ν d (.ref ci :: As) I L oc) (hd : decode μ.2.1 pc = .ok (.invokevirtual ix, 3)) (k : ∀ (x : Int32) (I1 : PI) (L1 : PL), EvC κ Z Y Γ μ (d + 1) (pc + 3) lv (.int x :: st) I1 L1 (K x I1 L1)) : EvC κ Z Y Γ μ (d + 1) pc lv stk I L (bI oc K) := by
  intro v I' L' ho p l e R s m args below meth c H locs D cI cL ad A ls C Wd hl9 hY
  obtain ⟨x, I1, L1, hoc, hK⟩ := bI_some ho
  exact ev_runV cv hn hl hst hcat hm hd hoc C Wd hl9 hY.2 (fun H1 locs1 Wd1 => k x I1 L1 v I' L' hK p l e R s m args below meth c H1 locs1 D cI cL ad A ls C Wd1 hl9 hY)
theorem ec_callSI {K : Int32 → PI → PL → RES} (cv : CalS ν n) (hn : As.length = n) (hl : Cond.methodLink μ.1.cls ix ν.1 ∈ WL) (hst : stk = As.reverse ++ st) (hcat : (st.map fun v => v.category).sum ≤ 8) (hm : MOk ν d As I L oc) (hd : decode μ.2.1 pc = .ok (.invokestatic ix, 3)) (k : ∀ (x : Int32) (I1 : PI) (L1 : PL), EvC κ Z Y Γ μ (d + 1) (pc + 3) lv (.int x :: st) I1 L1 (K x I1 L1)) : EvC κ Z Y Γ μ (d + 1) pc lv stk I L (bI oc K) := by
  intro v I' L' ho p l e R s m args below meth c H locs D cI cL ad A ls C Wd hl9 hY
  obtain ⟨x, I1, L1, hoc, hK⟩ := bI_some ho
  exact ev_runS cv hn hl hst hcat hm hd hoc C Wd hl9 hY.2 (fun H1 locs1 Wd1 => k x I1 L1 v I' L' hK p l e R s m args below meth c H1 locs1 D cI cL ad A ls C Wd1 hl9 hY)
theorem gc_X11_23 {μ : MI} {d pc : Nat} {lv : List (Nat × Value)} {st : List Value} {I : PI} {L : PL} {o : RES} {κ : Nat × Nat} {Z : ZTy} {Y : YTy} {Γ : Code → Prop} (hm : μ.1.cls = RX11) (hd : decode μ.2.1 pc = .ok (.getfield 23, 3)) (k : EvC κ Z Y Γ μ d (pc + 3) lv (.ref 3 :: st) I L o) : EvC κ Z Y Γ μ d pc lv (.ref 11 :: st) I L o := ec_getV (ci := 11) (k9 := 1) (ix := 23) rfl inW11 (by decide) (by rw [hm]; exact w_118) rfl rfl (fun _ => rfl) hd k
end EC
def rmX (d : Nat) : Room := { frames := d, cells := 1, slots := 6, locals := 60 * d }
/-- what a frame knows that may throw, or call what throws -/
def YX : YTy := fun l R s _ A => (1 ≤ R.cells ∧ 6 ≤ R.slots) ∧ l.stackTraces = false ∧ hatS s ∧ vx_Zq Bundle.tN "UNASSIGNED_STACK" Bundle.steD A s s.heap ∧ vx_Zq Bundle.tN "SUPPRESSED_SENTINEL" Bundle.listD A s s.heap
/-- it returns an int .. -/
def QX (v : Option Value) (I : PI) (L : PL) (D : va_G) (cI cL : ClassId) (ad : Nat → Nat) (A : Nat → Prop) : Array Value → State → Outcome → State → Prop := fun a st oc t =>
  (∃ x : Int32, v = some (.int x)) ∧ QR v I L D cI cL ad A a st oc t
/-- .. or it has thrown that exception -/
def XS (v : Option Value) (I : PI) (L : PL) (D : va_G) (cI cL : ClassId) (ad : Nat → Nat) (A : Nat → Prop) : String → State → State → Prop := fun E st t =>
  v = some .null ∧ E = "java/util/NoSuchElementException" ∧ va_P D vwCl (WS cI cL ad I L) t.heap ∧ va_K D vwCl (TYS cI cL) t ∧ va_D A (WS cI cL ad I L) ∧ va_F A st t
def PX (av : List Value) (sz : Nat) (I : PI) (L : PL) (D : va_G) (cI cL : ClassId) (ad : Nat → Nat) : Array Value → State → Prop :=
  va_Pc av (fun U => U.heap.size = sz ∧ va_P D vwCl (WS cI cL ad I L) U.heap ∧ va_K D vwCl (TYS cI cL) U ∧ va_D (fun _ => True) (WS cI cL ad I L) ∧ NW U ∧ ZT ad (va_A (WS cI cL ad I L) sz) U U.heap ∧ hatS U ∧ vx_Zq Bundle.tN "UNASSIGNED_STACK" Bundle.steD (va_A (WS cI cL ad I L) sz) U U.heap ∧ vx_Zq Bundle.tN "SUPPRESSED_SENTINEL" Bundle.listD (va_A (WS cI cL ad I L) sz) U U.heap)
def ZX : ZTy := fun v I' L' D cI cL ad A s args below => vx_MQ below (QX v I' L' D cI cL ad A) (XS v I' L' D cI cL ad A) args s 1 6 A
/-- the contract of a method that returns an int or throws that exception -/
def MOkX (μ : MI) (tws : List Cond) (d : Nat) (As : List Value) (I : PI) (L : PL) (o : RES) : Prop :=
  ∀ (v : Option Value) (I' : PI) (L' : PL), o = some (v, I', L') → ∀ (l : Launch), l.stackTraces = false → ∀ (D : va_G) (cI cL : ClassId) (ad : Nat → Nat) (sz : Nat),
    vx_Met l μ.1 tws (rmX d) (PX (As.map (trV ad)) sz I L D cI cL ad) (QX v I' L' D cI cL ad (va_A (WS cI cL ad I L) sz)) (XS v I' L' D cI cL ad (va_A (WS cI cL ad I L) sz)) 1 6 (va_A (WS cI cL ad I L) sz)
theorem MOkX.of {μ : MI} {d : Nat} {As : List Value} {I : PI} {L : PL} {o : RES} (hy : plainName μ.1.cls = true) (hlen : (lg_sl As).length ≤ μ.2.2.1) (h : EvC (0, 0) ZX YX (fun c => ∀ x ∈ c.exceptionTable.toList, False) μ d 0 (lv_args 0 As) [] I L o) : MOkX μ (Tw μ) d As I L o := by
  intro v I' L' ho l hst D cI cL ad sz
  refine vx_ofW (cc := μ.2.1) (maxL := μ.2.2.1) (ret := μ.2.2.2) hy rfl ?_
  intro p e s m args below meth c s₁ B hml ht hv
  obtain ⟨rfl, hsz, hP, hK, hD0, hN, hZ, hA, hU, hS⟩ := hv
  subst hsz
  have hts := atoms_spec (ws := Tw μ) B.pre
  have hl := lv_entry (As.map (trV ad)) (n := μ.2.2.1) (by rw [lg_len]; exact hlen)
  rw [lg_entry_eq]
  rw [trL_args] at hl
  exact h v I' L' ho p l e _ s m _ below meth c s.heap [] D cI cL ad (va_A (WS cI cL ad I L) s.heap.size) _ ⟨B.exec, B.bytes, hml, B.returns, fun w hw => hts w (List.mem_cons_of_mem _ hw), findClass_of_methodNamed B.named, B.notSynchronized, Nat.le_refl _, Nat.le_refl _⟩
    ⟨hK, hP, hD0.self, va_S.rf, fun _ h => Or.inr h, hN, hZ⟩ hl ⟨⟨⟨⟨Nat.le_refl _, Nat.le_refl _⟩, hst, hA, hU, hS⟩, ht⟩, Nat.zero_le _, Nat.zero_le _⟩
def TwX (μ : MI) (hh : List (Nat × Nat × Nat × Nat)) : List Cond := .codeWith μ.1 μ.2.1 μ.2.2.1 μ.2.2.2 hh :: WL
theorem MOkX.ofH {μ : MI} {d : Nat} {As : List Value} {I : PI} {L : PL} {o : RES} {hh : List (Nat × Nat × Nat × Nat)} (hy : plainName μ.1.cls = true) (hlen : (lg_sl As).length ≤ μ.2.2.1) (h : EvC (0, 0) ZX YX (fun c => c.exceptionTable.toList = tableOf hh) μ d 0 (lv_args 0 As) [] I L o) : MOkX μ (TwX μ hh) d As I L o := by
  intro v I' L' ho l hst D cI cL ad sz
  refine vx_ofWH (cc := μ.2.1) (maxL := μ.2.2.1) (ret := μ.2.2.2) (hh := hh) hy rfl ?_
  intro p e s m args below meth c s₁ B hml hv
  obtain ⟨rfl, hsz, hP, hK, hD0, hN, hZ, hA, hU, hS⟩ := hv
  subst hsz
  have hts := atoms_spec (ws := TwX μ hh) B.pre
  have ht := vx_table (x := μ.1) B (hts _ List.mem_cons_self)
  have hl := lv_entry (As.map (trV ad)) (n := μ.2.2.1) (by rw [lg_len]; exact hlen)
  rw [lg_entry_eq]
  rw [trL_args] at hl
  exact h v I' L' ho p l e _ s m _ below meth c s.heap [] D cI cL ad (va_A (WS cI cL ad I L) s.heap.size) _ ⟨B.exec, B.bytes, hml, B.returns, fun w hw => hts w (List.mem_cons_of_mem _ hw), findClass_of_methodNamed B.named, B.notSynchronized, Nat.le_refl _, Nat.le_refl _⟩
    ⟨hK, hP, hD0.self, va_S.rf, fun _ h => Or.inr h, hN, hZ⟩ hl ⟨⟨⟨⟨Nat.le_refl _, Nat.le_refl _⟩, hst, hA, hU, hS⟩, ht⟩, Nat.zero_le _, Nat.zero_le _⟩
theorem blindX {D : va_G} {cI cL : ClassId} {ad : Nat → Nat} {I : PI} {L : PL} {sz : Nat} {av : List Value} : FrameBlind (PX av sz I L D cI cL ad) := by
  intro a U g mk q
  obtain ⟨q0, q1, qP, qK, qD, qN, qZ, qA, qU, qS⟩ := q
  exact ⟨q0, q1, qP, va_K.moved (u := U) (U := U.calling g mk a) (Vm.Alike.refl U.vm) qK, qD, NW.same rfl qN, ZT.moved (Vm.Alike.refl U.vm) qZ, hatS.warm (s := U) (U := U.calling g mk a) (State.WarmedH.refl U) qA, vx_Zq.moved (u := U) (U := U.calling g mk a) (Vm.Alike.refl U.vm) qU, vx_Zq.moved (u := U) (U := U.calling g mk a) (Vm.Alike.refl U.vm) qS⟩
theorem preX {D : va_G} {cI cL : ClassId} {ad : Nat → Nat} {A : Nat → Prop} {I : PI} {L : PL} {s : State} {H : Heap} {locs : List Loc} (av : List Value) (Wd : Wld D cI cL ad A I L s H locs) (hA : hatS s) (hU : vx_Zq Bundle.tN "UNASSIGNED_STACK" Bundle.steD A s s.heap) (hS : vx_Zq Bundle.tN "SUPPRESSED_SENTINEL" Bundle.listD A s s.heap) : ∀ U : State, U.heap = H → s.WarmedH U.vm → PX av H.size I L D cI cL ad av.toArray U := by
  intro U hU1 hW
  have hF := free9 Wd
  obtain ⟨wK, wP, wD, wS, wA, wN, wZ⟩ := Wd
  exact ⟨rfl, by rw [hU1], by rw [hU1]; exact wP, va_K.moved hW.alike wK, wD.weaken (fun _ _ _ _ => trivial), NW.warm hW wN, by rw [hU1]; exact ZT.moved hW.alike ((wZ.kept (fun a ha hna => wS.2.1 a ha hna)).narrow hF), hA.warm hW, by rw [hU1]; exact vx_Zq.moved hW.alike ((hU.kept (fun a ha hna => wS.2.1 a ha hna)).narrow hF), by rw [hU1]; exact vx_Zq.moved hW.alike ((hS.kept (fun a ha hna => wS.2.1 a ha hna)).narrow hF)⟩
section AFT
variable {p : Program} {l : Launch} {e : Env} {R : Room} {s : State} {m : MethodId} {args : Array Value} {below : List Frame} {meth : Method} {c : Code} {H : Heap} {locs : List Loc} {Q : State → Prop} {D : va_G} {cI cL : ClassId} {ad : Nat → Nat} {A : Nat → Prop} {ls : Array Slot} {κ : Nat × Nat} {pc : Nat} {I I1 : PI} {L L1 : PL} {v1 : Option Value}
theorem ev_afterX {av : Array Value} {stk rest : List Value} (Wd : Wld D cI cL ad A I L s H locs) (hr : vx_Run p l e R s m args below meth c H locs κ.1 κ.2 1 6 (F0 m pc ls stk) rest (QX v1 I1 L1 D cI cL ad (va_A (WS cI cL ad I L) H.size) av) (XS v1 I1 L1 D cI cL ad (va_A (WS cI cL ad I L) H.size)) (va_A (WS cI cL ad I L) H.size))
    (kk : ∀ (x : Int32), v1 = some (.int x) → ∀ (H1 : Heap) (locs1 : List Loc), Wld D cI cL ad A I1 L1 s H1 locs1 → W p l e R s m args below meth c H1 locs1 (κ.1 + 1) (κ.2 + 6) Q (F0 m (pc + 3) ls (.int x :: rest)))
    (kx : v1 = some .null → ∀ (H1 : Heap) (locs1 : List Loc) (ce : Cell) (q : Addr), Wld D cI cL ad A I1 L1 s H1 locs1 → H1[q]? = some ce → ce.vm = .none → s.vm.findClass "java/util/NoSuchElementException" = some ce.cls → vx_W p l e R s m args below meth c H1 locs1 (κ.1 + 1) (κ.2 + 6) Q (F0 m pc ls rest) q) : W p l e R s m args below meth c H locs κ.1 κ.2 Q (F0 m pc ls stk) := by
  have hF := free9 Wd
  obtain ⟨wK, wP, wD, wS, wA, wN, wZ⟩ := Wd
  have mk : ∀ (st₀ t : State) (L9 : List Loc), st₀.heap = H → va_P D vwCl (WS cI cL ad I1 L1) t.heap → va_D (va_A (WS cI cL ad I L) H.size) (WS cI cL ad I1 L1) → va_F (va_A (WS cI cL ad I L) H.size) st₀ t → (∀ q ∈ L9, va_A (WS cI cL ad I L) H.size q.base) → Wld D cI cL ad A I1 L1 s t.heap (locs ++ L9) := fun st₀ t L9 h0 hP1 hD1 hf hL => by
    obtain ⟨hz, hk⟩ := hf
    rw [h0] at hz hk
    exact ⟨wK, hP1, hD1.weaken (fun _ q _ h => hF q.1 h), ⟨Nat.le_trans wS.1 hz, fun q h1 h2 => by rw [hk q (Nat.lt_of_lt_of_le h1 wS.1) (fun z => h2 (hF q z))]; exact wS.2.1 q h1 h2, fun q hq => by
      rcases List.mem_append.mp hq with h | h
      · exact wS.2.2 q h
      · exact hF _ (hL q h)⟩, wA, wN, wZ⟩
  intro T hT X
  rcases hr T hT X with ⟨v, st₀, t, T', L9, h0, X', hL, e1, e2, ⟨⟨x, hx⟩, ⟨hv, hP1, hK1, hD1⟩, hf⟩, st⟩ | ⟨q, st₀, t, T', L9, E, ce, h0, X', hL, e1, e2, ⟨hn, hE, hP1, hK1, hD1, hf⟩, hce, hcv, hcl, st⟩
  · obtain rfl : v = v1.map (trV ad) := Outcome.returned.inj hv
    subst hx
    obtain ⟨t2, a1, b1⟩ := kk x rfl T'.heap (locs ++ L9) (by rw [e1]; exact mk st₀ t L9 h0 hP1 hD1 hf hL) T' rfl X'
    exact ⟨t2, st t2 a1, b1⟩
  · subst hE
    obtain ⟨t2, a1, b1⟩ := kx hn T'.heap (locs ++ L9) ce q (by rw [e1]; exact mk st₀ t L9 h0 hP1 hD1 hf hL) (by rw [e1]; exact hce) hcv hcl T' rfl X'
    exact ⟨t2, st.trans a1, b1⟩
end AFT
section SGN
variable {κ : Nat × Nat} {Γ : Code → Prop} {μ : MI} {d pc : Nat} {lv : List (Nat × Value)} {I : PI} {L : PL}
theorem ec_iretX {x : Int32} (hr : μ.2.2.2 = some .int) (hk : κ.1 ≤ 1 ∧ κ.2 ≤ 6) (hd : decode μ.2.1 pc = .ok (.ireturn, 1)) : EvC κ ZX YX Γ μ d pc lv [.int x] I L (some (some (.int x), I, L)) := by
  intro v I' L' ho p l e R s m args below meth c H locs D cI cL ad A ls C Wd hl hY
  cases ho
  refine W.widen (k := 1) (n := 6) hk.1 hk.2 (vx_ret ?_)
  exact W.iret C.1 C.2.1 (C.2.2.2.1.trans hr) (fun t ht hW => ⟨⟨x, rfl⟩, ⟨rfl, by rw [ht]; exact Wd.2.1, va_K.moved hW.alike Wd.1, Wd.2.2.1⟩, Wd.2.2.2.1.F ht⟩) Wd.2.2.2.1.2.2 hd (hlocks := C.2.2.2.2.2.2.1)
theorem sgn_throw : EvC (0, 0) ZX YX (fun c => ∀ x ∈ c.exceptionTable.toList, False) M_X11_sign (d + 10) 29 lv [] I L (some (some .null, I, L)) := by
  intro v I' L' ho p l e R s m args below meth c H locs D cI cL ad A ls C Wd hl hY
  cases ho
  obtain ⟨c1, c2, c3, c4, c5, c6, c7, c8, c9⟩ := C
  obtain ⟨wK, wP, wD, wS, wA, wN, wZ⟩ := Wd
  obtain ⟨⟨⟨⟨y1, y2⟩, y3, y4, y5, y6⟩, y7⟩, -, -⟩ := hY
  refine vx_throw0 (own := RX11) (cls := "java/util/NoSuchElementException") (names := ["java/lang/RuntimeException", "java/lang/Exception"]) (ik := 153) (ic := 155) (A := A) c1 c2 y3 c6 (by decide +kernel) (by decide +kernel) (c5 _ xw_10) (c5 _ xw_1) (y4 args) (fun w hw => List.all_eq_true.mp atw_ot w hw) y5 y6 wS (hl.1.trans c3.symm) dX11_sign_29 dX11_sign_32 dX11_sign_33 dX11_sign_36 (fun x hx => absurd (y7 x hx) id) ?_ ?_ ?_ ?_ c7 (fun t hv hz hk => ?_) wS.2.2 (Nat.le_refl _) (Nat.le_refl _)
  · show 2 + 3 < R.frames
    omega
  · show 0 + (13 * (2 + 1) + 42) ≤ R.locals
    omega
  · exact y1
  · exact y2
  · exact ⟨rfl, rfl, wP.kept (fun k q hq => hk q.1 (wP k q hq).lt), va_K.moved hv wK, wD, Nat.le_trans wS.1 hz, fun q h1 h2 => (hk q (Nat.lt_of_lt_of_le h1 wS.1)).trans (wS.2.1 q h1 h2)⟩
set_option maxRecDepth 100000 in
theorem sgn_met (N d : Nat) (a1 a2 : Int32) (I : PI) (L : PL) : MOkX M_X11_sign (Tw M_X11_sign) (d + 10) [.ref 11, .int a1, .int a2] I L (f_X11_sign N a1 a2 I L) := by
  refine MOkX.of (by decide +kernel) (Nat.le_of_ble_eq_true rfl) ?_
  show EvC _ _ _ _ _ _ 0 [(0, .ref 11), (1, .int a1), (2, .int a2)] [] I L _
  rw [f_X11_sign]
  refine ec_aload_n (pc := 0) 0 dX11_sign_0 rfl ?_
  refine gc_X11_23 (pc := 1) rfl dX11_sign_1 ?_
  refine ec_iload_n (pc := 4) 1 dX11_sign_4 rfl ?_
  refine ec_callVI (pc := 5) (d := d + 9) (As := [.int a1]) (st := []) cv_X3_has rfl w_266 rfl (Nat.le_of_ble_eq_true rfl) (ok_X3_has N (d + 9) a1 I L) dX11_sign_5 (fun x1 I2 L3 => ?_)
  refine ec_if_eq (pc := 8) 29 (by decide) dX11_sign_8 ?_ ?_
  · exact sgn_throw
  · refine ec_iload_n (pc := 11) 2 dX11_sign_11 rfl ?_
    refine ec_iconst (pc := 12) (-1 : Int32) k_iconst_m1 dX11_sign_12 ?_
    refine ec_aload_n (pc := 13) 0 dX11_sign_13 rfl ?_
    refine gc_X11_23 (pc := 14) rfl dX11_sign_14 ?_
    refine ec_iload_n (pc := 17) 1 dX11_sign_17 rfl ?_
    refine ec_callVI (pc := 18) (d := d + 9) (As := [.int a1]) (st := [.int (-1), .int a2]) cv_X3_lengthOf rfl w_272 rfl (Nat.le_of_ble_eq_true rfl) (ok_X3_lengthOf N (d + 9) a1 I2 L3) dX11_sign_18 (fun x4 I5 L6 => ?_)
    refine ec_iconst (pc := 21) 1 k_iconst_1 dX11_sign_21 ?_
    refine ec_isub (pc := 22) dX11_sign_22 ?_
    refine ec_callSI (pc := 23) (d := d + 9) (As := [.int a2, .int (-1), .int (x4 - 1)]) (st := []) cv_X11_within rfl w_18 rfl (Nat.le_of_ble_eq_true rfl) (ok_X11_within N (d + 9) a2 (-1) (x4 - 1) I5 L6) dX11_sign_23 (fun x7 I8 L9 => ?_)
    refine ec_if_ne (pc := 26) 37 (by decide) dX11_sign_26 ?_ ?_
    · refine ec_iload_n (pc := 37) 2 dX11_sign_37 rfl ?_
      refine ec_iconst (pc := 38) (-1 : Int32) k_iconst_m1 dX11_sign_38 ?_
      refine ec_icmp_ne (pc := 39) 53 (by decide) dX11_sign_39 ?_ ?_
      · refine ec_aload_n (pc := 53) 0 dX11_sign_53 rfl ?_
        refine gc_X11_23 (pc := 54) rfl dX11_sign_54 ?_
        refine ec_iload_n (pc := 57) 1 dX11_sign_57 rfl ?_
        refine ec_iload_n (pc := 58) 2 dX11_sign_58 rfl ?_
        refine ec_callVI (pc := 59) (d := d + 9) (As := [.int a1, .int a2]) (st := []) cv_X3_turn rfl w_273 rfl (Nat.le_of_ble_eq_true rfl) (ok_X3_turn N (d + 8) a1 a2 I8 L9) dX11_sign_59 (fun x10 I11 L12 => ?_)
        exact ec_iretX (pc := 62) rfl ⟨Nat.zero_le _, Nat.zero_le _⟩ dX11_sign_62
      · refine ec_aload_n (pc := 42) 0 dX11_sign_42 rfl ?_
        refine gc_X11_23 (pc := 43) rfl dX11_sign_43 ?_
        refine ec_iload_n (pc := 46) 1 dX11_sign_46 rfl ?_
        refine ec_callVI (pc := 47) (d := d + 9) (As := [.int a1]) (st := []) cv_X3_lengthOf rfl w_272 rfl (Nat.le_of_ble_eq_true rfl) (ok_X3_lengthOf N (d + 9) a1 I8 L9) dX11_sign_47 (fun x13 I14 L15 => ?_)
        refine ec_goto (pc := 50) 62 (by decide) dX11_sign_50 ?_
        exact ec_iretX (pc := 62) rfl ⟨Nat.zero_le _, Nat.zero_le _⟩ dX11_sign_62
    · exact sgn_throw
theorem roomX {d k : Nat} {R : Room} (h1 : d + 1 ≤ R.frames) (h2 : 60 * (d + 1) ≤ R.locals) (hk : k ≤ 41) : (rmX d).frames + 1 ≤ R.frames ∧ 8 + (k + 11) + (rmX d).locals ≤ R.locals := by
  refine ⟨h1, ?_⟩
  show 8 + (k + 11) + 60 * d ≤ R.locals
  omega
theorem f_sign_some {N : Nat} {a b : Int32} {v : Option Value} {I' : PI} {L' : PL} (h : f_sign N a b I L = some (v, I', L')) : (∃ (x : Int32) (L1 : PL), f_X11_sign N a b I L = some (some (.int x), I', L1) ∧ v = some (.int 0) ∧ L' = uL L1 63 0 x.toInt64) ∨ (f_X11_sign N a b I L = some (some .null, I', L') ∧ v = some (.int 1)) := by
  unfold f_sign at h
  split at h
  · rename_i x I1 L1 hs
    cases h
    exact Or.inl ⟨x, L1, hs, rfl, rfl⟩
  · rename_i I1 L1 hs
    cases h
    exact Or.inr ⟨hs, rfl⟩
  · cases h
theorem in63 : inb 0 1 = true := by decide +kernel
set_option maxRecDepth 100000 in
theorem lsg_met (N d : Nat) (a b : Int32) (I : PI) (L : PL) : MOkX M_L_sign (TwX M_L_sign [(0, 10, 13, 13)]) (d + 11) [.ref 11, .int a, .int b, .ref 63] I L (f_sign N a b I L) := by
  refine MOkX.ofH (by decide +kernel) (Nat.le_of_ble_eq_true rfl) ?_
  show EvC _ _ _ _ _ _ 0 [(0, .ref 11), (1, .int a), (2, .int b), (3, .ref 63)] [] I L _
  refine ec_aload_n (pc := 0) 3 dL_sign_0 rfl ?_
  refine ec_iconst (pc := 1) 0 k_iconst_0 dL_sign_1 ?_
  refine ec_aload_n (pc := 2) 0 dL_sign_2 rfl ?_
  refine ec_iload_n (pc := 3) 1 dL_sign_3 rfl ?_
  refine ec_iload_n (pc := 4) 2 dL_sign_4 rfl ?_
  intro v I' L' ho p l e R s m args below meth c H locs D cI cL ad A ls C Wd hl hY
  have hsome : ∃ (w : Option Value) (L1 : PL), f_X11_sign N a b I L = some (w, I', L1) ∧ ((∃ x : Int32, w = some (.int x) ∧ v = some (.int 0) ∧ L' = uL L1 63 0 x.toInt64) ∨ (w = some .null ∧ v = some (.int 1) ∧ L' = L1)) := by
    rcases f_sign_some ho with ⟨x, L1, h1, h2, h3⟩ | ⟨h1, h2⟩
    · exact ⟨_, L1, h1, Or.inl ⟨x, rfl, h2, h3⟩⟩
    · exact ⟨_, L', h1, Or.inr ⟨rfl, h2, rfl⟩⟩
  obtain ⟨w, L1, hw, hcase⟩ := hsome
  have hC := C
  have hYY := hY
  obtain ⟨⟨⟨⟨y1, y2⟩, y3, y4, y5, y6⟩, y7⟩, -, -⟩ := hY
  have hM := sgn_met N d a b I L w I' L1 hw l y3 D cI cL ad H.size
  obtain ⟨c1, c2, c3, c4, c5, c6, ⟨T9, N9, c7⟩, z9, f9, c8⟩ := cv_X11_sign
  obtain ⟨hx, hb, hml, hr, hts, hown, hlk, hfr, hlo⟩ := C
  have cw : CallW R s args RL RX11 7 yX11_sign cX11_sign 3 (some .int) (Tw M_X11_sign) (rmX (d + 10)) 1 6 2 := by
    refine cwV 2 hts ?_ rfl rfl rfl ⟨rfl, c5⟩ (roomX hfr hlo c6)
    intro w hw
    rcases List.mem_append.mp hw with h | h
    · rcases List.mem_cons.mp h with rfl | h
      · exact good_law _ xw_6
      rcases List.mem_cons.mp h with rfl | h
      · exact good_law _ c1
      rcases List.mem_cons.mp h with rfl | h
      · exact good_law _ c2
      rcases List.mem_cons.mp h with rfl | h
      · exact good_law _ c3
      · cases h
    · exact good_tw c4 w h
  have hrun := vx_runV (p := p) (l := l) (e := e) (m := m) (below := below) (meth := meth) (c := c) (locs := locs) (cells := 0) (slots := 0) (g := F0 m 5 ls ([.int b, .int a, .ref 11, .int 0, .ref 63].map (trV ad))) (As := [.int a, .int b]) (rest := [.int 0, .ref (ad 63)]) ⟨hx, hb, hml, hown, hts⟩ hM cw ⟨blindX, va_recv Wd.1 Wd.2.1 c7 (ws_obj c8), preX _ Wd y4 y5 y6⟩ rfl rfl hl.1 rfl (lv_room (Nat.le_of_ble_eq_true rfl)) dL_sign_5 ⟨y1, y2⟩
  refine ev_afterX (κ := (0, 0)) Wd hrun (fun x hx1 H1 locs1 Wd1 => ?_) (fun hn H1 locs1 ce q Wd1 h1 h2 h3 => ?_)
  · rcases hcase with ⟨x', e1, e2, e3⟩ | ⟨e1, -⟩
    · have exx : x' = x := by
        rw [hx1] at e1
        cases e1
        rfl
      subst exx
      have tailE : EvC (1, 6) ZX YX (fun c => c.exceptionTable.toList = tableOf [(0, 10, 13, 13)]) M_L_sign (d + 11) 8 [(0, .ref 11), (1, .int a), (2, .int b), (3, .ref 63)] [.int x', .int 0, .ref 63] I' L1 (gd (inb 0 1) (some (some (.int 0), I', uL L1 63 (0 : Int32).toNatClampNeg x'.toInt64))) := by
        refine ec_i2l (pc := 8) dL_sign_8 ?_
        refine ec_last (pc := 9) (c0 := 63) rfl dL_sign_9 ?_
        refine ec_goto (pc := 10) 17 (by decide) dL_sign_10 ?_
        refine ec_iconst (pc := 17) 0 k_iconst_0 dL_sign_17 ?_
        exact ec_iretX (pc := 18) rfl ⟨Nat.le_refl _, Nat.le_refl _⟩ dL_sign_18
      rw [in63] at tailE
      exact tailE v I' L' (by rw [e2, e3]; rfl) p l e R s m args below meth c H1 locs1 D cI cL ad A ls hC Wd1 hl ⟨hYY.1, y1, y2⟩
    · rw [hx1] at e1
      cases e1
  · rcases hcase with ⟨x', e1, -⟩ | ⟨e1, e2, e3⟩
    · rw [hn] at e1
      cases e1
    · subst e2 e3
      refine vx_catch (own := RL) (name := "java/util/NoSuchElementException") (E := "java/util/NoSuchElementException") hown [] ⟨0, 10, 13, 13⟩ [] y7 (fun z hz => nomatch hz) (by decide +kernel) (by decide) (hts _ xw_5) (y4 args _ atw_cast) h1 h2 h3 ?_
      refine lv_astore (i := 4) hx hb dL_sign_13 hl (by decide) rfl (fun ls2 hl2 => ?_)
      refine lv_iconst hx hb (v := 1) (rest := []) dL_sign_15 k_iconst_1 ?_
      refine vx_ret ?_
      exact W.iret hx hb hr (fun t ht hW => ⟨⟨1, rfl⟩, ⟨rfl, by rw [ht]; exact Wd1.2.1, va_K.moved hW.alike Wd1.1, Wd1.2.2.1⟩, Wd1.2.2.2.1.F ht⟩) Wd1.2.2.2.1.2.2 dL_sign_16 (hlocks := hlk)
theorem signRow (N l9 : Nat) (xs : Nat → Int32) : SignRow N l9 xs := by
  intro d κ hk lv st hst a b I L K hK v I' L' ho p l e R s m args below meth c H locs D cI cL ad A ls C Wd hl hY
  obtain ⟨x, I1, L1, hoc, hKx⟩ := bI_some ho
  have hC := C
  have hYL := hY.1
  obtain ⟨⟨⟨yc, ys⟩, -, -, -, -, y3, y5, y6, y4⟩, -, -⟩ := hY
  have hM := lsg_met N (d + 198) a b I L _ I1 L1 hoc l y3 D cI cL ad H.size
  obtain ⟨hx, hb, hml, hr, hts, hown, hlk, hfr, hlo⟩ := C
  have cw : vx_CSW R s args RL 38 yL_sign cL_sign 5 (some .int) [(0, 10, 13, 13)] (TwX M_L_sign [(0, 10, 13, 13)]) (rmX (d + 209)) 1 6 4 := by
    refine vx_cwSW 4 hts ?_ rfl rfl rfl (by decide +kernel) (roomX hfr hlo (by decide))
    intro w hw
    rcases List.mem_append.mp hw with h | h
    · rcases List.mem_cons.mp h with rfl | h
      · exact good_law _ xw_2
      rcases List.mem_cons.mp h with rfl | h
      · exact good_law _ xw_3
      rcases List.mem_cons.mp h with rfl | h
      · exact good_law _ xw_11
      · cases h
    · rcases List.mem_cons.mp h with rfl | h
      · exact good_law _ xw_4
      · exact good_law _ h
  have hrun := vx_runSX (p := p) (l := l) (e := e) (m := m) (below := below) (meth := meth) (c := c) (locs := locs) (cells := κ.1) (slots := κ.2) (g := F0 m 374 ls ((.ref 63 :: .int b :: .int a :: .ref 11 :: st).map (trV ad))) (As := [.ref (ad 11), .int a, .int b, .ref (ad 63)]) (rest := st.map (trV ad)) ⟨hx, hb, hml, hown, hts⟩ hM cw ⟨blindX, preX _ Wd y4 y5 y6⟩ rfl rfl hl.1 rfl (lv_room (by rw [tr_cats]; exact hst)) dL_law_374 ⟨by omega, by omega⟩
  refine ev_afterX Wd hrun (fun x' hx1 H1 locs1 Wd1 => ?_) (fun hn => by cases hn)
  cases hx1
  refine W.widen (k := κ.1 + 4) (n := κ.2 + 40) (by omega) (by omega) ?_
  exact hK x I1 L1 v I' L' hKx p l e R s m args below meth c H1 locs1 D cI cL ad A ls hC Wd1 hl ⟨hYL, by show κ.1 + 4 ≤ R.cells; omega, by show κ.2 + 40 ≤ R.slots; omega⟩
end SGN
