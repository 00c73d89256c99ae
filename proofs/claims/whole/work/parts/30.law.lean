abbrev M_L_law : MI := (yL_law, cL_law, 7, some .boolean)
def f_X11_sign (N : Nat) (a1 : Int32) (a2 : Int32) (I : PI) (L : PL) : RES := bI (f_X3_has N a1 I L) (fun x1 I2 L3 => (if x1 = 0 then some (some .null, I2, L3) else bI (f_X3_lengthOf N a1 I2 L3) (fun x4 I5 L6 => bI (f_X11_within N a2 (-1 : Int32) (x4 - 1) I5 L6) (fun x7 I8 L9 => (if x7 = 0 then some (some .null, I8, L9) else (if a2 = (-1 : Int32) then bI (f_X3_lengthOf N a1 I8 L9) (fun x13 I14 L15 => some (some (.int x13), I14, L15)) else bI (f_X3_turn N a1 a2 I8 L9) (fun x10 I11 L12 => some (some (.int x10), I11, L12))))))))
/-- the law's own sign(): 0 and the answer in the row out, or 1 where the class threw -/
def f_sign (N : Nat) (a b : Int32) (I : PI) (L : PL) : RES := match f_X11_sign N a b I L with
  | some (some (.int x), I1, L1) => some (some (.int 0), I1, uL L1 63 0 x.toInt64)
  | some (some .null, I1, L1) => some (some (.int 1), I1, L1)
  | _ => none
def ZLaw : ZTy := fun v _ _ _ _ _ _ _ s _ below t => v = some (.int 1) → ∃ o, t.status = .running ∧ Ended t below o ∧ o = .returned (some (.int 1)) ∧ Framed s o t [] 601024 7293034
/-- what the law's frame knows besides: its room, the script, what a throw needs -/
def YLaw (l9 : Nat) (xs : Nat → Int32) : YTy := fun l R s ad A => (601024 ≤ R.cells ∧ 7293034 ≤ R.slots) ∧ (∀ q, A q → s.heap.size ≤ q) ∧ va_X (ad 2000) l9 xs s s.heap ∧ ad 2000 < s.heap.size ∧ ¬ A (ad 2000) ∧ l.stackTraces = false ∧ vx_Zq Bundle.tN "UNASSIGNED_STACK" Bundle.steD A s s.heap ∧ vx_Zq Bundle.tN "SUPPRESSED_SENTINEL" Bundle.listD A s s.heap ∧ ∀ (args : Array Value), ∀ w ∈ vx_at0 RX11 155 "java/util/NoSuchElementException" ["java/lang/RuntimeException", "java/lang/Exception"], w.before args s = true
theorem law_fin {p : Program} {l : Launch} {e : Env} {R : Room} {s : State} {m : MethodId} {args : Array Value} {below : List Frame} {meth : Method} {c : Code} (hx : p.tables.exec = Jvm.exec) (hb : c.code = cL_law) (hr : meth.sig.returnType = some .boolean) (hlocks : meth.locks = false) {pc : Nat} {H : Heap} {ls : Array Slot} (hdg : decode cL_law pc = .ok (.ireturn, 1)) : W p l e R s m args below meth c H [] 601024 7293034 (fun t => ∃ o, t.status = .running ∧ Ended t below o ∧ o = .returned (some (.int 1)) ∧ Framed s o t [] 601024 7293034) (F0 m pc ls [.int 1]) := by
  intro T hT X
  obtain ⟨fs, hret, hrun, hended, hW, hframe⟩ := X.leave (v := some (.int 1)) (hlocks := hlocks) (fun h => by rw [hr] at h; cases h)
  have hmeth' : T.vm.method? m = some meth := X.method'
  refine ⟨T.setFrames fs, ?_, .returned (some (.int 1)), hrun, hended, rfl, ⟨_, rfl⟩, hW, hframe⟩
  jvm_step X.here [X.here.top, hx, hb, hdg, hmeth', hr, ret, narrow_b1]
  (try refine ⟨rfl, ?_⟩); (try refine ⟨rfl, ?_⟩)
  first | (intro acts; rw [hret _ acts rfl rfl rfl]) | rw [hret _ _ rfl rfl rfl]
  exact Steps.refl _
section LAW
variable {κ κ' : Nat × Nat} {Z : ZTy} {Y : YTy} {μ : MI} {d pc l9 : Nat} {xs : Nat → Int32} {lv : List (Nat × Value)} {st : List Value} {I : PI} {L : PL} {o : RES}
theorem EvG.wide (h1 : κ.1 ≤ κ'.1) (h2 : κ.2 ≤ κ'.2) (hκ : ∀ (l : Launch) (R : Room) (s : State) (ad : Nat → Nat) (A : Nat → Prop), Y l R s ad A → κ'.1 ≤ R.cells ∧ κ'.2 ≤ R.slots) (k : EvG κ' Z Y μ d pc lv st I L o) : EvG κ Z Y μ d pc lv st I L o := by
  intro v I' L' ho p l e R s m args below meth c H locs D cI cL ad A ls C Wd hl hY
  exact W.widen h1 h2 (k v I' L' ho p l e R s m args below meth c H locs D cI cL ad A ls C Wd hl ⟨hY.1, hκ _ _ _ _ _ hY.1⟩)
theorem ev_slen (hd : decode μ.2.1 pc = .ok (.arraylength, 1)) (k : EvG κ Z (YLaw l9 xs) μ d (pc + 1) lv (.int (Int32.ofNat l9) :: st) I L o) : EvG κ Z (YLaw l9 xs) μ d pc lv (.ref 2000 :: st) I L o := by
  intro v I' L' ho p l e R s m args below meth c H locs D cI cL ad A ls C Wd hl hY
  obtain ⟨-, -, y1, y2, y3, -⟩ := hY.1
  exact va_slen C.1 C.2.1 y1 y2 y3 Wd.2.2.2.1 hd (k v I' L' ho p l e R s m args below meth c H locs D cI cL ad A ls C Wd hl hY)
theorem ev_sld {i : Int32} (hd : decode μ.2.1 pc = .ok (.iaload, 1)) (k : EvG κ Z (YLaw l9 xs) μ d (pc + 1) lv (.int (xs i.toNatClampNeg) :: st) I L o) : EvG κ Z (YLaw l9 xs) μ d pc lv (.int i :: .ref 2000 :: st) I L (gd (inb i l9) o) := by
  intro v I' L' ho p l e R s m args below meth c H locs D cI cL ad A ls C Wd hl hY
  obtain ⟨hin, ho⟩ := gd_some ho
  obtain ⟨-, -, y1, y2, y3, -⟩ := hY.1
  exact va_sld C.1 C.2.1 y1 y2 y3 Wd.2.2.2.1 (inb_in hin) hd (k v I' L' ho p l e R s m args below meth c H locs D cI cL ad A ls C Wd hl hY)
theorem ev_lawret {x : Int32} (hk : κ.1 ≤ 601024 ∧ κ.2 ≤ 7293034) (hd : decode cL_law pc = .ok (.ireturn, 1)) : EvG κ ZLaw (YLaw l9 xs) M_L_law d pc lv [.int x] I L (some (some (.int x), I, L)) := by
  intro v I' L' ho p l e R s m args below meth c H locs D cI cL ad A ls C Wd hl hY
  cases ho
  by_cases hx : x = 1
  · subst hx
    refine va_forget (fun q hq => hY.1.2.1 _ (Wd.2.2.2.1.2.2 q hq)) ?_
    refine W.widen (k := 601024) (n := 7293034) hk.1 hk.2 ?_
    intro T hT X
    obtain ⟨t, a1, b1⟩ := law_fin (H := H) (ls := ls) C.1 C.2.1 C.2.2.2.1 C.2.2.2.2.2.2.1 hd T hT X
    exact ⟨t, a1, fun _ => b1⟩
  · intro T hT X
    exact ⟨_, Steps.refl _, fun h => absurd (Value.int.inj (Option.some.inj h)) hx⟩
end LAW
def SignRow (N l9 : Nat) (xs : Nat → Int32) : Prop := ∀ (d : Nat) (κ : Nat × Nat), (κ.1 + 4 ≤ 601024 ∧ κ.2 + 40 ≤ 7293034) → ∀ (lv : List (Nat × Value)) (st : List Value), (st.map fun v => v.category).sum ≤ 8 → ∀ (a b : Int32) (I : PI) (L : PL) (K : Int32 → PI → PL → RES), (∀ (x : Int32) (I1 : PI) (L1 : PL), EvG (κ.1 + 4, κ.2 + 40) ZLaw (YLaw l9 xs) M_L_law (d + 210) (374 + 3) lv (.int x :: st) I1 L1 (K x I1 L1)) → EvG κ ZLaw (YLaw l9 xs) M_L_law (d + 210) 374 lv (.ref 63 :: .int b :: .int a :: .ref 11 :: st) I L (bI (f_sign N a b I L) K)
def F_L_law_425 (N l9 : Nat) (xs : Nat → Int32) (r_23 : Int32 → PI → PL → RES) (v4 : Int32) (I : PI) (L : PL) : RES := r_23 (v4 + 7) I L
set_option maxRecDepth 100000 in
theorem E_L_law_425 {κ : Nat × Nat} (N d l9 : Nat) (xs : Nat → Int32) (hk1 : κ.1 + 4 ≤ 601024 ∧ κ.2 + 40 ≤ 7293034) (r_23 : Int32 → PI → PL → RES) (hr_23 : ∀ (v4 : Int32) (I : PI) (L : PL), EvG (κ.1 + 4, κ.2 + 40) ZLaw (YLaw l9 xs) M_L_law (d + 210) 23 [(0, .ref 2000), (1, .ref 11), (2, .ref 12), (3, .ref 63), (4, .int v4)] [] I L (r_23 v4 I L)) (v4 : Int32) (I : PI) (L : PL) : EvG (κ.1 + 4, κ.2 + 40) ZLaw (YLaw l9 xs) M_L_law (d + 210) 425 [(0, .ref 2000), (1, .ref 11), (2, .ref 12), (3, .ref 63), (4, .int v4)] [] I L (F_L_law_425 N l9 xs r_23 v4 I L) := by
  rw [F_L_law_425]
  refine ev_goto (pc := 425) 1857 (by decide) dL_law_425 ?_
  refine ev_iinc (pc := 1857) (lv' := [(4, .int (v4 + 7)), (0, .ref 2000), (1, .ref 11), (2, .ref 12), (3, .ref 63)]) dL_law_1857 4 rfl rfl 7 k_iconst_7 rfl ?_
  refine ev_goto (pc := 1860) 23 (by decide) dL_law_1860 ?_
  refine EvW.sub [1, 2, 3, 4, 0] rfl ?_
  exact hr_23 (v4 + 7) I L
def F_L_law_1342 (N l9 : Nat) (xs : Nat → Int32) (r_23 : Int32 → PI → PL → RES) (v4 : Int32) (s0 : Int32) (s2 : Int32) (I : PI) (L : PL) : RES := bI (f_X12_undo N s0 I L) (fun x151 I152 L153 => (if s2 = x151 then r_23 (v4 + 7) I152 L153 else some (some (.int 0), I152, L153)))
set_option maxRecDepth 100000 in
theorem E_L_law_1342 {κ : Nat × Nat} (N d l9 : Nat) (xs : Nat → Int32) (hk1 : κ.1 + 4 ≤ 601024 ∧ κ.2 + 40 ≤ 7293034) (r_23 : Int32 → PI → PL → RES) (hr_23 : ∀ (v4 : Int32) (I : PI) (L : PL), EvG (κ.1 + 4, κ.2 + 40) ZLaw (YLaw l9 xs) M_L_law (d + 210) 23 [(0, .ref 2000), (1, .ref 11), (2, .ref 12), (3, .ref 63), (4, .int v4)] [] I L (r_23 v4 I L)) (v4 : Int32) (s0 : Int32) (s2 : Int32) (I : PI) (L : PL) : EvG (κ.1 + 4, κ.2 + 40) ZLaw (YLaw l9 xs) M_L_law (d + 210) 1342 [(0, .ref 2000), (1, .ref 11), (2, .ref 12), (3, .ref 63), (4, .int v4)] [.int s0, .ref 12, .int s2] I L (F_L_law_1342 N l9 xs r_23 v4 s0 s2 I L) := by
  rw [F_L_law_1342]
  refine ev_callVI (pc := 1342) (d := d + 209) (As := [.int s0]) (st := [.int s2]) cv_X12_undo rfl w_1180 rfl (Nat.le_of_ble_eq_true rfl) (ok_X12_undo N (d + 207) s0 I L) dL_law_1342 (fun x151 I152 L153 => ?_)
  refine ev_icmp_eq (pc := 1345) 1857 (by decide) dL_law_1345 ?_ ?_
  · refine ev_iinc (pc := 1857) (lv' := [(4, .int (v4 + 7)), (0, .ref 2000), (1, .ref 11), (2, .ref 12), (3, .ref 63)]) dL_law_1857 4 rfl rfl 7 k_iconst_7 rfl ?_
    refine ev_goto (pc := 1860) 23 (by decide) dL_law_1860 ?_
    refine EvW.sub [1, 2, 3, 4, 0] rfl ?_
    exact hr_23 (v4 + 7) I152 L153
  · refine ev_iconst (pc := 1348) 0 k_iconst_0 dL_law_1348 ?_
    exact ev_lawret (pc := 1349) hk1 dL_law_1349
def F_L_law_1324 (N l9 : Nat) (xs : Nat → Int32) (r_23 : Int32 → PI → PL → RES) (v4 : Int32) (s0 : Int32) (I : PI) (L : PL) : RES := bI (f_X11_undo N s0 I L) (fun x148 I149 L150 => gd (inb (v4 + 1) l9) ((if (xs (Int32.toNatClampNeg (v4 + 1))) = 0 then F_L_law_1342 N l9 xs r_23 v4 0 x148 I149 L150 else F_L_law_1342 N l9 xs r_23 v4 1 x148 I149 L150)))
set_option maxRecDepth 100000 in
theorem E_L_law_1324 {κ : Nat × Nat} (N d l9 : Nat) (xs : Nat → Int32) (hk1 : κ.1 + 4 ≤ 601024 ∧ κ.2 + 40 ≤ 7293034) (r_23 : Int32 → PI → PL → RES) (hr_23 : ∀ (v4 : Int32) (I : PI) (L : PL), EvG (κ.1 + 4, κ.2 + 40) ZLaw (YLaw l9 xs) M_L_law (d + 210) 23 [(0, .ref 2000), (1, .ref 11), (2, .ref 12), (3, .ref 63), (4, .int v4)] [] I L (r_23 v4 I L)) (v4 : Int32) (s0 : Int32) (I : PI) (L : PL) : EvG (κ.1 + 4, κ.2 + 40) ZLaw (YLaw l9 xs) M_L_law (d + 210) 1324 [(0, .ref 2000), (1, .ref 11), (2, .ref 12), (3, .ref 63), (4, .int v4)] [.int s0, .ref 11] I L (F_L_law_1324 N l9 xs r_23 v4 s0 I L) := by
  rw [F_L_law_1324]
  refine ev_callVI (pc := 1324) (d := d + 209) (As := [.int s0]) (st := []) cv_X11_undo rfl w_1176 rfl (Nat.le_of_ble_eq_true rfl) (ok_X11_undo N (d + 207) s0 I L) dL_law_1324 (fun x148 I149 L150 => ?_)
  refine ev_aload_n (pc := 1327) 2 dL_law_1327 rfl ?_
  refine ev_aload_n (pc := 1328) 0 dL_law_1328 rfl ?_
  refine ev_iload (pc := 1329) 4 dL_law_1329 rfl ?_
  refine ev_iconst (pc := 1331) 1 k_iconst_1 dL_law_1331 ?_
  refine ev_iadd (pc := 1332) dL_law_1332 ?_
  refine ev_sld (pc := 1333) dL_law_1333 ?_
  refine ev_if_eq (pc := 1334) 1341 (by decide) dL_law_1334 ?_ ?_
  · refine ev_iconst (pc := 1341) 0 k_iconst_0 dL_law_1341 ?_
    exact E_L_law_1342 N d l9 xs hk1 r_23 hr_23 v4 0 x148 I149 L150
  · refine ev_iconst (pc := 1337) 1 k_iconst_1 dL_law_1337 ?_
    refine ev_goto (pc := 1338) 1342 (by decide) dL_law_1338 ?_
    exact E_L_law_1342 N d l9 xs hk1 r_23 hr_23 v4 1 x148 I149 L150
def F_L_law_23 (N l9 : Nat) (xs : Nat → Int32) : Nat → Int32 → PI → PL → RES
  | 0, _, _, _ => none
  | n + 1, v4, I, L => (if ((Int32.ofNat l9) - 7) < v4 then some (some (.int 1), I, L) else gd (inb v4 l9) (swT 0 [gd (inb (v4 + 1) l9) (gd (inb (v4 + 2) l9) (gd (inb (v4 + 3) l9) (gd (inb (v4 + 4) l9) (gd (inb (v4 + 5) l9) (bI (f_X11_feed N (xs (Int32.toNatClampNeg (v4 + 1))) (xs (Int32.toNatClampNeg (v4 + 2))) (xs (Int32.toNatClampNeg (v4 + 3))) (xs (Int32.toNatClampNeg (v4 + 4))) (xs (Int32.toNatClampNeg (v4 + 5))) I L) (fun x1 I2 L3 => gd (inb (v4 + 1) l9) (gd (inb (v4 + 2) l9) (gd (inb (v4 + 3) l9) (gd (inb (v4 + 4) l9) (gd (inb (v4 + 5) l9) (bI (f_X12_feed N (xs (Int32.toNatClampNeg (v4 + 1))) (xs (Int32.toNatClampNeg (v4 + 2))) (xs (Int32.toNatClampNeg (v4 + 3))) (xs (Int32.toNatClampNeg (v4 + 4))) (xs (Int32.toNatClampNeg (v4 + 5))) I2 L3) (fun x4 I5 L6 => (if x1 = x4 then (F_L_law_23 N l9 xs n) (v4 + 7) I5 L6 else some (some (.int 0), I5, L6)))))))))))))), gd (inb (v4 + 1) l9) (bI (f_X11_end N (xs (Int32.toNatClampNeg (v4 + 1))) I L) (fun x7 I8 L9 => gd (inb (v4 + 1) l9) (bI (f_X12_end N (xs (Int32.toNatClampNeg (v4 + 1))) I8 L9) (fun x10 I11 L12 => (if x7 = x10 then (F_L_law_23 N l9 xs n) (v4 + 7) I11 L12 else some (some (.int 0), I11, L12)))))), gd (inb (v4 + 1) l9) (bI (f_X11_fault N (xs (Int32.toNatClampNeg (v4 + 1))) I L) (fun x13 I14 L15 => gd (inb (v4 + 1) l9) (bI (f_X12_fault N (xs (Int32.toNatClampNeg (v4 + 1))) I14 L15) (fun x16 I17 L18 => (if x13 = x16 then (F_L_law_23 N l9 xs n) (v4 + 7) I17 L18 else some (some (.int 0), I17, L18)))))), gd (inb (v4 + 1) l9) (bI (f_X11_text N (xs (Int32.toNatClampNeg (v4 + 1))) I L) (fun x19 I20 L21 => gd (inb (v4 + 1) l9) (bI (f_X12_text N (xs (Int32.toNatClampNeg (v4 + 1))) I20 L21) (fun x22 I23 L24 => (if x19 = x22 then (F_L_law_23 N l9 xs n) (v4 + 7) I23 L24 else some (some (.int 0), I23, L24)))))), gd (inb (v4 + 1) l9) (gd (inb (v4 + 2) l9) (bI (f_sign N (xs (Int32.toNatClampNeg (v4 + 1))) (xs (Int32.toNatClampNeg (v4 + 2))) I L) (fun x25 I26 L27 => gd (inb (v4 + 1) l9) (gd (inb (v4 + 2) l9) (bI (f_X12_sign N (xs (Int32.toNatClampNeg (v4 + 1))) (xs (Int32.toNatClampNeg (v4 + 2))) I26 L27) (fun x28 I29 L30 => bI (f_X12_thrown N I29 L30) (fun x31 I32 L33 => (if x31 = x25 then (if x25 = 0 then gd (inb 0 1) ((if (lg_cmp (L33 63 (Int32.toNatClampNeg 0)) (Int32.toInt64 x28)) = 0 then F_L_law_425 N l9 xs (F_L_law_23 N l9 xs n) v4 I32 L33 else some (some (.int 0), I32, L33))) else F_L_law_425 N l9 xs (F_L_law_23 N l9 xs n) v4 I32 L33) else some (some (.int 0), I32, L33))))))))), gd (inb (v4 + 1) l9) (gd (inb (v4 + 2) l9) (bI (f_X11_rest N (xs (Int32.toNatClampNeg (v4 + 1))) (xs (Int32.toNatClampNeg (v4 + 2))) I L) (fun x34 I35 L36 => gd (inb (v4 + 1) l9) (gd (inb (v4 + 2) l9) (bI (f_X12_rest N (xs (Int32.toNatClampNeg (v4 + 1))) (xs (Int32.toNatClampNeg (v4 + 2))) I35 L36) (fun x37 I38 L39 => (if x34 = x37 then (F_L_law_23 N l9 xs n) (v4 + 7) I38 L39 else some (some (.int 0), I38, L39)))))))), gd (inb (v4 + 1) l9) (gd (inb (v4 + 2) l9) (gd (inb (v4 + 3) l9) (bI (f_X11_weight N (xs (Int32.toNatClampNeg (v4 + 1))) (xs (Int32.toNatClampNeg (v4 + 2))) (xs (Int32.toNatClampNeg (v4 + 3))) I L) (fun x40 I41 L42 => gd (inb (v4 + 1) l9) (gd (inb (v4 + 2) l9) (gd (inb (v4 + 3) l9) (bI (f_X12_weight N (xs (Int32.toNatClampNeg (v4 + 1))) (xs (Int32.toNatClampNeg (v4 + 2))) (xs (Int32.toNatClampNeg (v4 + 3))) I41 L42) (fun x43 I44 L45 => (if x40 = x43 then (F_L_law_23 N l9 xs n) (v4 + 7) I44 L45 else some (some (.int 0), I44, L45)))))))))), gd (inb (v4 + 1) l9) (gd (inb (v4 + 2) l9) (gd (inb (v4 + 3) l9) (gd (inb (v4 + 4) l9) (gd (inb (v4 + 5) l9) (gd (inb (v4 + 6) l9) (bI (f_X11_comes N (xs (Int32.toNatClampNeg (v4 + 1))) (xs (Int32.toNatClampNeg (v4 + 2))) (xs (Int32.toNatClampNeg (v4 + 3))) (xs (Int32.toNatClampNeg (v4 + 4))) (xs (Int32.toNatClampNeg (v4 + 5))) (xs (Int32.toNatClampNeg (v4 + 6))) I L) (fun x46 I47 L48 => gd (inb (v4 + 1) l9) (gd (inb (v4 + 2) l9) (gd (inb (v4 + 3) l9) (gd (inb (v4 + 4) l9) (gd (inb (v4 + 5) l9) (gd (inb (v4 + 6) l9) (bI (f_X12_comes N (xs (Int32.toNatClampNeg (v4 + 1))) (xs (Int32.toNatClampNeg (v4 + 2))) (xs (Int32.toNatClampNeg (v4 + 3))) (xs (Int32.toNatClampNeg (v4 + 4))) (xs (Int32.toNatClampNeg (v4 + 5))) (xs (Int32.toNatClampNeg (v4 + 6))) I47 L48) (fun x49 I50 L51 => (if x46 = x49 then (F_L_law_23 N l9 xs n) (v4 + 7) I50 L51 else some (some (.int 0), I50, L51)))))))))))))))), gd (inb (v4 + 1) l9) (gd (inb (v4 + 2) l9) (gd (inb (v4 + 3) l9) (bI (f_X11_lobes N (xs (Int32.toNatClampNeg (v4 + 1))) (xs (Int32.toNatClampNeg (v4 + 2))) (xs (Int32.toNatClampNeg (v4 + 3))) I L) (fun x52 I53 L54 => gd (inb (v4 + 1) l9) (gd (inb (v4 + 2) l9) (gd (inb (v4 + 3) l9) (bI (f_X12_lobes N (xs (Int32.toNatClampNeg (v4 + 1))) (xs (Int32.toNatClampNeg (v4 + 2))) (xs (Int32.toNatClampNeg (v4 + 3))) I53 L54) (fun x55 I56 L57 => (if x52 = x55 then (F_L_law_23 N l9 xs n) (v4 + 7) I56 L57 else some (some (.int 0), I56, L57)))))))))), gd (inb (v4 + 1) l9) (gd (inb (v4 + 2) l9) (bI (f_X11_hinder N (xs (Int32.toNatClampNeg (v4 + 1))) (xs (Int32.toNatClampNeg (v4 + 2))) I L) (fun x58 I59 L60 => gd (inb (v4 + 1) l9) (gd (inb (v4 + 2) l9) (bI (f_X12_hinder N (xs (Int32.toNatClampNeg (v4 + 1))) (xs (Int32.toNatClampNeg (v4 + 2))) I59 L60) (fun x61 I62 L63 => (if x58 = x61 then (F_L_law_23 N l9 xs n) (v4 + 7) I62 L63 else some (some (.int 0), I62, L63)))))))), gd (inb (v4 + 1) l9) (bI (f_X11_friends N (xs (Int32.toNatClampNeg (v4 + 1))) I L) (fun x64 I65 L66 => gd (inb (v4 + 1) l9) (bI (f_X12_friends N (xs (Int32.toNatClampNeg (v4 + 1))) I65 L66) (fun x67 I68 L69 => (if x64 = x67 then (F_L_law_23 N l9 xs n) (v4 + 7) I68 L69 else some (some (.int 0), I68, L69)))))), gd (inb (v4 + 1) l9) (gd (inb (v4 + 2) l9) (bI (f_X11_best N (xs (Int32.toNatClampNeg (v4 + 1))) (xs (Int32.toNatClampNeg (v4 + 2))) I L) (fun x70 I71 L72 => gd (inb (v4 + 1) l9) (gd (inb (v4 + 2) l9) (bI (f_X12_best N (xs (Int32.toNatClampNeg (v4 + 1))) (xs (Int32.toNatClampNeg (v4 + 2))) I71 L72) (fun x73 I74 L75 => (if x70 = x73 then (F_L_law_23 N l9 xs n) (v4 + 7) I74 L75 else some (some (.int 0), I74, L75)))))))), gd (inb (v4 + 1) l9) (gd (inb (v4 + 2) l9) (bI (f_X11_filter N (xs (Int32.toNatClampNeg (v4 + 1))) (xs (Int32.toNatClampNeg (v4 + 2))) I L) (fun x76 I77 L78 => gd (inb (v4 + 1) l9) (gd (inb (v4 + 2) l9) (bI (f_X12_filter N (xs (Int32.toNatClampNeg (v4 + 1))) (xs (Int32.toNatClampNeg (v4 + 2))) I77 L78) (fun x79 I80 L81 => (if x76 = x79 then (F_L_law_23 N l9 xs n) (v4 + 7) I80 L81 else some (some (.int 0), I80, L81)))))))), gd (inb (v4 + 1) l9) (gd (inb (v4 + 2) l9) (bI (f_X11_set N (xs (Int32.toNatClampNeg (v4 + 1))) (xs (Int32.toNatClampNeg (v4 + 2))) I L) (fun x82 I83 L84 => gd (inb (v4 + 1) l9) (gd (inb (v4 + 2) l9) (bI (f_X12_set N (xs (Int32.toNatClampNeg (v4 + 1))) (xs (Int32.toNatClampNeg (v4 + 2))) I83 L84) (fun x85 I86 L87 => (if x82 = x85 then (F_L_law_23 N l9 xs n) (v4 + 7) I86 L87 else some (some (.int 0), I86, L87)))))))), gd (inb (v4 + 1) l9) (gd (inb (v4 + 2) l9) (bI (f_X11_seen N (xs (Int32.toNatClampNeg (v4 + 1))) (xs (Int32.toNatClampNeg (v4 + 2))) I L) (fun x88 I89 L90 => gd (inb (v4 + 1) l9) (gd (inb (v4 + 2) l9) (bI (f_X12_seen N (xs (Int32.toNatClampNeg (v4 + 1))) (xs (Int32.toNatClampNeg (v4 + 2))) I89 L90) (fun x91 I92 L93 => (if x88 = x91 then (F_L_law_23 N l9 xs n) (v4 + 7) I92 L93 else some (some (.int 0), I92, L93)))))))), gd (inb (v4 + 1) l9) (gd (inb (v4 + 2) l9) (gd (inb (v4 + 3) l9) (bI (f_X11_map N (xs (Int32.toNatClampNeg (v4 + 1))) (xs (Int32.toNatClampNeg (v4 + 2))) (xs (Int32.toNatClampNeg (v4 + 3))) I L) (fun x94 I95 L96 => gd (inb (v4 + 1) l9) (gd (inb (v4 + 2) l9) (gd (inb (v4 + 3) l9) (bI (f_X12_map N (xs (Int32.toNatClampNeg (v4 + 1))) (xs (Int32.toNatClampNeg (v4 + 2))) (xs (Int32.toNatClampNeg (v4 + 3))) I95 L96) (fun x97 I98 L99 => (if x94 = x97 then (F_L_law_23 N l9 xs n) (v4 + 7) I98 L99 else some (some (.int 0), I98, L99)))))))))), gd (inb (v4 + 1) l9) (gd (inb (v4 + 2) l9) (gd (inb (v4 + 3) l9) (gd (inb (v4 + 4) l9) (bI (f_X11_choice N (xs (Int32.toNatClampNeg (v4 + 1))) (xs (Int32.toNatClampNeg (v4 + 2))) (xs (Int32.toNatClampNeg (v4 + 3))) (xs (Int32.toNatClampNeg (v4 + 4))) I L) (fun x100 I101 L102 => gd (inb (v4 + 1) l9) (gd (inb (v4 + 2) l9) (gd (inb (v4 + 3) l9) (gd (inb (v4 + 4) l9) (bI (f_X12_choice N (xs (Int32.toNatClampNeg (v4 + 1))) (xs (Int32.toNatClampNeg (v4 + 2))) (xs (Int32.toNatClampNeg (v4 + 3))) (xs (Int32.toNatClampNeg (v4 + 4))) I101 L102) (fun x103 I104 L105 => (if x100 = x103 then (F_L_law_23 N l9 xs n) (v4 + 7) I104 L105 else some (some (.int 0), I104, L105)))))))))))), gd (inb (v4 + 1) l9) (gd (inb (v4 + 2) l9) (bI (f_X11_read N (xs (Int32.toNatClampNeg (v4 + 1))) (xs (Int32.toNatClampNeg (v4 + 2))) I L) (fun x106 I107 L108 => gd (inb (v4 + 1) l9) (gd (inb (v4 + 2) l9) (bI (f_X12_read N (xs (Int32.toNatClampNeg (v4 + 1))) (xs (Int32.toNatClampNeg (v4 + 2))) I107 L108) (fun x109 I110 L111 => (if x106 = x109 then (F_L_law_23 N l9 xs n) (v4 + 7) I110 L111 else some (some (.int 0), I110, L111)))))))), gd (inb (v4 + 1) l9) (gd (inb (v4 + 2) l9) (gd (inb (v4 + 3) l9) (gd (inb (v4 + 4) l9) (gd (inb (v4 + 5) l9) (bI (f_X11_unfold N (xs (Int32.toNatClampNeg (v4 + 1))) (xs (Int32.toNatClampNeg (v4 + 2))) (xs (Int32.toNatClampNeg (v4 + 3))) (xs (Int32.toNatClampNeg (v4 + 4))) (xs (Int32.toNatClampNeg (v4 + 5))) I L) (fun x112 I113 L114 => gd (inb (v4 + 1) l9) (gd (inb (v4 + 2) l9) (gd (inb (v4 + 3) l9) (gd (inb (v4 + 4) l9) (gd (inb (v4 + 5) l9) (bI (f_X12_unfold N (xs (Int32.toNatClampNeg (v4 + 1))) (xs (Int32.toNatClampNeg (v4 + 2))) (xs (Int32.toNatClampNeg (v4 + 3))) (xs (Int32.toNatClampNeg (v4 + 4))) (xs (Int32.toNatClampNeg (v4 + 5))) I113 L114) (fun x115 I116 L117 => (if x112 = x115 then (F_L_law_23 N l9 xs n) (v4 + 7) I116 L117 else some (some (.int 0), I116, L117)))))))))))))), gd (inb (v4 + 1) l9) (gd (inb (v4 + 2) l9) (gd (inb (v4 + 3) l9) (gd (inb (v4 + 4) l9) (bI (f_X11_ghosts N (xs (Int32.toNatClampNeg (v4 + 1))) (xs (Int32.toNatClampNeg (v4 + 2))) (xs (Int32.toNatClampNeg (v4 + 3))) (xs (Int32.toNatClampNeg (v4 + 4))) I L) (fun x118 I119 L120 => gd (inb (v4 + 1) l9) (gd (inb (v4 + 2) l9) (gd (inb (v4 + 3) l9) (gd (inb (v4 + 4) l9) (bI (f_X12_ghosts N (xs (Int32.toNatClampNeg (v4 + 1))) (xs (Int32.toNatClampNeg (v4 + 2))) (xs (Int32.toNatClampNeg (v4 + 3))) (xs (Int32.toNatClampNeg (v4 + 4))) I119 L120) (fun x121 I122 L123 => (if x118 = x121 then (F_L_law_23 N l9 xs n) (v4 + 7) I122 L123 else some (some (.int 0), I122, L123)))))))))))), gd (inb (v4 + 1) l9) (bI (f_X11_cell N (xs (Int32.toNatClampNeg (v4 + 1))) I L) (fun x124 I125 L126 => gd (inb (v4 + 1) l9) (bI (f_X12_cell N (xs (Int32.toNatClampNeg (v4 + 1))) I125 L126) (fun x127 I128 L129 => (if x124 = x127 then (F_L_law_23 N l9 xs n) (v4 + 7) I128 L129 else some (some (.int 0), I128, L129)))))), gd (inb (v4 + 1) l9) (gd (inb (v4 + 2) l9) (bI (f_X11_change N (xs (Int32.toNatClampNeg (v4 + 1))) (xs (Int32.toNatClampNeg (v4 + 2))) I L) (fun x130 I131 L132 => gd (inb (v4 + 1) l9) (gd (inb (v4 + 2) l9) (bI (f_X12_change N (xs (Int32.toNatClampNeg (v4 + 1))) (xs (Int32.toNatClampNeg (v4 + 2))) I131 L132) (fun x133 I134 L135 => (if x130 = x133 then (F_L_law_23 N l9 xs n) (v4 + 7) I134 L135 else some (some (.int 0), I134, L135)))))))), gd (inb (v4 + 1) l9) (gd (inb (v4 + 2) l9) (gd (inb (v4 + 3) l9) (gd (inb (v4 + 4) l9) (bI (f_X11_draw N (xs (Int32.toNatClampNeg (v4 + 1))) (xs (Int32.toNatClampNeg (v4 + 2))) ((jlshl (Int32.toInt64 (xs (Int32.toNatClampNeg (v4 + 3)))) 32) ||| ((Int32.toInt64 (xs (Int32.toNatClampNeg (v4 + 4)))) &&& 4294967295)) I L) (fun x136 I137 L138 => gd (inb (v4 + 1) l9) (gd (inb (v4 + 2) l9) (gd (inb (v4 + 3) l9) (gd (inb (v4 + 4) l9) (bI (f_X12_draw N (xs (Int32.toNatClampNeg (v4 + 1))) (xs (Int32.toNatClampNeg (v4 + 2))) ((jlshl (Int32.toInt64 (xs (Int32.toNatClampNeg (v4 + 3)))) 32) ||| ((Int32.toInt64 (xs (Int32.toNatClampNeg (v4 + 4)))) &&& 4294967295)) I137 L138) (fun x139 I140 L141 => (if x136 = x139 then (F_L_law_23 N l9 xs n) (v4 + 7) I140 L141 else some (some (.int 0), I140, L141)))))))))))), gd (inb (v4 + 1) l9) (bI (f_X11_at N (xs (Int32.toNatClampNeg (v4 + 1))) I L) (fun x142 I143 L144 => gd (inb (v4 + 1) l9) (bI (f_X12_at N (xs (Int32.toNatClampNeg (v4 + 1))) I143 L144) (fun x145 I146 L147 => (if x142 = x145 then (F_L_law_23 N l9 xs n) (v4 + 7) I146 L147 else some (some (.int 0), I146, L147)))))), gd (inb (v4 + 1) l9) ((if (xs (Int32.toNatClampNeg (v4 + 1))) = 0 then F_L_law_1324 N l9 xs (F_L_law_23 N l9 xs n) v4 0 I L else F_L_law_1324 N l9 xs (F_L_law_23 N l9 xs n) v4 1 I L)), gd (inb (v4 + 1) l9) (bI (f_X11_found N (xs (Int32.toNatClampNeg (v4 + 1))) I L) (fun x154 I155 L156 => gd (inb (v4 + 1) l9) (bI (f_X12_found N (xs (Int32.toNatClampNeg (v4 + 1))) I155 L156) (fun x157 I158 L159 => (if x154 = x157 then (F_L_law_23 N l9 xs n) (v4 + 7) I158 L159 else some (some (.int 0), I158, L159)))))), bI (f_X11_alarms N I L) (fun x160 I161 L162 => bI (f_X12_alarms N I161 L162) (fun x163 I164 L165 => (if x160 = x163 then (F_L_law_23 N l9 xs n) (v4 + 7) I164 L165 else some (some (.int 0), I164, L165)))), gd (inb (v4 + 1) l9) (gd (inb (v4 + 2) l9) (gd (inb (v4 + 3) l9) (gd (inb (v4 + 4) l9) (gd (inb (v4 + 5) l9) (bJ (f_X11_share N (xs (Int32.toNatClampNeg (v4 + 1))) (xs (Int32.toNatClampNeg (v4 + 2))) (xs (Int32.toNatClampNeg (v4 + 3))) (xs (Int32.toNatClampNeg (v4 + 4))) (xs (Int32.toNatClampNeg (v4 + 5))) I L) (fun x166 I167 L168 => gd (inb (v4 + 1) l9) (gd (inb (v4 + 2) l9) (gd (inb (v4 + 3) l9) (gd (inb (v4 + 4) l9) (gd (inb (v4 + 5) l9) (bJ (f_X12_share N (xs (Int32.toNatClampNeg (v4 + 1))) (xs (Int32.toNatClampNeg (v4 + 2))) (xs (Int32.toNatClampNeg (v4 + 3))) (xs (Int32.toNatClampNeg (v4 + 4))) (xs (Int32.toNatClampNeg (v4 + 5))) I167 L168) (fun x169 I170 L171 => (if (lg_cmp x166 x169) = 0 then (F_L_law_23 N l9 xs n) (v4 + 7) I170 L171 else some (some (.int 0), I170, L171)))))))))))))), gd (inb (v4 + 1) l9) (gd (inb (v4 + 2) l9) (gd (inb (v4 + 3) l9) (bI (f_X11_beam N (xs (Int32.toNatClampNeg (v4 + 1))) (xs (Int32.toNatClampNeg (v4 + 2))) (xs (Int32.toNatClampNeg (v4 + 3))) I L) (fun x172 I173 L174 => gd (inb (v4 + 1) l9) (gd (inb (v4 + 2) l9) (gd (inb (v4 + 3) l9) (bI (f_X12_beam N (xs (Int32.toNatClampNeg (v4 + 1))) (xs (Int32.toNatClampNeg (v4 + 2))) (xs (Int32.toNatClampNeg (v4 + 3))) I173 L174) (fun x175 I176 L177 => (if x172 = x175 then (F_L_law_23 N l9 xs n) (v4 + 7) I176 L177 else some (some (.int 0), I176, L177)))))))))), gd (inb (v4 + 1) l9) (bI (f_X11_plan N (xs (Int32.toNatClampNeg (v4 + 1))) I L) (fun x178 I179 L180 => gd (inb (v4 + 1) l9) (bI (f_X12_plan N (xs (Int32.toNatClampNeg (v4 + 1))) I179 L180) (fun x181 I182 L183 => (if x178 = x181 then (F_L_law_23 N l9 xs n) (v4 + 7) I182 L183 else some (some (.int 0), I182, L183)))))), gd (inb (v4 + 1) l9) (gd (inb (v4 + 2) l9) (bI (f_X11_like N (xs (Int32.toNatClampNeg (v4 + 1))) (xs (Int32.toNatClampNeg (v4 + 2))) I L) (fun x184 I185 L186 => gd (inb (v4 + 1) l9) (gd (inb (v4 + 2) l9) (bI (f_X12_like N (xs (Int32.toNatClampNeg (v4 + 1))) (xs (Int32.toNatClampNeg (v4 + 2))) I185 L186) (fun x187 I188 L189 => (if x184 = x187 then (F_L_law_23 N l9 xs n) (v4 + 7) I188 L189 else some (some (.int 0), I188, L189)))))))), gd (inb (v4 + 1) l9) (gd (inb (v4 + 2) l9) (bI (f_X11_partners N (xs (Int32.toNatClampNeg (v4 + 1))) (xs (Int32.toNatClampNeg (v4 + 2))) I L) (fun x190 I191 L192 => gd (inb (v4 + 1) l9) (gd (inb (v4 + 2) l9) (bI (f_X12_partners N (xs (Int32.toNatClampNeg (v4 + 1))) (xs (Int32.toNatClampNeg (v4 + 2))) I191 L192) (fun x193 I194 L195 => (if x190 = x193 then (F_L_law_23 N l9 xs n) (v4 + 7) I194 L195 else some (some (.int 0), I194, L195)))))))), gd (inb (v4 + 1) l9) (gd (inb (v4 + 2) l9) (bI (f_X11_cancel N (xs (Int32.toNatClampNeg (v4 + 1))) (xs (Int32.toNatClampNeg (v4 + 2))) I L) (fun x196 I197 L198 => gd (inb (v4 + 1) l9) (gd (inb (v4 + 2) l9) (bI (f_X12_cancel N (xs (Int32.toNatClampNeg (v4 + 1))) (xs (Int32.toNatClampNeg (v4 + 2))) I197 L198) (fun x199 I200 L201 => (if x196 = x199 then (F_L_law_23 N l9 xs n) (v4 + 7) I200 L201 else some (some (.int 0), I200, L201)))))))), gd (inb (v4 + 1) l9) (gd (inb (v4 + 2) l9) (gd (inb (v4 + 3) l9) (gd (inb (v4 + 4) l9) (gd (inb (v4 + 5) l9) (bI (f_X11_stagger N (xs (Int32.toNatClampNeg (v4 + 1))) (xs (Int32.toNatClampNeg (v4 + 2))) (xs (Int32.toNatClampNeg (v4 + 3))) (xs (Int32.toNatClampNeg (v4 + 4))) (xs (Int32.toNatClampNeg (v4 + 5))) I L) (fun x202 I203 L204 => gd (inb (v4 + 1) l9) (gd (inb (v4 + 2) l9) (gd (inb (v4 + 3) l9) (gd (inb (v4 + 4) l9) (gd (inb (v4 + 5) l9) (bI (f_X12_stagger N (xs (Int32.toNatClampNeg (v4 + 1))) (xs (Int32.toNatClampNeg (v4 + 2))) (xs (Int32.toNatClampNeg (v4 + 3))) (xs (Int32.toNatClampNeg (v4 + 4))) (xs (Int32.toNatClampNeg (v4 + 5))) I203 L204) (fun x205 I206 L207 => (if x202 = x205 then (F_L_law_23 N l9 xs n) (v4 + 7) I206 L207 else some (some (.int 0), I206, L207)))))))))))))), gd (inb (v4 + 1) l9) (gd (inb (v4 + 2) l9) (gd (inb (v4 + 3) l9) (gd (inb (v4 + 4) l9) (bI (f_X11_factor N (xs (Int32.toNatClampNeg (v4 + 1))) (xs (Int32.toNatClampNeg (v4 + 2))) (xs (Int32.toNatClampNeg (v4 + 3))) (xs (Int32.toNatClampNeg (v4 + 4))) I L) (fun x208 I209 L210 => gd (inb (v4 + 1) l9) (gd (inb (v4 + 2) l9) (gd (inb (v4 + 3) l9) (gd (inb (v4 + 4) l9) (bI (f_X12_factor N (xs (Int32.toNatClampNeg (v4 + 1))) (xs (Int32.toNatClampNeg (v4 + 2))) (xs (Int32.toNatClampNeg (v4 + 3))) (xs (Int32.toNatClampNeg (v4 + 4))) I209 L210) (fun x211 I212 L213 => (if x208 = x211 then (F_L_law_23 N l9 xs n) (v4 + 7) I212 L213 else some (some (.int 0), I212, L213)))))))))))), gd (inb (v4 + 1) l9) (bI (f_X11_heaps N (xs (Int32.toNatClampNeg (v4 + 1))) I L) (fun x214 I215 L216 => gd (inb (v4 + 1) l9) (bI (f_X12_heaps N (xs (Int32.toNatClampNeg (v4 + 1))) I215 L216) (fun x217 I218 L219 => (if x214 = x217 then (F_L_law_23 N l9 xs n) (v4 + 7) I218 L219 else some (some (.int 0), I218, L219)))))), bI (f_X11_image N I L) (fun x220 I221 L222 => bI (f_X12_image N I221 L222) (fun x223 I224 L225 => (if x220 = x223 then (F_L_law_23 N l9 xs n) (v4 + 7) I224 L225 else some (some (.int 0), I224, L225)))), bI (f_X11_back N I L) (fun x226 I227 L228 => bI (f_X12_back N I227 L228) (fun x229 I230 L231 => (if x226 = x229 then (F_L_law_23 N l9 xs n) (v4 + 7) I230 L231 else some (some (.int 0), I230, L231)))), gd (inb (v4 + 1) l9) (bI (f_X11_count N (xs (Int32.toNatClampNeg (v4 + 1))) I L) (fun x232 I233 L234 => gd (inb (v4 + 1) l9) (bI (f_X12_count N (xs (Int32.toNatClampNeg (v4 + 1))) I233 L234) (fun x235 I236 L237 => (if x232 = x235 then (F_L_law_23 N l9 xs n) (v4 + 7) I236 L237 else some (some (.int 0), I236, L237))))))] ((F_L_law_23 N l9 xs n) (v4 + 7) I L) ((xs (Int32.toNatClampNeg v4)) &&& 63)))
set_option maxRecDepth 100000 in
set_option maxHeartbeats 4000000 in
theorem E_L_law_23 (N d l9 : Nat) (xs : Nat → Int32) (hsgn : SignRow N l9 xs) : ∀ (n : Nat) (κ : Nat × Nat) (v4 : Int32) (I : PI) (L : PL), κ.1 + 4 * n ≤ 601024 → κ.2 + 40 * n ≤ 7293034 → EvG κ ZLaw (YLaw l9 xs) M_L_law (d + 210) 23 [(0, .ref 2000), (1, .ref 11), (2, .ref 12), (3, .ref 63), (4, .int v4)] [] I L (F_L_law_23 N l9 xs n v4 I L) := by
  intro n
  induction n with
  | zero =>
    intro κ v4 I L _ _
    exact EvW.none
  | succ n ih =>
    intro κ v4 I L hb1 hb2
    have hk0 : κ.1 ≤ 601024 ∧ κ.2 ≤ 7293034 := ⟨by omega, by omega⟩
    have hk1 : κ.1 + 4 ≤ 601024 ∧ κ.2 + 40 ≤ 7293034 := ⟨by omega, by omega⟩
    have hκ : ∀ (l : Launch) (R : Room) (s : State) (ad : Nat → Nat) (A : Nat → Prop), YLaw l9 xs l R s ad A → κ.1 + 4 ≤ R.cells ∧ κ.2 + 40 ≤ R.slots := fun l R s ad A h => ⟨Nat.le_trans hk1.1 h.1.1, Nat.le_trans hk1.2 h.1.2⟩
    have hr_23 : ∀ (v4 : Int32) (I : PI) (L : PL), EvG (κ.1 + 4, κ.2 + 40) ZLaw (YLaw l9 xs) M_L_law (d + 210) 23 [(0, .ref 2000), (1, .ref 11), (2, .ref 12), (3, .ref 63), (4, .int v4)] [] I L (F_L_law_23 N l9 xs n v4 I L) := fun v4 I L => ih (κ.1 + 4, κ.2 + 40) v4 I L (by show κ.1 + 4 + 4 * n ≤ 601024; omega) (by show κ.2 + 40 + 40 * n ≤ 7293034; omega)
    rw [F_L_law_23]
    refine ev_iload (pc := 23) 4 dL_law_23 rfl ?_
    refine ev_aload_n (pc := 25) 0 dL_law_25 rfl ?_
    refine ev_slen (pc := 26) dL_law_26 ?_
    refine ev_bipush (pc := 27) 7 k_bipush_7 dL_law_27 ?_
    refine ev_isub (pc := 29) dL_law_29 ?_
    refine ev_icmp_gt (pc := 30) 1863 (by decide) dL_law_30 ?_ ?_
    · refine ev_iconst (pc := 1863) 1 k_iconst_1 dL_law_1863 ?_
      exact ev_lawret (pc := 1864) hk0 dL_law_1864
    · refine ev_aload_n (pc := 33) 0 dL_law_33 rfl ?_
      refine ev_iload (pc := 34) 4 dL_law_34 rfl ?_
      refine ev_sld (pc := 36) dL_law_36 ?_
      refine ev_bipush (pc := 37) 63 k_bipush_63 dL_law_37 ?_
      refine ev_iand (pc := 39) dL_law_39 ?_
      refine ev_table (pc := 40) 1857 (by decide) rfl dL_law_40 ⟨⟨212, by decide, ?_⟩, ⟨285, by decide, ?_⟩, ⟨310, by decide, ?_⟩, ⟨335, by decide, ?_⟩, ⟨360, by decide, ?_⟩, ⟨428, by decide, ?_⟩, ⟨465, by decide, ?_⟩, ⟨514, by decide, ?_⟩, ⟨601, by decide, ?_⟩, ⟨650, by decide, ?_⟩, ⟨687, by decide, ?_⟩, ⟨712, by decide, ?_⟩, ⟨749, by decide, ?_⟩, ⟨786, by decide, ?_⟩, ⟨823, by decide, ?_⟩, ⟨860, by decide, ?_⟩, ⟨909, by decide, ?_⟩, ⟨970, by decide, ?_⟩, ⟨1007, by decide, ?_⟩, ⟨1080, by decide, ?_⟩, ⟨1141, by decide, ?_⟩, ⟨1166, by decide, ?_⟩, ⟨1203, by decide, ?_⟩, ⟨1284, by decide, ?_⟩, ⟨1309, by decide, ?_⟩, ⟨1350, by decide, ?_⟩, ⟨1375, by decide, ?_⟩, ⟨1388, by decide, ?_⟩, ⟨1462, by decide, ?_⟩, ⟨1511, by decide, ?_⟩, ⟨1536, by decide, ?_⟩, ⟨1573, by decide, ?_⟩, ⟨1610, by decide, ?_⟩, ⟨1647, by decide, ?_⟩, ⟨1720, by decide, ?_⟩, ⟨1781, by decide, ?_⟩, ⟨1806, by decide, ?_⟩, ⟨1819, by decide, ?_⟩, ⟨1832, by decide, ?_⟩, trivial⟩ ?_
      · refine EvG.wide (κ' := (κ.1 + 4, κ.2 + 40)) (Nat.le_add_right _ _) (Nat.le_add_right _ _) hκ ?_
        refine ev_aload_n (pc := 212) 1 dL_law_212 rfl ?_
        refine ev_aload_n (pc := 213) 0 dL_law_213 rfl ?_
        refine ev_iload (pc := 214) 4 dL_law_214 rfl ?_
        refine ev_iconst (pc := 216) 1 k_iconst_1 dL_law_216 ?_
        refine ev_iadd (pc := 217) dL_law_217 ?_
        refine ev_sld (pc := 218) dL_law_218 ?_
        refine ev_aload_n (pc := 219) 0 dL_law_219 rfl ?_
        refine ev_iload (pc := 220) 4 dL_law_220 rfl ?_
        refine ev_iconst (pc := 222) 2 k_iconst_2 dL_law_222 ?_
        refine ev_iadd (pc := 223) dL_law_223 ?_
        refine ev_sld (pc := 224) dL_law_224 ?_
        refine ev_aload_n (pc := 225) 0 dL_law_225 rfl ?_
        refine ev_iload (pc := 226) 4 dL_law_226 rfl ?_
        refine ev_iconst (pc := 228) 3 k_iconst_3 dL_law_228 ?_
        refine ev_iadd (pc := 229) dL_law_229 ?_
        refine ev_sld (pc := 230) dL_law_230 ?_
        refine ev_aload_n (pc := 231) 0 dL_law_231 rfl ?_
        refine ev_iload (pc := 232) 4 dL_law_232 rfl ?_
        refine ev_iconst (pc := 234) 4 k_iconst_4 dL_law_234 ?_
        refine ev_iadd (pc := 235) dL_law_235 ?_
        refine ev_sld (pc := 236) dL_law_236 ?_
        refine ev_aload_n (pc := 237) 0 dL_law_237 rfl ?_
        refine ev_iload (pc := 238) 4 dL_law_238 rfl ?_
        refine ev_iconst (pc := 240) 5 k_iconst_5 dL_law_240 ?_
        refine ev_iadd (pc := 241) dL_law_241 ?_
        refine ev_sld (pc := 242) dL_law_242 ?_
        refine ev_callVI (pc := 243) (d := d + 209) (As := [.int (xs (Int32.toNatClampNeg (v4 + 1))), .int (xs (Int32.toNatClampNeg (v4 + 2))), .int (xs (Int32.toNatClampNeg (v4 + 3))), .int (xs (Int32.toNatClampNeg (v4 + 4))), .int (xs (Int32.toNatClampNeg (v4 + 5)))]) (st := []) cv_X11_feed rfl w_983 rfl (Nat.le_of_ble_eq_true rfl) (ok_X11_feed N (d + 208) (xs (Int32.toNatClampNeg (v4 + 1))) (xs (Int32.toNatClampNeg (v4 + 2))) (xs (Int32.toNatClampNeg (v4 + 3))) (xs (Int32.toNatClampNeg (v4 + 4))) (xs (Int32.toNatClampNeg (v4 + 5))) I L) dL_law_243 (fun x1 I2 L3 => ?_)
        refine ev_aload_n (pc := 246) 2 dL_law_246 rfl ?_
        refine ev_aload_n (pc := 247) 0 dL_law_247 rfl ?_
        refine ev_iload (pc := 248) 4 dL_law_248 rfl ?_
        refine ev_iconst (pc := 250) 1 k_iconst_1 dL_law_250 ?_
        refine ev_iadd (pc := 251) dL_law_251 ?_
        refine ev_sld (pc := 252) dL_law_252 ?_
        refine ev_aload_n (pc := 253) 0 dL_law_253 rfl ?_
        refine ev_iload (pc := 254) 4 dL_law_254 rfl ?_
        refine ev_iconst (pc := 256) 2 k_iconst_2 dL_law_256 ?_
        refine ev_iadd (pc := 257) dL_law_257 ?_
        refine ev_sld (pc := 258) dL_law_258 ?_
        refine ev_aload_n (pc := 259) 0 dL_law_259 rfl ?_
        refine ev_iload (pc := 260) 4 dL_law_260 rfl ?_
        refine ev_iconst (pc := 262) 3 k_iconst_3 dL_law_262 ?_
        refine ev_iadd (pc := 263) dL_law_263 ?_
        refine ev_sld (pc := 264) dL_law_264 ?_
        refine ev_aload_n (pc := 265) 0 dL_law_265 rfl ?_
        refine ev_iload (pc := 266) 4 dL_law_266 rfl ?_
        refine ev_iconst (pc := 268) 4 k_iconst_4 dL_law_268 ?_
        refine ev_iadd (pc := 269) dL_law_269 ?_
        refine ev_sld (pc := 270) dL_law_270 ?_
        refine ev_aload_n (pc := 271) 0 dL_law_271 rfl ?_
        refine ev_iload (pc := 272) 4 dL_law_272 rfl ?_
        refine ev_iconst (pc := 274) 5 k_iconst_5 dL_law_274 ?_
        refine ev_iadd (pc := 275) dL_law_275 ?_
        refine ev_sld (pc := 276) dL_law_276 ?_
        refine ev_callVI (pc := 277) (d := d + 209) (As := [.int (xs (Int32.toNatClampNeg (v4 + 1))), .int (xs (Int32.toNatClampNeg (v4 + 2))), .int (xs (Int32.toNatClampNeg (v4 + 3))), .int (xs (Int32.toNatClampNeg (v4 + 4))), .int (xs (Int32.toNatClampNeg (v4 + 5)))]) (st := [.int x1]) cv_X12_feed rfl w_987 rfl (Nat.le_of_ble_eq_true rfl) (ok_X12_feed N (d + 208) (xs (Int32.toNatClampNeg (v4 + 1))) (xs (Int32.toNatClampNeg (v4 + 2))) (xs (Int32.toNatClampNeg (v4 + 3))) (xs (Int32.toNatClampNeg (v4 + 4))) (xs (Int32.toNatClampNeg (v4 + 5))) I2 L3) dL_law_277 (fun x4 I5 L6 => ?_)
        refine ev_icmp_eq (pc := 280) 1857 (by decide) dL_law_280 ?_ ?_
        · refine ev_iinc (pc := 1857) (lv' := [(4, .int (v4 + 7)), (0, .ref 2000), (1, .ref 11), (2, .ref 12), (3, .ref 63)]) dL_law_1857 4 rfl rfl 7 k_iconst_7 rfl ?_
          refine ev_goto (pc := 1860) 23 (by decide) dL_law_1860 ?_
          refine EvW.sub [1, 2, 3, 4, 0] rfl ?_
          exact hr_23 (v4 + 7) I5 L6
        · refine ev_iconst (pc := 283) 0 k_iconst_0 dL_law_283 ?_
          exact ev_lawret (pc := 284) hk1 dL_law_284
      · refine EvG.wide (κ' := (κ.1 + 4, κ.2 + 40)) (Nat.le_add_right _ _) (Nat.le_add_right _ _) hκ ?_
        refine ev_aload_n (pc := 285) 1 dL_law_285 rfl ?_
        refine ev_aload_n (pc := 286) 0 dL_law_286 rfl ?_
        refine ev_iload (pc := 287) 4 dL_law_287 rfl ?_
        refine ev_iconst (pc := 289) 1 k_iconst_1 dL_law_289 ?_
        refine ev_iadd (pc := 290) dL_law_290 ?_
        refine ev_sld (pc := 291) dL_law_291 ?_
        refine ev_callVI (pc := 292) (d := d + 209) (As := [.int (xs (Int32.toNatClampNeg (v4 + 1)))]) (st := []) cv_X11_end rfl w_991 rfl (Nat.le_of_ble_eq_true rfl) (ok_X11_end N (d + 208) (xs (Int32.toNatClampNeg (v4 + 1))) I L) dL_law_292 (fun x7 I8 L9 => ?_)
        refine ev_aload_n (pc := 295) 2 dL_law_295 rfl ?_
        refine ev_aload_n (pc := 296) 0 dL_law_296 rfl ?_
        refine ev_iload (pc := 297) 4 dL_law_297 rfl ?_
        refine ev_iconst (pc := 299) 1 k_iconst_1 dL_law_299 ?_
        refine ev_iadd (pc := 300) dL_law_300 ?_
        refine ev_sld (pc := 301) dL_law_301 ?_
        refine ev_callVI (pc := 302) (d := d + 209) (As := [.int (xs (Int32.toNatClampNeg (v4 + 1)))]) (st := [.int x7]) cv_X12_end rfl w_995 rfl (Nat.le_of_ble_eq_true rfl) (ok_X12_end N (d + 209) (xs (Int32.toNatClampNeg (v4 + 1))) I8 L9) dL_law_302 (fun x10 I11 L12 => ?_)
        refine ev_icmp_eq (pc := 305) 1857 (by decide) dL_law_305 ?_ ?_
        · refine ev_iinc (pc := 1857) (lv' := [(4, .int (v4 + 7)), (0, .ref 2000), (1, .ref 11), (2, .ref 12), (3, .ref 63)]) dL_law_1857 4 rfl rfl 7 k_iconst_7 rfl ?_
          refine ev_goto (pc := 1860) 23 (by decide) dL_law_1860 ?_
          refine EvW.sub [1, 2, 3, 4, 0] rfl ?_
          exact hr_23 (v4 + 7) I11 L12
        · refine ev_iconst (pc := 308) 0 k_iconst_0 dL_law_308 ?_
          exact ev_lawret (pc := 309) hk1 dL_law_309
      · refine EvG.wide (κ' := (κ.1 + 4, κ.2 + 40)) (Nat.le_add_right _ _) (Nat.le_add_right _ _) hκ ?_
        refine ev_aload_n (pc := 310) 1 dL_law_310 rfl ?_
        refine ev_aload_n (pc := 311) 0 dL_law_311 rfl ?_
        refine ev_iload (pc := 312) 4 dL_law_312 rfl ?_
        refine ev_iconst (pc := 314) 1 k_iconst_1 dL_law_314 ?_
        refine ev_iadd (pc := 315) dL_law_315 ?_
        refine ev_sld (pc := 316) dL_law_316 ?_
        refine ev_callVI (pc := 317) (d := d + 209) (As := [.int (xs (Int32.toNatClampNeg (v4 + 1)))]) (st := []) cv_X11_fault rfl w_999 rfl (Nat.le_of_ble_eq_true rfl) (ok_X11_fault N (d + 102) (xs (Int32.toNatClampNeg (v4 + 1))) I L) dL_law_317 (fun x13 I14 L15 => ?_)
        refine ev_aload_n (pc := 320) 2 dL_law_320 rfl ?_
        refine ev_aload_n (pc := 321) 0 dL_law_321 rfl ?_
        refine ev_iload (pc := 322) 4 dL_law_322 rfl ?_
        refine ev_iconst (pc := 324) 1 k_iconst_1 dL_law_324 ?_
        refine ev_iadd (pc := 325) dL_law_325 ?_
        refine ev_sld (pc := 326) dL_law_326 ?_
        refine ev_callVI (pc := 327) (d := d + 209) (As := [.int (xs (Int32.toNatClampNeg (v4 + 1)))]) (st := [.int x13]) cv_X12_fault rfl w_1003 rfl (Nat.le_of_ble_eq_true rfl) (ok_X12_fault N (d + 1) (xs (Int32.toNatClampNeg (v4 + 1))) I14 L15) dL_law_327 (fun x16 I17 L18 => ?_)
        refine ev_icmp_eq (pc := 330) 1857 (by decide) dL_law_330 ?_ ?_
        · refine ev_iinc (pc := 1857) (lv' := [(4, .int (v4 + 7)), (0, .ref 2000), (1, .ref 11), (2, .ref 12), (3, .ref 63)]) dL_law_1857 4 rfl rfl 7 k_iconst_7 rfl ?_
          refine ev_goto (pc := 1860) 23 (by decide) dL_law_1860 ?_
          refine EvW.sub [1, 2, 3, 4, 0] rfl ?_
          exact hr_23 (v4 + 7) I17 L18
        · refine ev_iconst (pc := 333) 0 k_iconst_0 dL_law_333 ?_
          exact ev_lawret (pc := 334) hk1 dL_law_334
      · refine EvG.wide (κ' := (κ.1 + 4, κ.2 + 40)) (Nat.le_add_right _ _) (Nat.le_add_right _ _) hκ ?_
        refine ev_aload_n (pc := 335) 1 dL_law_335 rfl ?_
        refine ev_aload_n (pc := 336) 0 dL_law_336 rfl ?_
        refine ev_iload (pc := 337) 4 dL_law_337 rfl ?_
        refine ev_iconst (pc := 339) 1 k_iconst_1 dL_law_339 ?_
        refine ev_iadd (pc := 340) dL_law_340 ?_
        refine ev_sld (pc := 341) dL_law_341 ?_
        refine ev_callVI (pc := 342) (d := d + 209) (As := [.int (xs (Int32.toNatClampNeg (v4 + 1)))]) (st := []) cv_X11_text rfl w_1007 rfl (Nat.le_of_ble_eq_true rfl) (ok_X11_text N (d + 102) (xs (Int32.toNatClampNeg (v4 + 1))) I L) dL_law_342 (fun x19 I20 L21 => ?_)
        refine ev_aload_n (pc := 345) 2 dL_law_345 rfl ?_
        refine ev_aload_n (pc := 346) 0 dL_law_346 rfl ?_
        refine ev_iload (pc := 347) 4 dL_law_347 rfl ?_
        refine ev_iconst (pc := 349) 1 k_iconst_1 dL_law_349 ?_
        refine ev_iadd (pc := 350) dL_law_350 ?_
        refine ev_sld (pc := 351) dL_law_351 ?_
        refine ev_callVI (pc := 352) (d := d + 209) (As := [.int (xs (Int32.toNatClampNeg (v4 + 1)))]) (st := [.int x19]) cv_X12_text rfl w_1011 rfl (Nat.le_of_ble_eq_true rfl) (ok_X12_text N (d + 1) (xs (Int32.toNatClampNeg (v4 + 1))) I20 L21) dL_law_352 (fun x22 I23 L24 => ?_)
        refine ev_icmp_eq (pc := 355) 1857 (by decide) dL_law_355 ?_ ?_
        · refine ev_iinc (pc := 1857) (lv' := [(4, .int (v4 + 7)), (0, .ref 2000), (1, .ref 11), (2, .ref 12), (3, .ref 63)]) dL_law_1857 4 rfl rfl 7 k_iconst_7 rfl ?_
          refine ev_goto (pc := 1860) 23 (by decide) dL_law_1860 ?_
          refine EvW.sub [1, 2, 3, 4, 0] rfl ?_
          exact hr_23 (v4 + 7) I23 L24
        · refine ev_iconst (pc := 358) 0 k_iconst_0 dL_law_358 ?_
          exact ev_lawret (pc := 359) hk1 dL_law_359
      · refine ev_aload_n (pc := 360) 1 dL_law_360 rfl ?_
        refine ev_aload_n (pc := 361) 0 dL_law_361 rfl ?_
        refine ev_iload (pc := 362) 4 dL_law_362 rfl ?_
        refine ev_iconst (pc := 364) 1 k_iconst_1 dL_law_364 ?_
        refine ev_iadd (pc := 365) dL_law_365 ?_
        refine ev_sld (pc := 366) dL_law_366 ?_
        refine ev_aload_n (pc := 367) 0 dL_law_367 rfl ?_
        refine ev_iload (pc := 368) 4 dL_law_368 rfl ?_
        refine ev_iconst (pc := 370) 2 k_iconst_2 dL_law_370 ?_
        refine ev_iadd (pc := 371) dL_law_371 ?_
        refine ev_sld (pc := 372) dL_law_372 ?_
        refine ev_aload_n (pc := 373) 3 dL_law_373 rfl ?_
        refine hsgn d κ hk1 [(0, .ref 2000), (1, .ref 11), (2, .ref 12), (3, .ref 63), (4, .int v4)] [] (by decide) (xs (Int32.toNatClampNeg (v4 + 1))) (xs (Int32.toNatClampNeg (v4 + 2))) I L _ (fun x25 I26 L27 => ?_)
        refine ev_istore (pc := 377) (lv' := [(5, .int x25), (0, .ref 2000), (1, .ref 11), (2, .ref 12), (3, .ref 63), (4, .int v4)]) dL_law_377 rfl rfl ?_
        refine ev_aload_n (pc := 379) 3 dL_law_379 rfl ?_
        refine ev_aload_n (pc := 380) 1 dL_law_380 rfl ?_
        refine ev_iload (pc := 381) 5 dL_law_381 rfl ?_
        refine ev_iconst (pc := 383) 1 k_iconst_1 dL_law_383 ?_
        refine ev_iadd (pc := 384) dL_law_384 ?_
        refine ev_sld (pc := 385) dL_law_385 ?_
        refine ev_aload_n (pc := 386) 1 dL_law_386 rfl ?_
        refine ev_iload (pc := 387) 5 dL_law_387 rfl ?_
        refine ev_iconst (pc := 389) 2 k_iconst_2 dL_law_389 ?_
        refine ev_iadd (pc := 390) dL_law_390 ?_
        refine ev_sld (pc := 391) dL_law_391 ?_
        refine ev_callVI (pc := 392) (d := d + 209) (As := [.int (xs (Int32.toNatClampNeg (v4 + 1))), .int (xs (Int32.toNatClampNeg (v4 + 2)))]) (st := []) cv_X12_sign rfl w_1015 rfl (Nat.le_of_ble_eq_true rfl) (ok_X12_sign N (d + 207) (xs (Int32.toNatClampNeg (v4 + 1))) (xs (Int32.toNatClampNeg (v4 + 2))) I26 L27) dL_law_392 (fun x28 I29 L30 => ?_)
        refine ev_istore (pc := 395) (lv' := [(6, .int x28), (5, .int x25), (0, .ref 2000), (1, .ref 11), (2, .ref 12), (3, .ref 63), (4, .int v4)]) dL_law_395 rfl rfl ?_
        refine ev_aload_n (pc := 397) 4 dL_law_397 rfl ?_
        refine ev_callVI (pc := 398) (d := d + 209) (As := []) (st := []) cv_X12_thrown rfl w_1019 rfl (Nat.le_of_ble_eq_true rfl) (ok_X12_thrown N (d + 209) I29 L30) dL_law_398 (fun x31 I32 L33 => ?_)
        refine ev_iload (pc := 401) 1 dL_law_401 rfl ?_
        refine ev_icmp_eq (pc := 403) 408 (by decide) dL_law_403 ?_ ?_
        · refine ev_iload (pc := 408) 1 dL_law_408 rfl ?_
          refine ev_if_ne (pc := 410) 425 (by decide) dL_law_410 ?_ ?_
          · refine EvW.sub [2, 3, 4, 5, 6] rfl ?_
            exact E_L_law_425 N d l9 xs hk1 (F_L_law_23 N l9 xs n) hr_23 v4 I32 L33
          · refine ev_aload_n (pc := 413) 5 dL_law_413 rfl ?_
            refine ev_iconst (pc := 414) 0 k_iconst_0 dL_law_414 ?_
            refine ev_lald (pc := 415) kK_63 dL_law_415 ?_
            refine ev_iload (pc := 416) 0 dL_law_416 rfl ?_
            refine ev_i2l (pc := 418) dL_law_418 ?_
            refine ev_lcmp (pc := 419) dL_law_419 ?_
            refine ev_if_eq (pc := 420) 425 (by decide) dL_law_420 ?_ ?_
            · refine EvW.sub [2, 3, 4, 5, 6] rfl ?_
              exact E_L_law_425 N d l9 xs hk1 (F_L_law_23 N l9 xs n) hr_23 v4 I32 L33
            · refine ev_iconst (pc := 423) 0 k_iconst_0 dL_law_423 ?_
              exact ev_lawret (pc := 424) hk1 dL_law_424
        · refine ev_iconst (pc := 406) 0 k_iconst_0 dL_law_406 ?_
          exact ev_lawret (pc := 407) hk1 dL_law_407
      · refine EvG.wide (κ' := (κ.1 + 4, κ.2 + 40)) (Nat.le_add_right _ _) (Nat.le_add_right _ _) hκ ?_
        refine ev_aload_n (pc := 428) 1 dL_law_428 rfl ?_
        refine ev_aload_n (pc := 429) 0 dL_law_429 rfl ?_
        refine ev_iload (pc := 430) 4 dL_law_430 rfl ?_
        refine ev_iconst (pc := 432) 1 k_iconst_1 dL_law_432 ?_
        refine ev_iadd (pc := 433) dL_law_433 ?_
        refine ev_sld (pc := 434) dL_law_434 ?_
        refine ev_aload_n (pc := 435) 0 dL_law_435 rfl ?_
        refine ev_iload (pc := 436) 4 dL_law_436 rfl ?_
        refine ev_iconst (pc := 438) 2 k_iconst_2 dL_law_438 ?_
        refine ev_iadd (pc := 439) dL_law_439 ?_
        refine ev_sld (pc := 440) dL_law_440 ?_
        refine ev_callVI (pc := 441) (d := d + 209) (As := [.int (xs (Int32.toNatClampNeg (v4 + 1))), .int (xs (Int32.toNatClampNeg (v4 + 2)))]) (st := []) cv_X11_rest rfl w_1023 rfl (Nat.le_of_ble_eq_true rfl) (ok_X11_rest N (d + 207) (xs (Int32.toNatClampNeg (v4 + 1))) (xs (Int32.toNatClampNeg (v4 + 2))) I L) dL_law_441 (fun x34 I35 L36 => ?_)
        refine ev_aload_n (pc := 444) 2 dL_law_444 rfl ?_
        refine ev_aload_n (pc := 445) 0 dL_law_445 rfl ?_
        refine ev_iload (pc := 446) 4 dL_law_446 rfl ?_
        refine ev_iconst (pc := 448) 1 k_iconst_1 dL_law_448 ?_
        refine ev_iadd (pc := 449) dL_law_449 ?_
        refine ev_sld (pc := 450) dL_law_450 ?_
        refine ev_aload_n (pc := 451) 0 dL_law_451 rfl ?_
        refine ev_iload (pc := 452) 4 dL_law_452 rfl ?_
        refine ev_iconst (pc := 454) 2 k_iconst_2 dL_law_454 ?_
        refine ev_iadd (pc := 455) dL_law_455 ?_
        refine ev_sld (pc := 456) dL_law_456 ?_
        refine ev_callVI (pc := 457) (d := d + 209) (As := [.int (xs (Int32.toNatClampNeg (v4 + 1))), .int (xs (Int32.toNatClampNeg (v4 + 2)))]) (st := [.int x34]) cv_X12_rest rfl w_1027 rfl (Nat.le_of_ble_eq_true rfl) (ok_X12_rest N (d + 207) (xs (Int32.toNatClampNeg (v4 + 1))) (xs (Int32.toNatClampNeg (v4 + 2))) I35 L36) dL_law_457 (fun x37 I38 L39 => ?_)
        refine ev_icmp_eq (pc := 460) 1857 (by decide) dL_law_460 ?_ ?_
        · refine ev_iinc (pc := 1857) (lv' := [(4, .int (v4 + 7)), (0, .ref 2000), (1, .ref 11), (2, .ref 12), (3, .ref 63)]) dL_law_1857 4 rfl rfl 7 k_iconst_7 rfl ?_
          refine ev_goto (pc := 1860) 23 (by decide) dL_law_1860 ?_
          refine EvW.sub [1, 2, 3, 4, 0] rfl ?_
          exact hr_23 (v4 + 7) I38 L39
        · refine ev_iconst (pc := 463) 0 k_iconst_0 dL_law_463 ?_
          exact ev_lawret (pc := 464) hk1 dL_law_464
      · refine EvG.wide (κ' := (κ.1 + 4, κ.2 + 40)) (Nat.le_add_right _ _) (Nat.le_add_right _ _) hκ ?_
        refine ev_aload_n (pc := 465) 1 dL_law_465 rfl ?_
        refine ev_aload_n (pc := 466) 0 dL_law_466 rfl ?_
        refine ev_iload (pc := 467) 4 dL_law_467 rfl ?_
        refine ev_iconst (pc := 469) 1 k_iconst_1 dL_law_469 ?_
        refine ev_iadd (pc := 470) dL_law_470 ?_
        refine ev_sld (pc := 471) dL_law_471 ?_
        refine ev_aload_n (pc := 472) 0 dL_law_472 rfl ?_
        refine ev_iload (pc := 473) 4 dL_law_473 rfl ?_
        refine ev_iconst (pc := 475) 2 k_iconst_2 dL_law_475 ?_
        refine ev_iadd (pc := 476) dL_law_476 ?_
        refine ev_sld (pc := 477) dL_law_477 ?_
        refine ev_aload_n (pc := 478) 0 dL_law_478 rfl ?_
        refine ev_iload (pc := 479) 4 dL_law_479 rfl ?_
        refine ev_iconst (pc := 481) 3 k_iconst_3 dL_law_481 ?_
        refine ev_iadd (pc := 482) dL_law_482 ?_
        refine ev_sld (pc := 483) dL_law_483 ?_
        refine ev_callVI (pc := 484) (d := d + 209) (As := [.int (xs (Int32.toNatClampNeg (v4 + 1))), .int (xs (Int32.toNatClampNeg (v4 + 2))), .int (xs (Int32.toNatClampNeg (v4 + 3)))]) (st := []) cv_X11_weight rfl w_1031 rfl (Nat.le_of_ble_eq_true rfl) (ok_X11_weight N (d + 203) (xs (Int32.toNatClampNeg (v4 + 1))) (xs (Int32.toNatClampNeg (v4 + 2))) (xs (Int32.toNatClampNeg (v4 + 3))) I L) dL_law_484 (fun x40 I41 L42 => ?_)
        refine ev_aload_n (pc := 487) 2 dL_law_487 rfl ?_
        refine ev_aload_n (pc := 488) 0 dL_law_488 rfl ?_
        refine ev_iload (pc := 489) 4 dL_law_489 rfl ?_
        refine ev_iconst (pc := 491) 1 k_iconst_1 dL_law_491 ?_
        refine ev_iadd (pc := 492) dL_law_492 ?_
        refine ev_sld (pc := 493) dL_law_493 ?_
        refine ev_aload_n (pc := 494) 0 dL_law_494 rfl ?_
        refine ev_iload (pc := 495) 4 dL_law_495 rfl ?_
        refine ev_iconst (pc := 497) 2 k_iconst_2 dL_law_497 ?_
        refine ev_iadd (pc := 498) dL_law_498 ?_
        refine ev_sld (pc := 499) dL_law_499 ?_
        refine ev_aload_n (pc := 500) 0 dL_law_500 rfl ?_
        refine ev_iload (pc := 501) 4 dL_law_501 rfl ?_
        refine ev_iconst (pc := 503) 3 k_iconst_3 dL_law_503 ?_
        refine ev_iadd (pc := 504) dL_law_504 ?_
        refine ev_sld (pc := 505) dL_law_505 ?_
        refine ev_callVI (pc := 506) (d := d + 209) (As := [.int (xs (Int32.toNatClampNeg (v4 + 1))), .int (xs (Int32.toNatClampNeg (v4 + 2))), .int (xs (Int32.toNatClampNeg (v4 + 3)))]) (st := [.int x40]) cv_X12_weight rfl w_1035 rfl (Nat.le_of_ble_eq_true rfl) (ok_X12_weight N (d + 203) (xs (Int32.toNatClampNeg (v4 + 1))) (xs (Int32.toNatClampNeg (v4 + 2))) (xs (Int32.toNatClampNeg (v4 + 3))) I41 L42) dL_law_506 (fun x43 I44 L45 => ?_)
        refine ev_icmp_eq (pc := 509) 1857 (by decide) dL_law_509 ?_ ?_
        · refine ev_iinc (pc := 1857) (lv' := [(4, .int (v4 + 7)), (0, .ref 2000), (1, .ref 11), (2, .ref 12), (3, .ref 63)]) dL_law_1857 4 rfl rfl 7 k_iconst_7 rfl ?_
          refine ev_goto (pc := 1860) 23 (by decide) dL_law_1860 ?_
          refine EvW.sub [1, 2, 3, 4, 0] rfl ?_
          exact hr_23 (v4 + 7) I44 L45
        · refine ev_iconst (pc := 512) 0 k_iconst_0 dL_law_512 ?_
          exact ev_lawret (pc := 513) hk1 dL_law_513
      · refine EvG.wide (κ' := (κ.1 + 4, κ.2 + 40)) (Nat.le_add_right _ _) (Nat.le_add_right _ _) hκ ?_
        refine ev_aload_n (pc := 514) 1 dL_law_514 rfl ?_
        refine ev_aload_n (pc := 515) 0 dL_law_515 rfl ?_
        refine ev_iload (pc := 516) 4 dL_law_516 rfl ?_
        refine ev_iconst (pc := 518) 1 k_iconst_1 dL_law_518 ?_
        refine ev_iadd (pc := 519) dL_law_519 ?_
        refine ev_sld (pc := 520) dL_law_520 ?_
        refine ev_aload_n (pc := 521) 0 dL_law_521 rfl ?_
        refine ev_iload (pc := 522) 4 dL_law_522 rfl ?_
        refine ev_iconst (pc := 524) 2 k_iconst_2 dL_law_524 ?_
        refine ev_iadd (pc := 525) dL_law_525 ?_
        refine ev_sld (pc := 526) dL_law_526 ?_
        refine ev_aload_n (pc := 527) 0 dL_law_527 rfl ?_
        refine ev_iload (pc := 528) 4 dL_law_528 rfl ?_
        refine ev_iconst (pc := 530) 3 k_iconst_3 dL_law_530 ?_
        refine ev_iadd (pc := 531) dL_law_531 ?_
        refine ev_sld (pc := 532) dL_law_532 ?_
        refine ev_aload_n (pc := 533) 0 dL_law_533 rfl ?_
        refine ev_iload (pc := 534) 4 dL_law_534 rfl ?_
        refine ev_iconst (pc := 536) 4 k_iconst_4 dL_law_536 ?_
        refine ev_iadd (pc := 537) dL_law_537 ?_
        refine ev_sld (pc := 538) dL_law_538 ?_
        refine ev_aload_n (pc := 539) 0 dL_law_539 rfl ?_
        refine ev_iload (pc := 540) 4 dL_law_540 rfl ?_
        refine ev_iconst (pc := 542) 5 k_iconst_5 dL_law_542 ?_
        refine ev_iadd (pc := 543) dL_law_543 ?_
        refine ev_sld (pc := 544) dL_law_544 ?_
        refine ev_aload_n (pc := 545) 0 dL_law_545 rfl ?_
        refine ev_iload (pc := 546) 4 dL_law_546 rfl ?_
        refine ev_bipush (pc := 548) 6 k_bipush_6 dL_law_548 ?_
        refine ev_iadd (pc := 550) dL_law_550 ?_
        refine ev_sld (pc := 551) dL_law_551 ?_
        refine ev_callVI (pc := 552) (d := d + 209) (As := [.int (xs (Int32.toNatClampNeg (v4 + 1))), .int (xs (Int32.toNatClampNeg (v4 + 2))), .int (xs (Int32.toNatClampNeg (v4 + 3))), .int (xs (Int32.toNatClampNeg (v4 + 4))), .int (xs (Int32.toNatClampNeg (v4 + 5))), .int (xs (Int32.toNatClampNeg (v4 + 6)))]) (st := []) cv_X11_comes rfl w_1039 rfl (Nat.le_of_ble_eq_true rfl) (ok_X11_comes N (d + 202) (xs (Int32.toNatClampNeg (v4 + 1))) (xs (Int32.toNatClampNeg (v4 + 2))) (xs (Int32.toNatClampNeg (v4 + 3))) (xs (Int32.toNatClampNeg (v4 + 4))) (xs (Int32.toNatClampNeg (v4 + 5))) (xs (Int32.toNatClampNeg (v4 + 6))) I L) dL_law_552 (fun x46 I47 L48 => ?_)
        refine ev_aload_n (pc := 555) 2 dL_law_555 rfl ?_
        refine ev_aload_n (pc := 556) 0 dL_law_556 rfl ?_
        refine ev_iload (pc := 557) 4 dL_law_557 rfl ?_
        refine ev_iconst (pc := 559) 1 k_iconst_1 dL_law_559 ?_
        refine ev_iadd (pc := 560) dL_law_560 ?_
        refine ev_sld (pc := 561) dL_law_561 ?_
        refine ev_aload_n (pc := 562) 0 dL_law_562 rfl ?_
        refine ev_iload (pc := 563) 4 dL_law_563 rfl ?_
        refine ev_iconst (pc := 565) 2 k_iconst_2 dL_law_565 ?_
        refine ev_iadd (pc := 566) dL_law_566 ?_
        refine ev_sld (pc := 567) dL_law_567 ?_
        refine ev_aload_n (pc := 568) 0 dL_law_568 rfl ?_
        refine ev_iload (pc := 569) 4 dL_law_569 rfl ?_
        refine ev_iconst (pc := 571) 3 k_iconst_3 dL_law_571 ?_
        refine ev_iadd (pc := 572) dL_law_572 ?_
        refine ev_sld (pc := 573) dL_law_573 ?_
        refine ev_aload_n (pc := 574) 0 dL_law_574 rfl ?_
        refine ev_iload (pc := 575) 4 dL_law_575 rfl ?_
        refine ev_iconst (pc := 577) 4 k_iconst_4 dL_law_577 ?_
        refine ev_iadd (pc := 578) dL_law_578 ?_
        refine ev_sld (pc := 579) dL_law_579 ?_
        refine ev_aload_n (pc := 580) 0 dL_law_580 rfl ?_
        refine ev_iload (pc := 581) 4 dL_law_581 rfl ?_
        refine ev_iconst (pc := 583) 5 k_iconst_5 dL_law_583 ?_
        refine ev_iadd (pc := 584) dL_law_584 ?_
        refine ev_sld (pc := 585) dL_law_585 ?_
        refine ev_aload_n (pc := 586) 0 dL_law_586 rfl ?_
        refine ev_iload (pc := 587) 4 dL_law_587 rfl ?_
        refine ev_bipush (pc := 589) 6 k_bipush_6 dL_law_589 ?_
        refine ev_iadd (pc := 591) dL_law_591 ?_
        refine ev_sld (pc := 592) dL_law_592 ?_
        refine ev_callVI (pc := 593) (d := d + 209) (As := [.int (xs (Int32.toNatClampNeg (v4 + 1))), .int (xs (Int32.toNatClampNeg (v4 + 2))), .int (xs (Int32.toNatClampNeg (v4 + 3))), .int (xs (Int32.toNatClampNeg (v4 + 4))), .int (xs (Int32.toNatClampNeg (v4 + 5))), .int (xs (Int32.toNatClampNeg (v4 + 6)))]) (st := [.int x46]) cv_X12_comes rfl w_1043 rfl (Nat.le_of_ble_eq_true rfl) (ok_X12_comes N (d + 202) (xs (Int32.toNatClampNeg (v4 + 1))) (xs (Int32.toNatClampNeg (v4 + 2))) (xs (Int32.toNatClampNeg (v4 + 3))) (xs (Int32.toNatClampNeg (v4 + 4))) (xs (Int32.toNatClampNeg (v4 + 5))) (xs (Int32.toNatClampNeg (v4 + 6))) I47 L48) dL_law_593 (fun x49 I50 L51 => ?_)
        refine ev_icmp_eq (pc := 596) 1857 (by decide) dL_law_596 ?_ ?_
        · refine ev_iinc (pc := 1857) (lv' := [(4, .int (v4 + 7)), (0, .ref 2000), (1, .ref 11), (2, .ref 12), (3, .ref 63)]) dL_law_1857 4 rfl rfl 7 k_iconst_7 rfl ?_
          refine ev_goto (pc := 1860) 23 (by decide) dL_law_1860 ?_
          refine EvW.sub [1, 2, 3, 4, 0] rfl ?_
          exact hr_23 (v4 + 7) I50 L51
        · refine ev_iconst (pc := 599) 0 k_iconst_0 dL_law_599 ?_
          exact ev_lawret (pc := 600) hk1 dL_law_600
      · refine EvG.wide (κ' := (κ.1 + 4, κ.2 + 40)) (Nat.le_add_right _ _) (Nat.le_add_right _ _) hκ ?_
        refine ev_aload_n (pc := 601) 1 dL_law_601 rfl ?_
        refine ev_aload_n (pc := 602) 0 dL_law_602 rfl ?_
        refine ev_iload (pc := 603) 4 dL_law_603 rfl ?_
        refine ev_iconst (pc := 605) 1 k_iconst_1 dL_law_605 ?_
        refine ev_iadd (pc := 606) dL_law_606 ?_
        refine ev_sld (pc := 607) dL_law_607 ?_
        refine ev_aload_n (pc := 608) 0 dL_law_608 rfl ?_
        refine ev_iload (pc := 609) 4 dL_law_609 rfl ?_
        refine ev_iconst (pc := 611) 2 k_iconst_2 dL_law_611 ?_
        refine ev_iadd (pc := 612) dL_law_612 ?_
        refine ev_sld (pc := 613) dL_law_613 ?_
        refine ev_aload_n (pc := 614) 0 dL_law_614 rfl ?_
        refine ev_iload (pc := 615) 4 dL_law_615 rfl ?_
        refine ev_iconst (pc := 617) 3 k_iconst_3 dL_law_617 ?_
        refine ev_iadd (pc := 618) dL_law_618 ?_
        refine ev_sld (pc := 619) dL_law_619 ?_
        refine ev_callVI (pc := 620) (d := d + 209) (As := [.int (xs (Int32.toNatClampNeg (v4 + 1))), .int (xs (Int32.toNatClampNeg (v4 + 2))), .int (xs (Int32.toNatClampNeg (v4 + 3)))]) (st := []) cv_X11_lobes rfl w_1047 rfl (Nat.le_of_ble_eq_true rfl) (ok_X11_lobes N (d + 202) (xs (Int32.toNatClampNeg (v4 + 1))) (xs (Int32.toNatClampNeg (v4 + 2))) (xs (Int32.toNatClampNeg (v4 + 3))) I L) dL_law_620 (fun x52 I53 L54 => ?_)
        refine ev_aload_n (pc := 623) 2 dL_law_623 rfl ?_
        refine ev_aload_n (pc := 624) 0 dL_law_624 rfl ?_
        refine ev_iload (pc := 625) 4 dL_law_625 rfl ?_
        refine ev_iconst (pc := 627) 1 k_iconst_1 dL_law_627 ?_
        refine ev_iadd (pc := 628) dL_law_628 ?_
        refine ev_sld (pc := 629) dL_law_629 ?_
        refine ev_aload_n (pc := 630) 0 dL_law_630 rfl ?_
        refine ev_iload (pc := 631) 4 dL_law_631 rfl ?_
        refine ev_iconst (pc := 633) 2 k_iconst_2 dL_law_633 ?_
        refine ev_iadd (pc := 634) dL_law_634 ?_
        refine ev_sld (pc := 635) dL_law_635 ?_
        refine ev_aload_n (pc := 636) 0 dL_law_636 rfl ?_
        refine ev_iload (pc := 637) 4 dL_law_637 rfl ?_
        refine ev_iconst (pc := 639) 3 k_iconst_3 dL_law_639 ?_
        refine ev_iadd (pc := 640) dL_law_640 ?_
        refine ev_sld (pc := 641) dL_law_641 ?_
        refine ev_callVI (pc := 642) (d := d + 209) (As := [.int (xs (Int32.toNatClampNeg (v4 + 1))), .int (xs (Int32.toNatClampNeg (v4 + 2))), .int (xs (Int32.toNatClampNeg (v4 + 3)))]) (st := [.int x52]) cv_X12_lobes rfl w_1051 rfl (Nat.le_of_ble_eq_true rfl) (ok_X12_lobes N (d + 202) (xs (Int32.toNatClampNeg (v4 + 1))) (xs (Int32.toNatClampNeg (v4 + 2))) (xs (Int32.toNatClampNeg (v4 + 3))) I53 L54) dL_law_642 (fun x55 I56 L57 => ?_)
        refine ev_icmp_eq (pc := 645) 1857 (by decide) dL_law_645 ?_ ?_
        · refine ev_iinc (pc := 1857) (lv' := [(4, .int (v4 + 7)), (0, .ref 2000), (1, .ref 11), (2, .ref 12), (3, .ref 63)]) dL_law_1857 4 rfl rfl 7 k_iconst_7 rfl ?_
          refine ev_goto (pc := 1860) 23 (by decide) dL_law_1860 ?_
          refine EvW.sub [1, 2, 3, 4, 0] rfl ?_
          exact hr_23 (v4 + 7) I56 L57
        · refine ev_iconst (pc := 648) 0 k_iconst_0 dL_law_648 ?_
          exact ev_lawret (pc := 649) hk1 dL_law_649
      · refine EvG.wide (κ' := (κ.1 + 4, κ.2 + 40)) (Nat.le_add_right _ _) (Nat.le_add_right _ _) hκ ?_
        refine ev_aload_n (pc := 650) 1 dL_law_650 rfl ?_
        refine ev_aload_n (pc := 651) 0 dL_law_651 rfl ?_
        refine ev_iload (pc := 652) 4 dL_law_652 rfl ?_
        refine ev_iconst (pc := 654) 1 k_iconst_1 dL_law_654 ?_
        refine ev_iadd (pc := 655) dL_law_655 ?_
        refine ev_sld (pc := 656) dL_law_656 ?_
        refine ev_aload_n (pc := 657) 0 dL_law_657 rfl ?_
        refine ev_iload (pc := 658) 4 dL_law_658 rfl ?_
        refine ev_iconst (pc := 660) 2 k_iconst_2 dL_law_660 ?_
        refine ev_iadd (pc := 661) dL_law_661 ?_
        refine ev_sld (pc := 662) dL_law_662 ?_
        refine ev_callVI (pc := 663) (d := d + 209) (As := [.int (xs (Int32.toNatClampNeg (v4 + 1))), .int (xs (Int32.toNatClampNeg (v4 + 2)))]) (st := []) cv_X11_hinder rfl w_1055 rfl (Nat.le_of_ble_eq_true rfl) (ok_X11_hinder N (d + 207) (xs (Int32.toNatClampNeg (v4 + 1))) (xs (Int32.toNatClampNeg (v4 + 2))) I L) dL_law_663 (fun x58 I59 L60 => ?_)
        refine ev_aload_n (pc := 666) 2 dL_law_666 rfl ?_
        refine ev_aload_n (pc := 667) 0 dL_law_667 rfl ?_
        refine ev_iload (pc := 668) 4 dL_law_668 rfl ?_
        refine ev_iconst (pc := 670) 1 k_iconst_1 dL_law_670 ?_
        refine ev_iadd (pc := 671) dL_law_671 ?_
        refine ev_sld (pc := 672) dL_law_672 ?_
        refine ev_aload_n (pc := 673) 0 dL_law_673 rfl ?_
        refine ev_iload (pc := 674) 4 dL_law_674 rfl ?_
        refine ev_iconst (pc := 676) 2 k_iconst_2 dL_law_676 ?_
        refine ev_iadd (pc := 677) dL_law_677 ?_
        refine ev_sld (pc := 678) dL_law_678 ?_
        refine ev_callVI (pc := 679) (d := d + 209) (As := [.int (xs (Int32.toNatClampNeg (v4 + 1))), .int (xs (Int32.toNatClampNeg (v4 + 2)))]) (st := [.int x58]) cv_X12_hinder rfl w_1059 rfl (Nat.le_of_ble_eq_true rfl) (ok_X12_hinder N (d + 201) (xs (Int32.toNatClampNeg (v4 + 1))) (xs (Int32.toNatClampNeg (v4 + 2))) I59 L60) dL_law_679 (fun x61 I62 L63 => ?_)
        refine ev_icmp_eq (pc := 682) 1857 (by decide) dL_law_682 ?_ ?_
        · refine ev_iinc (pc := 1857) (lv' := [(4, .int (v4 + 7)), (0, .ref 2000), (1, .ref 11), (2, .ref 12), (3, .ref 63)]) dL_law_1857 4 rfl rfl 7 k_iconst_7 rfl ?_
          refine ev_goto (pc := 1860) 23 (by decide) dL_law_1860 ?_
          refine EvW.sub [1, 2, 3, 4, 0] rfl ?_
          exact hr_23 (v4 + 7) I62 L63
        · refine ev_iconst (pc := 685) 0 k_iconst_0 dL_law_685 ?_
          exact ev_lawret (pc := 686) hk1 dL_law_686
      · refine EvG.wide (κ' := (κ.1 + 4, κ.2 + 40)) (Nat.le_add_right _ _) (Nat.le_add_right _ _) hκ ?_
        refine ev_aload_n (pc := 687) 1 dL_law_687 rfl ?_
        refine ev_aload_n (pc := 688) 0 dL_law_688 rfl ?_
        refine ev_iload (pc := 689) 4 dL_law_689 rfl ?_
        refine ev_iconst (pc := 691) 1 k_iconst_1 dL_law_691 ?_
        refine ev_iadd (pc := 692) dL_law_692 ?_
        refine ev_sld (pc := 693) dL_law_693 ?_
        refine ev_callVI (pc := 694) (d := d + 209) (As := [.int (xs (Int32.toNatClampNeg (v4 + 1)))]) (st := []) cv_X11_friends rfl w_1063 rfl (Nat.le_of_ble_eq_true rfl) (ok_X11_friends N (d + 205) (xs (Int32.toNatClampNeg (v4 + 1))) I L) dL_law_694 (fun x64 I65 L66 => ?_)
        refine ev_aload_n (pc := 697) 2 dL_law_697 rfl ?_
        refine ev_aload_n (pc := 698) 0 dL_law_698 rfl ?_
        refine ev_iload (pc := 699) 4 dL_law_699 rfl ?_
        refine ev_iconst (pc := 701) 1 k_iconst_1 dL_law_701 ?_
        refine ev_iadd (pc := 702) dL_law_702 ?_
        refine ev_sld (pc := 703) dL_law_703 ?_
        refine ev_callVI (pc := 704) (d := d + 209) (As := [.int (xs (Int32.toNatClampNeg (v4 + 1)))]) (st := [.int x64]) cv_X12_friends rfl w_1067 rfl (Nat.le_of_ble_eq_true rfl) (ok_X12_friends N (d + 200) (xs (Int32.toNatClampNeg (v4 + 1))) I65 L66) dL_law_704 (fun x67 I68 L69 => ?_)
        refine ev_icmp_eq (pc := 707) 1857 (by decide) dL_law_707 ?_ ?_
        · refine ev_iinc (pc := 1857) (lv' := [(4, .int (v4 + 7)), (0, .ref 2000), (1, .ref 11), (2, .ref 12), (3, .ref 63)]) dL_law_1857 4 rfl rfl 7 k_iconst_7 rfl ?_
          refine ev_goto (pc := 1860) 23 (by decide) dL_law_1860 ?_
          refine EvW.sub [1, 2, 3, 4, 0] rfl ?_
          exact hr_23 (v4 + 7) I68 L69
        · refine ev_iconst (pc := 710) 0 k_iconst_0 dL_law_710 ?_
          exact ev_lawret (pc := 711) hk1 dL_law_711
      · refine EvG.wide (κ' := (κ.1 + 4, κ.2 + 40)) (Nat.le_add_right _ _) (Nat.le_add_right _ _) hκ ?_
        refine ev_aload_n (pc := 712) 1 dL_law_712 rfl ?_
        refine ev_aload_n (pc := 713) 0 dL_law_713 rfl ?_
        refine ev_iload (pc := 714) 4 dL_law_714 rfl ?_
        refine ev_iconst (pc := 716) 1 k_iconst_1 dL_law_716 ?_
        refine ev_iadd (pc := 717) dL_law_717 ?_
        refine ev_sld (pc := 718) dL_law_718 ?_
        refine ev_aload_n (pc := 719) 0 dL_law_719 rfl ?_
        refine ev_iload (pc := 720) 4 dL_law_720 rfl ?_
        refine ev_iconst (pc := 722) 2 k_iconst_2 dL_law_722 ?_
        refine ev_iadd (pc := 723) dL_law_723 ?_
        refine ev_sld (pc := 724) dL_law_724 ?_
        refine ev_callVI (pc := 725) (d := d + 209) (As := [.int (xs (Int32.toNatClampNeg (v4 + 1))), .int (xs (Int32.toNatClampNeg (v4 + 2)))]) (st := []) cv_X11_best rfl w_1071 rfl (Nat.le_of_ble_eq_true rfl) (ok_X11_best N (d + 205) (xs (Int32.toNatClampNeg (v4 + 1))) (xs (Int32.toNatClampNeg (v4 + 2))) I L) dL_law_725 (fun x70 I71 L72 => ?_)
        refine ev_aload_n (pc := 728) 2 dL_law_728 rfl ?_
        refine ev_aload_n (pc := 729) 0 dL_law_729 rfl ?_
        refine ev_iload (pc := 730) 4 dL_law_730 rfl ?_
        refine ev_iconst (pc := 732) 1 k_iconst_1 dL_law_732 ?_
        refine ev_iadd (pc := 733) dL_law_733 ?_
        refine ev_sld (pc := 734) dL_law_734 ?_
        refine ev_aload_n (pc := 735) 0 dL_law_735 rfl ?_
        refine ev_iload (pc := 736) 4 dL_law_736 rfl ?_
        refine ev_iconst (pc := 738) 2 k_iconst_2 dL_law_738 ?_
        refine ev_iadd (pc := 739) dL_law_739 ?_
        refine ev_sld (pc := 740) dL_law_740 ?_
        refine ev_callVI (pc := 741) (d := d + 209) (As := [.int (xs (Int32.toNatClampNeg (v4 + 1))), .int (xs (Int32.toNatClampNeg (v4 + 2)))]) (st := [.int x70]) cv_X12_best rfl w_1075 rfl (Nat.le_of_ble_eq_true rfl) (ok_X12_best N (d + 207) (xs (Int32.toNatClampNeg (v4 + 1))) (xs (Int32.toNatClampNeg (v4 + 2))) I71 L72) dL_law_741 (fun x73 I74 L75 => ?_)
        refine ev_icmp_eq (pc := 744) 1857 (by decide) dL_law_744 ?_ ?_
        · refine ev_iinc (pc := 1857) (lv' := [(4, .int (v4 + 7)), (0, .ref 2000), (1, .ref 11), (2, .ref 12), (3, .ref 63)]) dL_law_1857 4 rfl rfl 7 k_iconst_7 rfl ?_
          refine ev_goto (pc := 1860) 23 (by decide) dL_law_1860 ?_
          refine EvW.sub [1, 2, 3, 4, 0] rfl ?_
          exact hr_23 (v4 + 7) I74 L75
        · refine ev_iconst (pc := 747) 0 k_iconst_0 dL_law_747 ?_
          exact ev_lawret (pc := 748) hk1 dL_law_748
      · refine EvG.wide (κ' := (κ.1 + 4, κ.2 + 40)) (Nat.le_add_right _ _) (Nat.le_add_right _ _) hκ ?_
        refine ev_aload_n (pc := 749) 1 dL_law_749 rfl ?_
        refine ev_aload_n (pc := 750) 0 dL_law_750 rfl ?_
        refine ev_iload (pc := 751) 4 dL_law_751 rfl ?_
        refine ev_iconst (pc := 753) 1 k_iconst_1 dL_law_753 ?_
        refine ev_iadd (pc := 754) dL_law_754 ?_
        refine ev_sld (pc := 755) dL_law_755 ?_
        refine ev_aload_n (pc := 756) 0 dL_law_756 rfl ?_
        refine ev_iload (pc := 757) 4 dL_law_757 rfl ?_
        refine ev_iconst (pc := 759) 2 k_iconst_2 dL_law_759 ?_
        refine ev_iadd (pc := 760) dL_law_760 ?_
        refine ev_sld (pc := 761) dL_law_761 ?_
        refine ev_callVI (pc := 762) (d := d + 209) (As := [.int (xs (Int32.toNatClampNeg (v4 + 1))), .int (xs (Int32.toNatClampNeg (v4 + 2)))]) (st := []) cv_X11_filter rfl w_1079 rfl (Nat.le_of_ble_eq_true rfl) (ok_X11_filter N (d + 203) (xs (Int32.toNatClampNeg (v4 + 1))) (xs (Int32.toNatClampNeg (v4 + 2))) I L) dL_law_762 (fun x76 I77 L78 => ?_)
        refine ev_aload_n (pc := 765) 2 dL_law_765 rfl ?_
        refine ev_aload_n (pc := 766) 0 dL_law_766 rfl ?_
        refine ev_iload (pc := 767) 4 dL_law_767 rfl ?_
        refine ev_iconst (pc := 769) 1 k_iconst_1 dL_law_769 ?_
        refine ev_iadd (pc := 770) dL_law_770 ?_
        refine ev_sld (pc := 771) dL_law_771 ?_
        refine ev_aload_n (pc := 772) 0 dL_law_772 rfl ?_
        refine ev_iload (pc := 773) 4 dL_law_773 rfl ?_
        refine ev_iconst (pc := 775) 2 k_iconst_2 dL_law_775 ?_
        refine ev_iadd (pc := 776) dL_law_776 ?_
        refine ev_sld (pc := 777) dL_law_777 ?_
        refine ev_callVI (pc := 778) (d := d + 209) (As := [.int (xs (Int32.toNatClampNeg (v4 + 1))), .int (xs (Int32.toNatClampNeg (v4 + 2)))]) (st := [.int x76]) cv_X12_filter rfl w_1083 rfl (Nat.le_of_ble_eq_true rfl) (ok_X12_filter N (d + 206) (xs (Int32.toNatClampNeg (v4 + 1))) (xs (Int32.toNatClampNeg (v4 + 2))) I77 L78) dL_law_778 (fun x79 I80 L81 => ?_)
        refine ev_icmp_eq (pc := 781) 1857 (by decide) dL_law_781 ?_ ?_
        · refine ev_iinc (pc := 1857) (lv' := [(4, .int (v4 + 7)), (0, .ref 2000), (1, .ref 11), (2, .ref 12), (3, .ref 63)]) dL_law_1857 4 rfl rfl 7 k_iconst_7 rfl ?_
          refine ev_goto (pc := 1860) 23 (by decide) dL_law_1860 ?_
          refine EvW.sub [1, 2, 3, 4, 0] rfl ?_
          exact hr_23 (v4 + 7) I80 L81
        · refine ev_iconst (pc := 784) 0 k_iconst_0 dL_law_784 ?_
          exact ev_lawret (pc := 785) hk1 dL_law_785
      · refine EvG.wide (κ' := (κ.1 + 4, κ.2 + 40)) (Nat.le_add_right _ _) (Nat.le_add_right _ _) hκ ?_
        refine ev_aload_n (pc := 786) 1 dL_law_786 rfl ?_
        refine ev_aload_n (pc := 787) 0 dL_law_787 rfl ?_
        refine ev_iload (pc := 788) 4 dL_law_788 rfl ?_
        refine ev_iconst (pc := 790) 1 k_iconst_1 dL_law_790 ?_
        refine ev_iadd (pc := 791) dL_law_791 ?_
        refine ev_sld (pc := 792) dL_law_792 ?_
        refine ev_aload_n (pc := 793) 0 dL_law_793 rfl ?_
        refine ev_iload (pc := 794) 4 dL_law_794 rfl ?_
        refine ev_iconst (pc := 796) 2 k_iconst_2 dL_law_796 ?_
        refine ev_iadd (pc := 797) dL_law_797 ?_
        refine ev_sld (pc := 798) dL_law_798 ?_
        refine ev_callVI (pc := 799) (d := d + 209) (As := [.int (xs (Int32.toNatClampNeg (v4 + 1))), .int (xs (Int32.toNatClampNeg (v4 + 2)))]) (st := []) cv_X11_set rfl w_1087 rfl (Nat.le_of_ble_eq_true rfl) (ok_X11_set N (d + 208) (xs (Int32.toNatClampNeg (v4 + 1))) (xs (Int32.toNatClampNeg (v4 + 2))) I L) dL_law_799 (fun x82 I83 L84 => ?_)
        refine ev_aload_n (pc := 802) 2 dL_law_802 rfl ?_
        refine ev_aload_n (pc := 803) 0 dL_law_803 rfl ?_
        refine ev_iload (pc := 804) 4 dL_law_804 rfl ?_
        refine ev_iconst (pc := 806) 1 k_iconst_1 dL_law_806 ?_
        refine ev_iadd (pc := 807) dL_law_807 ?_
        refine ev_sld (pc := 808) dL_law_808 ?_
        refine ev_aload_n (pc := 809) 0 dL_law_809 rfl ?_
        refine ev_iload (pc := 810) 4 dL_law_810 rfl ?_
        refine ev_iconst (pc := 812) 2 k_iconst_2 dL_law_812 ?_
        refine ev_iadd (pc := 813) dL_law_813 ?_
        refine ev_sld (pc := 814) dL_law_814 ?_
        refine ev_callVI (pc := 815) (d := d + 209) (As := [.int (xs (Int32.toNatClampNeg (v4 + 1))), .int (xs (Int32.toNatClampNeg (v4 + 2)))]) (st := [.int x82]) cv_X12_set rfl w_1091 rfl (Nat.le_of_ble_eq_true rfl) (ok_X12_set N (d + 208) (xs (Int32.toNatClampNeg (v4 + 1))) (xs (Int32.toNatClampNeg (v4 + 2))) I83 L84) dL_law_815 (fun x85 I86 L87 => ?_)
        refine ev_icmp_eq (pc := 818) 1857 (by decide) dL_law_818 ?_ ?_
        · refine ev_iinc (pc := 1857) (lv' := [(4, .int (v4 + 7)), (0, .ref 2000), (1, .ref 11), (2, .ref 12), (3, .ref 63)]) dL_law_1857 4 rfl rfl 7 k_iconst_7 rfl ?_
          refine ev_goto (pc := 1860) 23 (by decide) dL_law_1860 ?_
          refine EvW.sub [1, 2, 3, 4, 0] rfl ?_
          exact hr_23 (v4 + 7) I86 L87
        · refine ev_iconst (pc := 821) 0 k_iconst_0 dL_law_821 ?_
          exact ev_lawret (pc := 822) hk1 dL_law_822
      · refine EvG.wide (κ' := (κ.1 + 4, κ.2 + 40)) (Nat.le_add_right _ _) (Nat.le_add_right _ _) hκ ?_
        refine ev_aload_n (pc := 823) 1 dL_law_823 rfl ?_
        refine ev_aload_n (pc := 824) 0 dL_law_824 rfl ?_
        refine ev_iload (pc := 825) 4 dL_law_825 rfl ?_
        refine ev_iconst (pc := 827) 1 k_iconst_1 dL_law_827 ?_
        refine ev_iadd (pc := 828) dL_law_828 ?_
        refine ev_sld (pc := 829) dL_law_829 ?_
        refine ev_aload_n (pc := 830) 0 dL_law_830 rfl ?_
        refine ev_iload (pc := 831) 4 dL_law_831 rfl ?_
        refine ev_iconst (pc := 833) 2 k_iconst_2 dL_law_833 ?_
        refine ev_iadd (pc := 834) dL_law_834 ?_
        refine ev_sld (pc := 835) dL_law_835 ?_
        refine ev_callVI (pc := 836) (d := d + 209) (As := [.int (xs (Int32.toNatClampNeg (v4 + 1))), .int (xs (Int32.toNatClampNeg (v4 + 2)))]) (st := []) cv_X11_seen rfl w_1095 rfl (Nat.le_of_ble_eq_true rfl) (ok_X11_seen N (d + 205) (xs (Int32.toNatClampNeg (v4 + 1))) (xs (Int32.toNatClampNeg (v4 + 2))) I L) dL_law_836 (fun x88 I89 L90 => ?_)
        refine ev_aload_n (pc := 839) 2 dL_law_839 rfl ?_
        refine ev_aload_n (pc := 840) 0 dL_law_840 rfl ?_
        refine ev_iload (pc := 841) 4 dL_law_841 rfl ?_
        refine ev_iconst (pc := 843) 1 k_iconst_1 dL_law_843 ?_
        refine ev_iadd (pc := 844) dL_law_844 ?_
        refine ev_sld (pc := 845) dL_law_845 ?_
        refine ev_aload_n (pc := 846) 0 dL_law_846 rfl ?_
        refine ev_iload (pc := 847) 4 dL_law_847 rfl ?_
        refine ev_iconst (pc := 849) 2 k_iconst_2 dL_law_849 ?_
        refine ev_iadd (pc := 850) dL_law_850 ?_
        refine ev_sld (pc := 851) dL_law_851 ?_
        refine ev_callVI (pc := 852) (d := d + 209) (As := [.int (xs (Int32.toNatClampNeg (v4 + 1))), .int (xs (Int32.toNatClampNeg (v4 + 2)))]) (st := [.int x88]) cv_X12_seen rfl w_1099 rfl (Nat.le_of_ble_eq_true rfl) (ok_X12_seen N (d + 207) (xs (Int32.toNatClampNeg (v4 + 1))) (xs (Int32.toNatClampNeg (v4 + 2))) I89 L90) dL_law_852 (fun x91 I92 L93 => ?_)
        refine ev_icmp_eq (pc := 855) 1857 (by decide) dL_law_855 ?_ ?_
        · refine ev_iinc (pc := 1857) (lv' := [(4, .int (v4 + 7)), (0, .ref 2000), (1, .ref 11), (2, .ref 12), (3, .ref 63)]) dL_law_1857 4 rfl rfl 7 k_iconst_7 rfl ?_
          refine ev_goto (pc := 1860) 23 (by decide) dL_law_1860 ?_
          refine EvW.sub [1, 2, 3, 4, 0] rfl ?_
          exact hr_23 (v4 + 7) I92 L93
        · refine ev_iconst (pc := 858) 0 k_iconst_0 dL_law_858 ?_
          exact ev_lawret (pc := 859) hk1 dL_law_859
      · refine EvG.wide (κ' := (κ.1 + 4, κ.2 + 40)) (Nat.le_add_right _ _) (Nat.le_add_right _ _) hκ ?_
        refine ev_aload_n (pc := 860) 1 dL_law_860 rfl ?_
        refine ev_aload_n (pc := 861) 0 dL_law_861 rfl ?_
        refine ev_iload (pc := 862) 4 dL_law_862 rfl ?_
        refine ev_iconst (pc := 864) 1 k_iconst_1 dL_law_864 ?_
        refine ev_iadd (pc := 865) dL_law_865 ?_
        refine ev_sld (pc := 866) dL_law_866 ?_
        refine ev_aload_n (pc := 867) 0 dL_law_867 rfl ?_
        refine ev_iload (pc := 868) 4 dL_law_868 rfl ?_
        refine ev_iconst (pc := 870) 2 k_iconst_2 dL_law_870 ?_
        refine ev_iadd (pc := 871) dL_law_871 ?_
        refine ev_sld (pc := 872) dL_law_872 ?_
        refine ev_aload_n (pc := 873) 0 dL_law_873 rfl ?_
        refine ev_iload (pc := 874) 4 dL_law_874 rfl ?_
        refine ev_iconst (pc := 876) 3 k_iconst_3 dL_law_876 ?_
        refine ev_iadd (pc := 877) dL_law_877 ?_
        refine ev_sld (pc := 878) dL_law_878 ?_
        refine ev_callVI (pc := 879) (d := d + 209) (As := [.int (xs (Int32.toNatClampNeg (v4 + 1))), .int (xs (Int32.toNatClampNeg (v4 + 2))), .int (xs (Int32.toNatClampNeg (v4 + 3)))]) (st := []) cv_X11_map rfl w_1103 rfl (Nat.le_of_ble_eq_true rfl) (ok_X11_map N (d + 204) (xs (Int32.toNatClampNeg (v4 + 1))) (xs (Int32.toNatClampNeg (v4 + 2))) (xs (Int32.toNatClampNeg (v4 + 3))) I L) dL_law_879 (fun x94 I95 L96 => ?_)
        refine ev_aload_n (pc := 882) 2 dL_law_882 rfl ?_
        refine ev_aload_n (pc := 883) 0 dL_law_883 rfl ?_
        refine ev_iload (pc := 884) 4 dL_law_884 rfl ?_
        refine ev_iconst (pc := 886) 1 k_iconst_1 dL_law_886 ?_
        refine ev_iadd (pc := 887) dL_law_887 ?_
        refine ev_sld (pc := 888) dL_law_888 ?_
        refine ev_aload_n (pc := 889) 0 dL_law_889 rfl ?_
        refine ev_iload (pc := 890) 4 dL_law_890 rfl ?_
        refine ev_iconst (pc := 892) 2 k_iconst_2 dL_law_892 ?_
        refine ev_iadd (pc := 893) dL_law_893 ?_
        refine ev_sld (pc := 894) dL_law_894 ?_
        refine ev_aload_n (pc := 895) 0 dL_law_895 rfl ?_
        refine ev_iload (pc := 896) 4 dL_law_896 rfl ?_
        refine ev_iconst (pc := 898) 3 k_iconst_3 dL_law_898 ?_
        refine ev_iadd (pc := 899) dL_law_899 ?_
        refine ev_sld (pc := 900) dL_law_900 ?_
        refine ev_callVI (pc := 901) (d := d + 209) (As := [.int (xs (Int32.toNatClampNeg (v4 + 1))), .int (xs (Int32.toNatClampNeg (v4 + 2))), .int (xs (Int32.toNatClampNeg (v4 + 3)))]) (st := [.int x94]) cv_X12_map rfl w_1107 rfl (Nat.le_of_ble_eq_true rfl) (ok_X12_map N (d + 206) (xs (Int32.toNatClampNeg (v4 + 1))) (xs (Int32.toNatClampNeg (v4 + 2))) (xs (Int32.toNatClampNeg (v4 + 3))) I95 L96) dL_law_901 (fun x97 I98 L99 => ?_)
        refine ev_icmp_eq (pc := 904) 1857 (by decide) dL_law_904 ?_ ?_
        · refine ev_iinc (pc := 1857) (lv' := [(4, .int (v4 + 7)), (0, .ref 2000), (1, .ref 11), (2, .ref 12), (3, .ref 63)]) dL_law_1857 4 rfl rfl 7 k_iconst_7 rfl ?_
          refine ev_goto (pc := 1860) 23 (by decide) dL_law_1860 ?_
          refine EvW.sub [1, 2, 3, 4, 0] rfl ?_
          exact hr_23 (v4 + 7) I98 L99
        · refine ev_iconst (pc := 907) 0 k_iconst_0 dL_law_907 ?_
          exact ev_lawret (pc := 908) hk1 dL_law_908
      · refine EvG.wide (κ' := (κ.1 + 4, κ.2 + 40)) (Nat.le_add_right _ _) (Nat.le_add_right _ _) hκ ?_
        refine ev_aload_n (pc := 909) 1 dL_law_909 rfl ?_
        refine ev_aload_n (pc := 910) 0 dL_law_910 rfl ?_
        refine ev_iload (pc := 911) 4 dL_law_911 rfl ?_
        refine ev_iconst (pc := 913) 1 k_iconst_1 dL_law_913 ?_
        refine ev_iadd (pc := 914) dL_law_914 ?_
        refine ev_sld (pc := 915) dL_law_915 ?_
        refine ev_aload_n (pc := 916) 0 dL_law_916 rfl ?_
        refine ev_iload (pc := 917) 4 dL_law_917 rfl ?_
        refine ev_iconst (pc := 919) 2 k_iconst_2 dL_law_919 ?_
        refine ev_iadd (pc := 920) dL_law_920 ?_
        refine ev_sld (pc := 921) dL_law_921 ?_
        refine ev_aload_n (pc := 922) 0 dL_law_922 rfl ?_
        refine ev_iload (pc := 923) 4 dL_law_923 rfl ?_
        refine ev_iconst (pc := 925) 3 k_iconst_3 dL_law_925 ?_
        refine ev_iadd (pc := 926) dL_law_926 ?_
        refine ev_sld (pc := 927) dL_law_927 ?_
        refine ev_aload_n (pc := 928) 0 dL_law_928 rfl ?_
        refine ev_iload (pc := 929) 4 dL_law_929 rfl ?_
        refine ev_iconst (pc := 931) 4 k_iconst_4 dL_law_931 ?_
        refine ev_iadd (pc := 932) dL_law_932 ?_
        refine ev_sld (pc := 933) dL_law_933 ?_
        refine ev_callVI (pc := 934) (d := d + 209) (As := [.int (xs (Int32.toNatClampNeg (v4 + 1))), .int (xs (Int32.toNatClampNeg (v4 + 2))), .int (xs (Int32.toNatClampNeg (v4 + 3))), .int (xs (Int32.toNatClampNeg (v4 + 4)))]) (st := []) cv_X11_choice rfl w_1111 rfl (Nat.le_of_ble_eq_true rfl) (ok_X11_choice N (d + 205) (xs (Int32.toNatClampNeg (v4 + 1))) (xs (Int32.toNatClampNeg (v4 + 2))) (xs (Int32.toNatClampNeg (v4 + 3))) (xs (Int32.toNatClampNeg (v4 + 4))) I L) dL_law_934 (fun x100 I101 L102 => ?_)
        refine ev_aload_n (pc := 937) 2 dL_law_937 rfl ?_
        refine ev_aload_n (pc := 938) 0 dL_law_938 rfl ?_
        refine ev_iload (pc := 939) 4 dL_law_939 rfl ?_
        refine ev_iconst (pc := 941) 1 k_iconst_1 dL_law_941 ?_
        refine ev_iadd (pc := 942) dL_law_942 ?_
        refine ev_sld (pc := 943) dL_law_943 ?_
        refine ev_aload_n (pc := 944) 0 dL_law_944 rfl ?_
        refine ev_iload (pc := 945) 4 dL_law_945 rfl ?_
        refine ev_iconst (pc := 947) 2 k_iconst_2 dL_law_947 ?_
        refine ev_iadd (pc := 948) dL_law_948 ?_
        refine ev_sld (pc := 949) dL_law_949 ?_
        refine ev_aload_n (pc := 950) 0 dL_law_950 rfl ?_
        refine ev_iload (pc := 951) 4 dL_law_951 rfl ?_
        refine ev_iconst (pc := 953) 3 k_iconst_3 dL_law_953 ?_
        refine ev_iadd (pc := 954) dL_law_954 ?_
        refine ev_sld (pc := 955) dL_law_955 ?_
        refine ev_aload_n (pc := 956) 0 dL_law_956 rfl ?_
        refine ev_iload (pc := 957) 4 dL_law_957 rfl ?_
        refine ev_iconst (pc := 959) 4 k_iconst_4 dL_law_959 ?_
        refine ev_iadd (pc := 960) dL_law_960 ?_
        refine ev_sld (pc := 961) dL_law_961 ?_
        refine ev_callVI (pc := 962) (d := d + 209) (As := [.int (xs (Int32.toNatClampNeg (v4 + 1))), .int (xs (Int32.toNatClampNeg (v4 + 2))), .int (xs (Int32.toNatClampNeg (v4 + 3))), .int (xs (Int32.toNatClampNeg (v4 + 4)))]) (st := [.int x100]) cv_X12_choice rfl w_1115 rfl (Nat.le_of_ble_eq_true rfl) (ok_X12_choice N (d + 206) (xs (Int32.toNatClampNeg (v4 + 1))) (xs (Int32.toNatClampNeg (v4 + 2))) (xs (Int32.toNatClampNeg (v4 + 3))) (xs (Int32.toNatClampNeg (v4 + 4))) I101 L102) dL_law_962 (fun x103 I104 L105 => ?_)
        refine ev_icmp_eq (pc := 965) 1857 (by decide) dL_law_965 ?_ ?_
        · refine ev_iinc (pc := 1857) (lv' := [(4, .int (v4 + 7)), (0, .ref 2000), (1, .ref 11), (2, .ref 12), (3, .ref 63)]) dL_law_1857 4 rfl rfl 7 k_iconst_7 rfl ?_
          refine ev_goto (pc := 1860) 23 (by decide) dL_law_1860 ?_
          refine EvW.sub [1, 2, 3, 4, 0] rfl ?_
          exact hr_23 (v4 + 7) I104 L105
        · refine ev_iconst (pc := 968) 0 k_iconst_0 dL_law_968 ?_
          exact ev_lawret (pc := 969) hk1 dL_law_969
      · refine EvG.wide (κ' := (κ.1 + 4, κ.2 + 40)) (Nat.le_add_right _ _) (Nat.le_add_right _ _) hκ ?_
        refine ev_aload_n (pc := 970) 1 dL_law_970 rfl ?_
        refine ev_aload_n (pc := 971) 0 dL_law_971 rfl ?_
        refine ev_iload (pc := 972) 4 dL_law_972 rfl ?_
        refine ev_iconst (pc := 974) 1 k_iconst_1 dL_law_974 ?_
        refine ev_iadd (pc := 975) dL_law_975 ?_
        refine ev_sld (pc := 976) dL_law_976 ?_
        refine ev_aload_n (pc := 977) 0 dL_law_977 rfl ?_
        refine ev_iload (pc := 978) 4 dL_law_978 rfl ?_
        refine ev_iconst (pc := 980) 2 k_iconst_2 dL_law_980 ?_
        refine ev_iadd (pc := 981) dL_law_981 ?_
        refine ev_sld (pc := 982) dL_law_982 ?_
        refine ev_callVI (pc := 983) (d := d + 209) (As := [.int (xs (Int32.toNatClampNeg (v4 + 1))), .int (xs (Int32.toNatClampNeg (v4 + 2)))]) (st := []) cv_X11_read rfl w_1119 rfl (Nat.le_of_ble_eq_true rfl) (ok_X11_read N (d + 208) (xs (Int32.toNatClampNeg (v4 + 1))) (xs (Int32.toNatClampNeg (v4 + 2))) I L) dL_law_983 (fun x106 I107 L108 => ?_)
        refine ev_aload_n (pc := 986) 2 dL_law_986 rfl ?_
        refine ev_aload_n (pc := 987) 0 dL_law_987 rfl ?_
        refine ev_iload (pc := 988) 4 dL_law_988 rfl ?_
        refine ev_iconst (pc := 990) 1 k_iconst_1 dL_law_990 ?_
        refine ev_iadd (pc := 991) dL_law_991 ?_
        refine ev_sld (pc := 992) dL_law_992 ?_
        refine ev_aload_n (pc := 993) 0 dL_law_993 rfl ?_
        refine ev_iload (pc := 994) 4 dL_law_994 rfl ?_
        refine ev_iconst (pc := 996) 2 k_iconst_2 dL_law_996 ?_
        refine ev_iadd (pc := 997) dL_law_997 ?_
        refine ev_sld (pc := 998) dL_law_998 ?_
        refine ev_callVI (pc := 999) (d := d + 209) (As := [.int (xs (Int32.toNatClampNeg (v4 + 1))), .int (xs (Int32.toNatClampNeg (v4 + 2)))]) (st := [.int x106]) cv_X12_read rfl w_1123 rfl (Nat.le_of_ble_eq_true rfl) (ok_X12_read N (d + 208) (xs (Int32.toNatClampNeg (v4 + 1))) (xs (Int32.toNatClampNeg (v4 + 2))) I107 L108) dL_law_999 (fun x109 I110 L111 => ?_)
        refine ev_icmp_eq (pc := 1002) 1857 (by decide) dL_law_1002 ?_ ?_
        · refine ev_iinc (pc := 1857) (lv' := [(4, .int (v4 + 7)), (0, .ref 2000), (1, .ref 11), (2, .ref 12), (3, .ref 63)]) dL_law_1857 4 rfl rfl 7 k_iconst_7 rfl ?_
          refine ev_goto (pc := 1860) 23 (by decide) dL_law_1860 ?_
          refine EvW.sub [1, 2, 3, 4, 0] rfl ?_
          exact hr_23 (v4 + 7) I110 L111
        · refine ev_iconst (pc := 1005) 0 k_iconst_0 dL_law_1005 ?_
          exact ev_lawret (pc := 1006) hk1 dL_law_1006
      · refine EvG.wide (κ' := (κ.1 + 4, κ.2 + 40)) (Nat.le_add_right _ _) (Nat.le_add_right _ _) hκ ?_
        refine ev_aload_n (pc := 1007) 1 dL_law_1007 rfl ?_
        refine ev_aload_n (pc := 1008) 0 dL_law_1008 rfl ?_
        refine ev_iload (pc := 1009) 4 dL_law_1009 rfl ?_
        refine ev_iconst (pc := 1011) 1 k_iconst_1 dL_law_1011 ?_
        refine ev_iadd (pc := 1012) dL_law_1012 ?_
        refine ev_sld (pc := 1013) dL_law_1013 ?_
        refine ev_aload_n (pc := 1014) 0 dL_law_1014 rfl ?_
        refine ev_iload (pc := 1015) 4 dL_law_1015 rfl ?_
        refine ev_iconst (pc := 1017) 2 k_iconst_2 dL_law_1017 ?_
        refine ev_iadd (pc := 1018) dL_law_1018 ?_
        refine ev_sld (pc := 1019) dL_law_1019 ?_
        refine ev_aload_n (pc := 1020) 0 dL_law_1020 rfl ?_
        refine ev_iload (pc := 1021) 4 dL_law_1021 rfl ?_
        refine ev_iconst (pc := 1023) 3 k_iconst_3 dL_law_1023 ?_
        refine ev_iadd (pc := 1024) dL_law_1024 ?_
        refine ev_sld (pc := 1025) dL_law_1025 ?_
        refine ev_aload_n (pc := 1026) 0 dL_law_1026 rfl ?_
        refine ev_iload (pc := 1027) 4 dL_law_1027 rfl ?_
        refine ev_iconst (pc := 1029) 4 k_iconst_4 dL_law_1029 ?_
        refine ev_iadd (pc := 1030) dL_law_1030 ?_
        refine ev_sld (pc := 1031) dL_law_1031 ?_
        refine ev_aload_n (pc := 1032) 0 dL_law_1032 rfl ?_
        refine ev_iload (pc := 1033) 4 dL_law_1033 rfl ?_
        refine ev_iconst (pc := 1035) 5 k_iconst_5 dL_law_1035 ?_
        refine ev_iadd (pc := 1036) dL_law_1036 ?_
        refine ev_sld (pc := 1037) dL_law_1037 ?_
        refine ev_callVI (pc := 1038) (d := d + 209) (As := [.int (xs (Int32.toNatClampNeg (v4 + 1))), .int (xs (Int32.toNatClampNeg (v4 + 2))), .int (xs (Int32.toNatClampNeg (v4 + 3))), .int (xs (Int32.toNatClampNeg (v4 + 4))), .int (xs (Int32.toNatClampNeg (v4 + 5)))]) (st := []) cv_X11_unfold rfl w_1127 rfl (Nat.le_of_ble_eq_true rfl) (ok_X11_unfold N (d + 205) (xs (Int32.toNatClampNeg (v4 + 1))) (xs (Int32.toNatClampNeg (v4 + 2))) (xs (Int32.toNatClampNeg (v4 + 3))) (xs (Int32.toNatClampNeg (v4 + 4))) (xs (Int32.toNatClampNeg (v4 + 5))) I L) dL_law_1038 (fun x112 I113 L114 => ?_)
        refine ev_aload_n (pc := 1041) 2 dL_law_1041 rfl ?_
        refine ev_aload_n (pc := 1042) 0 dL_law_1042 rfl ?_
        refine ev_iload (pc := 1043) 4 dL_law_1043 rfl ?_
        refine ev_iconst (pc := 1045) 1 k_iconst_1 dL_law_1045 ?_
        refine ev_iadd (pc := 1046) dL_law_1046 ?_
        refine ev_sld (pc := 1047) dL_law_1047 ?_
        refine ev_aload_n (pc := 1048) 0 dL_law_1048 rfl ?_
        refine ev_iload (pc := 1049) 4 dL_law_1049 rfl ?_
        refine ev_iconst (pc := 1051) 2 k_iconst_2 dL_law_1051 ?_
        refine ev_iadd (pc := 1052) dL_law_1052 ?_
        refine ev_sld (pc := 1053) dL_law_1053 ?_
        refine ev_aload_n (pc := 1054) 0 dL_law_1054 rfl ?_
        refine ev_iload (pc := 1055) 4 dL_law_1055 rfl ?_
        refine ev_iconst (pc := 1057) 3 k_iconst_3 dL_law_1057 ?_
        refine ev_iadd (pc := 1058) dL_law_1058 ?_
        refine ev_sld (pc := 1059) dL_law_1059 ?_
        refine ev_aload_n (pc := 1060) 0 dL_law_1060 rfl ?_
        refine ev_iload (pc := 1061) 4 dL_law_1061 rfl ?_
        refine ev_iconst (pc := 1063) 4 k_iconst_4 dL_law_1063 ?_
        refine ev_iadd (pc := 1064) dL_law_1064 ?_
        refine ev_sld (pc := 1065) dL_law_1065 ?_
        refine ev_aload_n (pc := 1066) 0 dL_law_1066 rfl ?_
        refine ev_iload (pc := 1067) 4 dL_law_1067 rfl ?_
        refine ev_iconst (pc := 1069) 5 k_iconst_5 dL_law_1069 ?_
        refine ev_iadd (pc := 1070) dL_law_1070 ?_
        refine ev_sld (pc := 1071) dL_law_1071 ?_
        refine ev_callVI (pc := 1072) (d := d + 209) (As := [.int (xs (Int32.toNatClampNeg (v4 + 1))), .int (xs (Int32.toNatClampNeg (v4 + 2))), .int (xs (Int32.toNatClampNeg (v4 + 3))), .int (xs (Int32.toNatClampNeg (v4 + 4))), .int (xs (Int32.toNatClampNeg (v4 + 5)))]) (st := [.int x112]) cv_X12_unfold rfl w_1131 rfl (Nat.le_of_ble_eq_true rfl) (ok_X12_unfold N (d + 207) (xs (Int32.toNatClampNeg (v4 + 1))) (xs (Int32.toNatClampNeg (v4 + 2))) (xs (Int32.toNatClampNeg (v4 + 3))) (xs (Int32.toNatClampNeg (v4 + 4))) (xs (Int32.toNatClampNeg (v4 + 5))) I113 L114) dL_law_1072 (fun x115 I116 L117 => ?_)
        refine ev_icmp_eq (pc := 1075) 1857 (by decide) dL_law_1075 ?_ ?_
        · refine ev_iinc (pc := 1857) (lv' := [(4, .int (v4 + 7)), (0, .ref 2000), (1, .ref 11), (2, .ref 12), (3, .ref 63)]) dL_law_1857 4 rfl rfl 7 k_iconst_7 rfl ?_
          refine ev_goto (pc := 1860) 23 (by decide) dL_law_1860 ?_
          refine EvW.sub [1, 2, 3, 4, 0] rfl ?_
          exact hr_23 (v4 + 7) I116 L117
        · refine ev_iconst (pc := 1078) 0 k_iconst_0 dL_law_1078 ?_
          exact ev_lawret (pc := 1079) hk1 dL_law_1079
      · refine EvG.wide (κ' := (κ.1 + 4, κ.2 + 40)) (Nat.le_add_right _ _) (Nat.le_add_right _ _) hκ ?_
        refine ev_aload_n (pc := 1080) 1 dL_law_1080 rfl ?_
        refine ev_aload_n (pc := 1081) 0 dL_law_1081 rfl ?_
        refine ev_iload (pc := 1082) 4 dL_law_1082 rfl ?_
        refine ev_iconst (pc := 1084) 1 k_iconst_1 dL_law_1084 ?_
        refine ev_iadd (pc := 1085) dL_law_1085 ?_
        refine ev_sld (pc := 1086) dL_law_1086 ?_
        refine ev_aload_n (pc := 1087) 0 dL_law_1087 rfl ?_
        refine ev_iload (pc := 1088) 4 dL_law_1088 rfl ?_
        refine ev_iconst (pc := 1090) 2 k_iconst_2 dL_law_1090 ?_
        refine ev_iadd (pc := 1091) dL_law_1091 ?_
        refine ev_sld (pc := 1092) dL_law_1092 ?_
        refine ev_aload_n (pc := 1093) 0 dL_law_1093 rfl ?_
        refine ev_iload (pc := 1094) 4 dL_law_1094 rfl ?_
        refine ev_iconst (pc := 1096) 3 k_iconst_3 dL_law_1096 ?_
        refine ev_iadd (pc := 1097) dL_law_1097 ?_
        refine ev_sld (pc := 1098) dL_law_1098 ?_
        refine ev_aload_n (pc := 1099) 0 dL_law_1099 rfl ?_
        refine ev_iload (pc := 1100) 4 dL_law_1100 rfl ?_
        refine ev_iconst (pc := 1102) 4 k_iconst_4 dL_law_1102 ?_
        refine ev_iadd (pc := 1103) dL_law_1103 ?_
        refine ev_sld (pc := 1104) dL_law_1104 ?_
        refine ev_callVI (pc := 1105) (d := d + 209) (As := [.int (xs (Int32.toNatClampNeg (v4 + 1))), .int (xs (Int32.toNatClampNeg (v4 + 2))), .int (xs (Int32.toNatClampNeg (v4 + 3))), .int (xs (Int32.toNatClampNeg (v4 + 4)))]) (st := []) cv_X11_ghosts rfl w_1135 rfl (Nat.le_of_ble_eq_true rfl) (ok_X11_ghosts N (d + 205) (xs (Int32.toNatClampNeg (v4 + 1))) (xs (Int32.toNatClampNeg (v4 + 2))) (xs (Int32.toNatClampNeg (v4 + 3))) (xs (Int32.toNatClampNeg (v4 + 4))) I L) dL_law_1105 (fun x118 I119 L120 => ?_)
        refine ev_aload_n (pc := 1108) 2 dL_law_1108 rfl ?_
        refine ev_aload_n (pc := 1109) 0 dL_law_1109 rfl ?_
        refine ev_iload (pc := 1110) 4 dL_law_1110 rfl ?_
        refine ev_iconst (pc := 1112) 1 k_iconst_1 dL_law_1112 ?_
        refine ev_iadd (pc := 1113) dL_law_1113 ?_
        refine ev_sld (pc := 1114) dL_law_1114 ?_
        refine ev_aload_n (pc := 1115) 0 dL_law_1115 rfl ?_
        refine ev_iload (pc := 1116) 4 dL_law_1116 rfl ?_
        refine ev_iconst (pc := 1118) 2 k_iconst_2 dL_law_1118 ?_
        refine ev_iadd (pc := 1119) dL_law_1119 ?_
        refine ev_sld (pc := 1120) dL_law_1120 ?_
        refine ev_aload_n (pc := 1121) 0 dL_law_1121 rfl ?_
        refine ev_iload (pc := 1122) 4 dL_law_1122 rfl ?_
        refine ev_iconst (pc := 1124) 3 k_iconst_3 dL_law_1124 ?_
        refine ev_iadd (pc := 1125) dL_law_1125 ?_
        refine ev_sld (pc := 1126) dL_law_1126 ?_
        refine ev_aload_n (pc := 1127) 0 dL_law_1127 rfl ?_
        refine ev_iload (pc := 1128) 4 dL_law_1128 rfl ?_
        refine ev_iconst (pc := 1130) 4 k_iconst_4 dL_law_1130 ?_
        refine ev_iadd (pc := 1131) dL_law_1131 ?_
        refine ev_sld (pc := 1132) dL_law_1132 ?_
        refine ev_callVI (pc := 1133) (d := d + 209) (As := [.int (xs (Int32.toNatClampNeg (v4 + 1))), .int (xs (Int32.toNatClampNeg (v4 + 2))), .int (xs (Int32.toNatClampNeg (v4 + 3))), .int (xs (Int32.toNatClampNeg (v4 + 4)))]) (st := [.int x118]) cv_X12_ghosts rfl w_1139 rfl (Nat.le_of_ble_eq_true rfl) (ok_X12_ghosts N (d + 207) (xs (Int32.toNatClampNeg (v4 + 1))) (xs (Int32.toNatClampNeg (v4 + 2))) (xs (Int32.toNatClampNeg (v4 + 3))) (xs (Int32.toNatClampNeg (v4 + 4))) I119 L120) dL_law_1133 (fun x121 I122 L123 => ?_)
        refine ev_icmp_eq (pc := 1136) 1857 (by decide) dL_law_1136 ?_ ?_
        · refine ev_iinc (pc := 1857) (lv' := [(4, .int (v4 + 7)), (0, .ref 2000), (1, .ref 11), (2, .ref 12), (3, .ref 63)]) dL_law_1857 4 rfl rfl 7 k_iconst_7 rfl ?_
          refine ev_goto (pc := 1860) 23 (by decide) dL_law_1860 ?_
          refine EvW.sub [1, 2, 3, 4, 0] rfl ?_
          exact hr_23 (v4 + 7) I122 L123
        · refine ev_iconst (pc := 1139) 0 k_iconst_0 dL_law_1139 ?_
          exact ev_lawret (pc := 1140) hk1 dL_law_1140
      · refine EvG.wide (κ' := (κ.1 + 4, κ.2 + 40)) (Nat.le_add_right _ _) (Nat.le_add_right _ _) hκ ?_
        refine ev_aload_n (pc := 1141) 1 dL_law_1141 rfl ?_
        refine ev_aload_n (pc := 1142) 0 dL_law_1142 rfl ?_
        refine ev_iload (pc := 1143) 4 dL_law_1143 rfl ?_
        refine ev_iconst (pc := 1145) 1 k_iconst_1 dL_law_1145 ?_
        refine ev_iadd (pc := 1146) dL_law_1146 ?_
        refine ev_sld (pc := 1147) dL_law_1147 ?_
        refine ev_callVI (pc := 1148) (d := d + 209) (As := [.int (xs (Int32.toNatClampNeg (v4 + 1)))]) (st := []) cv_X11_cell rfl w_1143 rfl (Nat.le_of_ble_eq_true rfl) (ok_X11_cell N (d + 205) (xs (Int32.toNatClampNeg (v4 + 1))) I L) dL_law_1148 (fun x124 I125 L126 => ?_)
        refine ev_aload_n (pc := 1151) 2 dL_law_1151 rfl ?_
        refine ev_aload_n (pc := 1152) 0 dL_law_1152 rfl ?_
        refine ev_iload (pc := 1153) 4 dL_law_1153 rfl ?_
        refine ev_iconst (pc := 1155) 1 k_iconst_1 dL_law_1155 ?_
        refine ev_iadd (pc := 1156) dL_law_1156 ?_
        refine ev_sld (pc := 1157) dL_law_1157 ?_
        refine ev_callVI (pc := 1158) (d := d + 209) (As := [.int (xs (Int32.toNatClampNeg (v4 + 1)))]) (st := [.int x124]) cv_X12_cell rfl w_1147 rfl (Nat.le_of_ble_eq_true rfl) (ok_X12_cell N (d + 206) (xs (Int32.toNatClampNeg (v4 + 1))) I125 L126) dL_law_1158 (fun x127 I128 L129 => ?_)
        refine ev_icmp_eq (pc := 1161) 1857 (by decide) dL_law_1161 ?_ ?_
        · refine ev_iinc (pc := 1857) (lv' := [(4, .int (v4 + 7)), (0, .ref 2000), (1, .ref 11), (2, .ref 12), (3, .ref 63)]) dL_law_1857 4 rfl rfl 7 k_iconst_7 rfl ?_
          refine ev_goto (pc := 1860) 23 (by decide) dL_law_1860 ?_
          refine EvW.sub [1, 2, 3, 4, 0] rfl ?_
          exact hr_23 (v4 + 7) I128 L129
        · refine ev_iconst (pc := 1164) 0 k_iconst_0 dL_law_1164 ?_
          exact ev_lawret (pc := 1165) hk1 dL_law_1165
      · refine EvG.wide (κ' := (κ.1 + 4, κ.2 + 40)) (Nat.le_add_right _ _) (Nat.le_add_right _ _) hκ ?_
        refine ev_aload_n (pc := 1166) 1 dL_law_1166 rfl ?_
        refine ev_aload_n (pc := 1167) 0 dL_law_1167 rfl ?_
        refine ev_iload (pc := 1168) 4 dL_law_1168 rfl ?_
        refine ev_iconst (pc := 1170) 1 k_iconst_1 dL_law_1170 ?_
        refine ev_iadd (pc := 1171) dL_law_1171 ?_
        refine ev_sld (pc := 1172) dL_law_1172 ?_
        refine ev_aload_n (pc := 1173) 0 dL_law_1173 rfl ?_
        refine ev_iload (pc := 1174) 4 dL_law_1174 rfl ?_
        refine ev_iconst (pc := 1176) 2 k_iconst_2 dL_law_1176 ?_
        refine ev_iadd (pc := 1177) dL_law_1177 ?_
        refine ev_sld (pc := 1178) dL_law_1178 ?_
        refine ev_callVI (pc := 1179) (d := d + 209) (As := [.int (xs (Int32.toNatClampNeg (v4 + 1))), .int (xs (Int32.toNatClampNeg (v4 + 2)))]) (st := []) cv_X11_change rfl w_1151 rfl (Nat.le_of_ble_eq_true rfl) (ok_X11_change N (d + 205) (xs (Int32.toNatClampNeg (v4 + 1))) (xs (Int32.toNatClampNeg (v4 + 2))) I L) dL_law_1179 (fun x130 I131 L132 => ?_)
        refine ev_aload_n (pc := 1182) 2 dL_law_1182 rfl ?_
        refine ev_aload_n (pc := 1183) 0 dL_law_1183 rfl ?_
        refine ev_iload (pc := 1184) 4 dL_law_1184 rfl ?_
        refine ev_iconst (pc := 1186) 1 k_iconst_1 dL_law_1186 ?_
        refine ev_iadd (pc := 1187) dL_law_1187 ?_
        refine ev_sld (pc := 1188) dL_law_1188 ?_
        refine ev_aload_n (pc := 1189) 0 dL_law_1189 rfl ?_
        refine ev_iload (pc := 1190) 4 dL_law_1190 rfl ?_
        refine ev_iconst (pc := 1192) 2 k_iconst_2 dL_law_1192 ?_
        refine ev_iadd (pc := 1193) dL_law_1193 ?_
        refine ev_sld (pc := 1194) dL_law_1194 ?_
        refine ev_callVI (pc := 1195) (d := d + 209) (As := [.int (xs (Int32.toNatClampNeg (v4 + 1))), .int (xs (Int32.toNatClampNeg (v4 + 2)))]) (st := [.int x130]) cv_X12_change rfl w_1155 rfl (Nat.le_of_ble_eq_true rfl) (ok_X12_change N (d + 206) (xs (Int32.toNatClampNeg (v4 + 1))) (xs (Int32.toNatClampNeg (v4 + 2))) I131 L132) dL_law_1195 (fun x133 I134 L135 => ?_)
        refine ev_icmp_eq (pc := 1198) 1857 (by decide) dL_law_1198 ?_ ?_
        · refine ev_iinc (pc := 1857) (lv' := [(4, .int (v4 + 7)), (0, .ref 2000), (1, .ref 11), (2, .ref 12), (3, .ref 63)]) dL_law_1857 4 rfl rfl 7 k_iconst_7 rfl ?_
          refine ev_goto (pc := 1860) 23 (by decide) dL_law_1860 ?_
          refine EvW.sub [1, 2, 3, 4, 0] rfl ?_
          exact hr_23 (v4 + 7) I134 L135
        · refine ev_iconst (pc := 1201) 0 k_iconst_0 dL_law_1201 ?_
          exact ev_lawret (pc := 1202) hk1 dL_law_1202
      · refine EvG.wide (κ' := (κ.1 + 4, κ.2 + 40)) (Nat.le_add_right _ _) (Nat.le_add_right _ _) hκ ?_
        refine ev_aload_n (pc := 1203) 1 dL_law_1203 rfl ?_
        refine ev_aload_n (pc := 1204) 0 dL_law_1204 rfl ?_
        refine ev_iload (pc := 1205) 4 dL_law_1205 rfl ?_
        refine ev_iconst (pc := 1207) 1 k_iconst_1 dL_law_1207 ?_
        refine ev_iadd (pc := 1208) dL_law_1208 ?_
        refine ev_sld (pc := 1209) dL_law_1209 ?_
        refine ev_aload_n (pc := 1210) 0 dL_law_1210 rfl ?_
        refine ev_iload (pc := 1211) 4 dL_law_1211 rfl ?_
        refine ev_iconst (pc := 1213) 2 k_iconst_2 dL_law_1213 ?_
        refine ev_iadd (pc := 1214) dL_law_1214 ?_
        refine ev_sld (pc := 1215) dL_law_1215 ?_
        refine ev_aload_n (pc := 1216) 0 dL_law_1216 rfl ?_
        refine ev_iload (pc := 1217) 4 dL_law_1217 rfl ?_
        refine ev_iconst (pc := 1219) 3 k_iconst_3 dL_law_1219 ?_
        refine ev_iadd (pc := 1220) dL_law_1220 ?_
        refine ev_sld (pc := 1221) dL_law_1221 ?_
        refine ev_i2l (pc := 1222) dL_law_1222 ?_
        refine ev_bipush (pc := 1223) 32 k_bipush_32 dL_law_1223 ?_
        refine ev_lshl (pc := 1225) dL_law_1225 ?_
        refine ev_aload_n (pc := 1226) 0 dL_law_1226 rfl ?_
        refine ev_iload (pc := 1227) 4 dL_law_1227 rfl ?_
        refine ev_iconst (pc := 1229) 4 k_iconst_4 dL_law_1229 ?_
        refine ev_iadd (pc := 1230) dL_law_1230 ?_
        refine ev_sld (pc := 1231) dL_law_1231 ?_
        refine ev_i2l (pc := 1232) dL_law_1232 ?_
        refine ev_ldc2 (pc := 1233) w_1156 dL_law_1233 ?_
        refine ev_land (pc := 1236) dL_law_1236 ?_
        refine ev_lor (pc := 1237) dL_law_1237 ?_
        refine ev_callVI (pc := 1238) (d := d + 209) (As := [.int (xs (Int32.toNatClampNeg (v4 + 1))), .int (xs (Int32.toNatClampNeg (v4 + 2))), .long ((jlshl (Int32.toInt64 (xs (Int32.toNatClampNeg (v4 + 3)))) 32) ||| ((Int32.toInt64 (xs (Int32.toNatClampNeg (v4 + 4)))) &&& 4294967295))]) (st := []) cv_X11_draw rfl w_1160 rfl (Nat.le_of_ble_eq_true rfl) (ok_X11_draw N (d + 205) (xs (Int32.toNatClampNeg (v4 + 1))) (xs (Int32.toNatClampNeg (v4 + 2))) ((jlshl (Int32.toInt64 (xs (Int32.toNatClampNeg (v4 + 3)))) 32) ||| ((Int32.toInt64 (xs (Int32.toNatClampNeg (v4 + 4)))) &&& 4294967295)) I L) dL_law_1238 (fun x136 I137 L138 => ?_)
        refine ev_aload_n (pc := 1241) 2 dL_law_1241 rfl ?_
        refine ev_aload_n (pc := 1242) 0 dL_law_1242 rfl ?_
        refine ev_iload (pc := 1243) 4 dL_law_1243 rfl ?_
        refine ev_iconst (pc := 1245) 1 k_iconst_1 dL_law_1245 ?_
        refine ev_iadd (pc := 1246) dL_law_1246 ?_
        refine ev_sld (pc := 1247) dL_law_1247 ?_
        refine ev_aload_n (pc := 1248) 0 dL_law_1248 rfl ?_
        refine ev_iload (pc := 1249) 4 dL_law_1249 rfl ?_
        refine ev_iconst (pc := 1251) 2 k_iconst_2 dL_law_1251 ?_
        refine ev_iadd (pc := 1252) dL_law_1252 ?_
        refine ev_sld (pc := 1253) dL_law_1253 ?_
        refine ev_aload_n (pc := 1254) 0 dL_law_1254 rfl ?_
        refine ev_iload (pc := 1255) 4 dL_law_1255 rfl ?_
        refine ev_iconst (pc := 1257) 3 k_iconst_3 dL_law_1257 ?_
        refine ev_iadd (pc := 1258) dL_law_1258 ?_
        refine ev_sld (pc := 1259) dL_law_1259 ?_
        refine ev_i2l (pc := 1260) dL_law_1260 ?_
        refine ev_bipush (pc := 1261) 32 k_bipush_32 dL_law_1261 ?_
        refine ev_lshl (pc := 1263) dL_law_1263 ?_
        refine ev_aload_n (pc := 1264) 0 dL_law_1264 rfl ?_
        refine ev_iload (pc := 1265) 4 dL_law_1265 rfl ?_
        refine ev_iconst (pc := 1267) 4 k_iconst_4 dL_law_1267 ?_
        refine ev_iadd (pc := 1268) dL_law_1268 ?_
        refine ev_sld (pc := 1269) dL_law_1269 ?_
        refine ev_i2l (pc := 1270) dL_law_1270 ?_
        refine ev_ldc2 (pc := 1271) w_1156 dL_law_1271 ?_
        refine ev_land (pc := 1274) dL_law_1274 ?_
        refine ev_lor (pc := 1275) dL_law_1275 ?_
        refine ev_callVI (pc := 1276) (d := d + 209) (As := [.int (xs (Int32.toNatClampNeg (v4 + 1))), .int (xs (Int32.toNatClampNeg (v4 + 2))), .long ((jlshl (Int32.toInt64 (xs (Int32.toNatClampNeg (v4 + 3)))) 32) ||| ((Int32.toInt64 (xs (Int32.toNatClampNeg (v4 + 4)))) &&& 4294967295))]) (st := [.int x136]) cv_X12_draw rfl w_1164 rfl (Nat.le_of_ble_eq_true rfl) (ok_X12_draw N (d + 206) (xs (Int32.toNatClampNeg (v4 + 1))) (xs (Int32.toNatClampNeg (v4 + 2))) ((jlshl (Int32.toInt64 (xs (Int32.toNatClampNeg (v4 + 3)))) 32) ||| ((Int32.toInt64 (xs (Int32.toNatClampNeg (v4 + 4)))) &&& 4294967295)) I137 L138) dL_law_1276 (fun x139 I140 L141 => ?_)
        refine ev_icmp_eq (pc := 1279) 1857 (by decide) dL_law_1279 ?_ ?_
        · refine ev_iinc (pc := 1857) (lv' := [(4, .int (v4 + 7)), (0, .ref 2000), (1, .ref 11), (2, .ref 12), (3, .ref 63)]) dL_law_1857 4 rfl rfl 7 k_iconst_7 rfl ?_
          refine ev_goto (pc := 1860) 23 (by decide) dL_law_1860 ?_
          refine EvW.sub [1, 2, 3, 4, 0] rfl ?_
          exact hr_23 (v4 + 7) I140 L141
        · refine ev_iconst (pc := 1282) 0 k_iconst_0 dL_law_1282 ?_
          exact ev_lawret (pc := 1283) hk1 dL_law_1283
      · refine EvG.wide (κ' := (κ.1 + 4, κ.2 + 40)) (Nat.le_add_right _ _) (Nat.le_add_right _ _) hκ ?_
        refine ev_aload_n (pc := 1284) 1 dL_law_1284 rfl ?_
        refine ev_aload_n (pc := 1285) 0 dL_law_1285 rfl ?_
        refine ev_iload (pc := 1286) 4 dL_law_1286 rfl ?_
        refine ev_iconst (pc := 1288) 1 k_iconst_1 dL_law_1288 ?_
        refine ev_iadd (pc := 1289) dL_law_1289 ?_
        refine ev_sld (pc := 1290) dL_law_1290 ?_
        refine ev_callVI (pc := 1291) (d := d + 209) (As := [.int (xs (Int32.toNatClampNeg (v4 + 1)))]) (st := []) cv_X11_at rfl w_1168 rfl (Nat.le_of_ble_eq_true rfl) (ok_X11_at N (d + 207) (xs (Int32.toNatClampNeg (v4 + 1))) I L) dL_law_1291 (fun x142 I143 L144 => ?_)
        refine ev_aload_n (pc := 1294) 2 dL_law_1294 rfl ?_
        refine ev_aload_n (pc := 1295) 0 dL_law_1295 rfl ?_
        refine ev_iload (pc := 1296) 4 dL_law_1296 rfl ?_
        refine ev_iconst (pc := 1298) 1 k_iconst_1 dL_law_1298 ?_
        refine ev_iadd (pc := 1299) dL_law_1299 ?_
        refine ev_sld (pc := 1300) dL_law_1300 ?_
        refine ev_callVI (pc := 1301) (d := d + 209) (As := [.int (xs (Int32.toNatClampNeg (v4 + 1)))]) (st := [.int x142]) cv_X12_at rfl w_1172 rfl (Nat.le_of_ble_eq_true rfl) (ok_X12_at N (d + 207) (xs (Int32.toNatClampNeg (v4 + 1))) I143 L144) dL_law_1301 (fun x145 I146 L147 => ?_)
        refine ev_icmp_eq (pc := 1304) 1857 (by decide) dL_law_1304 ?_ ?_
        · refine ev_iinc (pc := 1857) (lv' := [(4, .int (v4 + 7)), (0, .ref 2000), (1, .ref 11), (2, .ref 12), (3, .ref 63)]) dL_law_1857 4 rfl rfl 7 k_iconst_7 rfl ?_
          refine ev_goto (pc := 1860) 23 (by decide) dL_law_1860 ?_
          refine EvW.sub [1, 2, 3, 4, 0] rfl ?_
          exact hr_23 (v4 + 7) I146 L147
        · refine ev_iconst (pc := 1307) 0 k_iconst_0 dL_law_1307 ?_
          exact ev_lawret (pc := 1308) hk1 dL_law_1308
      · refine EvG.wide (κ' := (κ.1 + 4, κ.2 + 40)) (Nat.le_add_right _ _) (Nat.le_add_right _ _) hκ ?_
        refine ev_aload_n (pc := 1309) 1 dL_law_1309 rfl ?_
        refine ev_aload_n (pc := 1310) 0 dL_law_1310 rfl ?_
        refine ev_iload (pc := 1311) 4 dL_law_1311 rfl ?_
        refine ev_iconst (pc := 1313) 1 k_iconst_1 dL_law_1313 ?_
        refine ev_iadd (pc := 1314) dL_law_1314 ?_
        refine ev_sld (pc := 1315) dL_law_1315 ?_
        refine ev_if_eq (pc := 1316) 1323 (by decide) dL_law_1316 ?_ ?_
        · refine ev_iconst (pc := 1323) 0 k_iconst_0 dL_law_1323 ?_
          exact E_L_law_1324 N d l9 xs hk1 (F_L_law_23 N l9 xs n) hr_23 v4 0 I L
        · refine ev_iconst (pc := 1319) 1 k_iconst_1 dL_law_1319 ?_
          refine ev_goto (pc := 1320) 1324 (by decide) dL_law_1320 ?_
          exact E_L_law_1324 N d l9 xs hk1 (F_L_law_23 N l9 xs n) hr_23 v4 1 I L
      · refine EvG.wide (κ' := (κ.1 + 4, κ.2 + 40)) (Nat.le_add_right _ _) (Nat.le_add_right _ _) hκ ?_
        refine ev_aload_n (pc := 1350) 1 dL_law_1350 rfl ?_
        refine ev_aload_n (pc := 1351) 0 dL_law_1351 rfl ?_
        refine ev_iload (pc := 1352) 4 dL_law_1352 rfl ?_
        refine ev_iconst (pc := 1354) 1 k_iconst_1 dL_law_1354 ?_
        refine ev_iadd (pc := 1355) dL_law_1355 ?_
        refine ev_sld (pc := 1356) dL_law_1356 ?_
        refine ev_callVI (pc := 1357) (d := d + 209) (As := [.int (xs (Int32.toNatClampNeg (v4 + 1)))]) (st := []) cv_X11_found rfl w_1184 rfl (Nat.le_of_ble_eq_true rfl) (ok_X11_found N (d + 204) (xs (Int32.toNatClampNeg (v4 + 1))) I L) dL_law_1357 (fun x154 I155 L156 => ?_)
        refine ev_aload_n (pc := 1360) 2 dL_law_1360 rfl ?_
        refine ev_aload_n (pc := 1361) 0 dL_law_1361 rfl ?_
        refine ev_iload (pc := 1362) 4 dL_law_1362 rfl ?_
        refine ev_iconst (pc := 1364) 1 k_iconst_1 dL_law_1364 ?_
        refine ev_iadd (pc := 1365) dL_law_1365 ?_
        refine ev_sld (pc := 1366) dL_law_1366 ?_
        refine ev_callVI (pc := 1367) (d := d + 209) (As := [.int (xs (Int32.toNatClampNeg (v4 + 1)))]) (st := [.int x154]) cv_X12_found rfl w_1185 rfl (Nat.le_of_ble_eq_true rfl) (ok_X12_found N (d + 207) (xs (Int32.toNatClampNeg (v4 + 1))) I155 L156) dL_law_1367 (fun x157 I158 L159 => ?_)
        refine ev_icmp_eq (pc := 1370) 1857 (by decide) dL_law_1370 ?_ ?_
        · refine ev_iinc (pc := 1857) (lv' := [(4, .int (v4 + 7)), (0, .ref 2000), (1, .ref 11), (2, .ref 12), (3, .ref 63)]) dL_law_1857 4 rfl rfl 7 k_iconst_7 rfl ?_
          refine ev_goto (pc := 1860) 23 (by decide) dL_law_1860 ?_
          refine EvW.sub [1, 2, 3, 4, 0] rfl ?_
          exact hr_23 (v4 + 7) I158 L159
        · refine ev_iconst (pc := 1373) 0 k_iconst_0 dL_law_1373 ?_
          exact ev_lawret (pc := 1374) hk1 dL_law_1374
      · refine EvG.wide (κ' := (κ.1 + 4, κ.2 + 40)) (Nat.le_add_right _ _) (Nat.le_add_right _ _) hκ ?_
        refine ev_aload_n (pc := 1375) 1 dL_law_1375 rfl ?_
        refine ev_callVI (pc := 1376) (d := d + 209) (As := []) (st := []) cv_X11_alarms rfl w_1189 rfl (Nat.le_of_ble_eq_true rfl) (ok_X11_alarms N (d + 203) I L) dL_law_1376 (fun x160 I161 L162 => ?_)
        refine ev_aload_n (pc := 1379) 2 dL_law_1379 rfl ?_
        refine ev_callVI (pc := 1380) (d := d + 209) (As := []) (st := [.int x160]) cv_X12_alarms rfl w_1193 rfl (Nat.le_of_ble_eq_true rfl) (ok_X12_alarms N (d + 206) I161 L162) dL_law_1380 (fun x163 I164 L165 => ?_)
        refine ev_icmp_eq (pc := 1383) 1857 (by decide) dL_law_1383 ?_ ?_
        · refine ev_iinc (pc := 1857) (lv' := [(4, .int (v4 + 7)), (0, .ref 2000), (1, .ref 11), (2, .ref 12), (3, .ref 63)]) dL_law_1857 4 rfl rfl 7 k_iconst_7 rfl ?_
          refine ev_goto (pc := 1860) 23 (by decide) dL_law_1860 ?_
          refine EvW.sub [1, 2, 3, 4, 0] rfl ?_
          exact hr_23 (v4 + 7) I164 L165
        · refine ev_iconst (pc := 1386) 0 k_iconst_0 dL_law_1386 ?_
          exact ev_lawret (pc := 1387) hk1 dL_law_1387
      · refine EvG.wide (κ' := (κ.1 + 4, κ.2 + 40)) (Nat.le_add_right _ _) (Nat.le_add_right _ _) hκ ?_
        refine ev_aload_n (pc := 1388) 1 dL_law_1388 rfl ?_
        refine ev_aload_n (pc := 1389) 0 dL_law_1389 rfl ?_
        refine ev_iload (pc := 1390) 4 dL_law_1390 rfl ?_
        refine ev_iconst (pc := 1392) 1 k_iconst_1 dL_law_1392 ?_
        refine ev_iadd (pc := 1393) dL_law_1393 ?_
        refine ev_sld (pc := 1394) dL_law_1394 ?_
        refine ev_aload_n (pc := 1395) 0 dL_law_1395 rfl ?_
        refine ev_iload (pc := 1396) 4 dL_law_1396 rfl ?_
        refine ev_iconst (pc := 1398) 2 k_iconst_2 dL_law_1398 ?_
        refine ev_iadd (pc := 1399) dL_law_1399 ?_
        refine ev_sld (pc := 1400) dL_law_1400 ?_
        refine ev_aload_n (pc := 1401) 0 dL_law_1401 rfl ?_
        refine ev_iload (pc := 1402) 4 dL_law_1402 rfl ?_
        refine ev_iconst (pc := 1404) 3 k_iconst_3 dL_law_1404 ?_
        refine ev_iadd (pc := 1405) dL_law_1405 ?_
        refine ev_sld (pc := 1406) dL_law_1406 ?_
        refine ev_aload_n (pc := 1407) 0 dL_law_1407 rfl ?_
        refine ev_iload (pc := 1408) 4 dL_law_1408 rfl ?_
        refine ev_iconst (pc := 1410) 4 k_iconst_4 dL_law_1410 ?_
        refine ev_iadd (pc := 1411) dL_law_1411 ?_
        refine ev_sld (pc := 1412) dL_law_1412 ?_
        refine ev_aload_n (pc := 1413) 0 dL_law_1413 rfl ?_
        refine ev_iload (pc := 1414) 4 dL_law_1414 rfl ?_
        refine ev_iconst (pc := 1416) 5 k_iconst_5 dL_law_1416 ?_
        refine ev_iadd (pc := 1417) dL_law_1417 ?_
        refine ev_sld (pc := 1418) dL_law_1418 ?_
        refine ev_callVJ (pc := 1419) (d := d + 209) (As := [.int (xs (Int32.toNatClampNeg (v4 + 1))), .int (xs (Int32.toNatClampNeg (v4 + 2))), .int (xs (Int32.toNatClampNeg (v4 + 3))), .int (xs (Int32.toNatClampNeg (v4 + 4))), .int (xs (Int32.toNatClampNeg (v4 + 5)))]) (st := []) cv_X11_share rfl w_1197 rfl (Nat.le_of_ble_eq_true rfl) (ok_X11_share N (d + 206) (xs (Int32.toNatClampNeg (v4 + 1))) (xs (Int32.toNatClampNeg (v4 + 2))) (xs (Int32.toNatClampNeg (v4 + 3))) (xs (Int32.toNatClampNeg (v4 + 4))) (xs (Int32.toNatClampNeg (v4 + 5))) I L) dL_law_1419 (fun x166 I167 L168 => ?_)
        refine ev_aload_n (pc := 1422) 2 dL_law_1422 rfl ?_
        refine ev_aload_n (pc := 1423) 0 dL_law_1423 rfl ?_
        refine ev_iload (pc := 1424) 4 dL_law_1424 rfl ?_
        refine ev_iconst (pc := 1426) 1 k_iconst_1 dL_law_1426 ?_
        refine ev_iadd (pc := 1427) dL_law_1427 ?_
        refine ev_sld (pc := 1428) dL_law_1428 ?_
        refine ev_aload_n (pc := 1429) 0 dL_law_1429 rfl ?_
        refine ev_iload (pc := 1430) 4 dL_law_1430 rfl ?_
        refine ev_iconst (pc := 1432) 2 k_iconst_2 dL_law_1432 ?_
        refine ev_iadd (pc := 1433) dL_law_1433 ?_
        refine ev_sld (pc := 1434) dL_law_1434 ?_
        refine ev_aload_n (pc := 1435) 0 dL_law_1435 rfl ?_
        refine ev_iload (pc := 1436) 4 dL_law_1436 rfl ?_
        refine ev_iconst (pc := 1438) 3 k_iconst_3 dL_law_1438 ?_
        refine ev_iadd (pc := 1439) dL_law_1439 ?_
        refine ev_sld (pc := 1440) dL_law_1440 ?_
        refine ev_aload_n (pc := 1441) 0 dL_law_1441 rfl ?_
        refine ev_iload (pc := 1442) 4 dL_law_1442 rfl ?_
        refine ev_iconst (pc := 1444) 4 k_iconst_4 dL_law_1444 ?_
        refine ev_iadd (pc := 1445) dL_law_1445 ?_
        refine ev_sld (pc := 1446) dL_law_1446 ?_
        refine ev_aload_n (pc := 1447) 0 dL_law_1447 rfl ?_
        refine ev_iload (pc := 1448) 4 dL_law_1448 rfl ?_
        refine ev_iconst (pc := 1450) 5 k_iconst_5 dL_law_1450 ?_
        refine ev_iadd (pc := 1451) dL_law_1451 ?_
        refine ev_sld (pc := 1452) dL_law_1452 ?_
        refine ev_callVJ (pc := 1453) (d := d + 209) (As := [.int (xs (Int32.toNatClampNeg (v4 + 1))), .int (xs (Int32.toNatClampNeg (v4 + 2))), .int (xs (Int32.toNatClampNeg (v4 + 3))), .int (xs (Int32.toNatClampNeg (v4 + 4))), .int (xs (Int32.toNatClampNeg (v4 + 5)))]) (st := [.long x166]) cv_X12_share rfl w_1198 rfl (Nat.le_of_ble_eq_true rfl) (ok_X12_share N (d + 207) (xs (Int32.toNatClampNeg (v4 + 1))) (xs (Int32.toNatClampNeg (v4 + 2))) (xs (Int32.toNatClampNeg (v4 + 3))) (xs (Int32.toNatClampNeg (v4 + 4))) (xs (Int32.toNatClampNeg (v4 + 5))) I167 L168) dL_law_1453 (fun x169 I170 L171 => ?_)
        refine ev_lcmp (pc := 1456) dL_law_1456 ?_
        refine ev_if_eq (pc := 1457) 1857 (by decide) dL_law_1457 ?_ ?_
        · refine ev_iinc (pc := 1857) (lv' := [(4, .int (v4 + 7)), (0, .ref 2000), (1, .ref 11), (2, .ref 12), (3, .ref 63)]) dL_law_1857 4 rfl rfl 7 k_iconst_7 rfl ?_
          refine ev_goto (pc := 1860) 23 (by decide) dL_law_1860 ?_
          refine EvW.sub [1, 2, 3, 4, 0] rfl ?_
          exact hr_23 (v4 + 7) I170 L171
        · refine ev_iconst (pc := 1460) 0 k_iconst_0 dL_law_1460 ?_
          exact ev_lawret (pc := 1461) hk1 dL_law_1461
      · refine EvG.wide (κ' := (κ.1 + 4, κ.2 + 40)) (Nat.le_add_right _ _) (Nat.le_add_right _ _) hκ ?_
        refine ev_aload_n (pc := 1462) 1 dL_law_1462 rfl ?_
        refine ev_aload_n (pc := 1463) 0 dL_law_1463 rfl ?_
        refine ev_iload (pc := 1464) 4 dL_law_1464 rfl ?_
        refine ev_iconst (pc := 1466) 1 k_iconst_1 dL_law_1466 ?_
        refine ev_iadd (pc := 1467) dL_law_1467 ?_
        refine ev_sld (pc := 1468) dL_law_1468 ?_
        refine ev_aload_n (pc := 1469) 0 dL_law_1469 rfl ?_
        refine ev_iload (pc := 1470) 4 dL_law_1470 rfl ?_
        refine ev_iconst (pc := 1472) 2 k_iconst_2 dL_law_1472 ?_
        refine ev_iadd (pc := 1473) dL_law_1473 ?_
        refine ev_sld (pc := 1474) dL_law_1474 ?_
        refine ev_aload_n (pc := 1475) 0 dL_law_1475 rfl ?_
        refine ev_iload (pc := 1476) 4 dL_law_1476 rfl ?_
        refine ev_iconst (pc := 1478) 3 k_iconst_3 dL_law_1478 ?_
        refine ev_iadd (pc := 1479) dL_law_1479 ?_
        refine ev_sld (pc := 1480) dL_law_1480 ?_
        refine ev_callVI (pc := 1481) (d := d + 209) (As := [.int (xs (Int32.toNatClampNeg (v4 + 1))), .int (xs (Int32.toNatClampNeg (v4 + 2))), .int (xs (Int32.toNatClampNeg (v4 + 3)))]) (st := []) cv_X11_beam rfl w_1202 rfl (Nat.le_of_ble_eq_true rfl) (ok_X11_beam N (d + 206) (xs (Int32.toNatClampNeg (v4 + 1))) (xs (Int32.toNatClampNeg (v4 + 2))) (xs (Int32.toNatClampNeg (v4 + 3))) I L) dL_law_1481 (fun x172 I173 L174 => ?_)
        refine ev_aload_n (pc := 1484) 2 dL_law_1484 rfl ?_
        refine ev_aload_n (pc := 1485) 0 dL_law_1485 rfl ?_
        refine ev_iload (pc := 1486) 4 dL_law_1486 rfl ?_
        refine ev_iconst (pc := 1488) 1 k_iconst_1 dL_law_1488 ?_
        refine ev_iadd (pc := 1489) dL_law_1489 ?_
        refine ev_sld (pc := 1490) dL_law_1490 ?_
        refine ev_aload_n (pc := 1491) 0 dL_law_1491 rfl ?_
        refine ev_iload (pc := 1492) 4 dL_law_1492 rfl ?_
        refine ev_iconst (pc := 1494) 2 k_iconst_2 dL_law_1494 ?_
        refine ev_iadd (pc := 1495) dL_law_1495 ?_
        refine ev_sld (pc := 1496) dL_law_1496 ?_
        refine ev_aload_n (pc := 1497) 0 dL_law_1497 rfl ?_
        refine ev_iload (pc := 1498) 4 dL_law_1498 rfl ?_
        refine ev_iconst (pc := 1500) 3 k_iconst_3 dL_law_1500 ?_
        refine ev_iadd (pc := 1501) dL_law_1501 ?_
        refine ev_sld (pc := 1502) dL_law_1502 ?_
        refine ev_callVI (pc := 1503) (d := d + 209) (As := [.int (xs (Int32.toNatClampNeg (v4 + 1))), .int (xs (Int32.toNatClampNeg (v4 + 2))), .int (xs (Int32.toNatClampNeg (v4 + 3)))]) (st := [.int x172]) cv_X12_beam rfl w_1206 rfl (Nat.le_of_ble_eq_true rfl) (ok_X12_beam N (d + 208) (xs (Int32.toNatClampNeg (v4 + 1))) (xs (Int32.toNatClampNeg (v4 + 2))) (xs (Int32.toNatClampNeg (v4 + 3))) I173 L174) dL_law_1503 (fun x175 I176 L177 => ?_)
        refine ev_icmp_eq (pc := 1506) 1857 (by decide) dL_law_1506 ?_ ?_
        · refine ev_iinc (pc := 1857) (lv' := [(4, .int (v4 + 7)), (0, .ref 2000), (1, .ref 11), (2, .ref 12), (3, .ref 63)]) dL_law_1857 4 rfl rfl 7 k_iconst_7 rfl ?_
          refine ev_goto (pc := 1860) 23 (by decide) dL_law_1860 ?_
          refine EvW.sub [1, 2, 3, 4, 0] rfl ?_
          exact hr_23 (v4 + 7) I176 L177
        · refine ev_iconst (pc := 1509) 0 k_iconst_0 dL_law_1509 ?_
          exact ev_lawret (pc := 1510) hk1 dL_law_1510
      · refine EvG.wide (κ' := (κ.1 + 4, κ.2 + 40)) (Nat.le_add_right _ _) (Nat.le_add_right _ _) hκ ?_
        refine ev_aload_n (pc := 1511) 1 dL_law_1511 rfl ?_
        refine ev_aload_n (pc := 1512) 0 dL_law_1512 rfl ?_
        refine ev_iload (pc := 1513) 4 dL_law_1513 rfl ?_
        refine ev_iconst (pc := 1515) 1 k_iconst_1 dL_law_1515 ?_
        refine ev_iadd (pc := 1516) dL_law_1516 ?_
        refine ev_sld (pc := 1517) dL_law_1517 ?_
        refine ev_callVI (pc := 1518) (d := d + 209) (As := [.int (xs (Int32.toNatClampNeg (v4 + 1)))]) (st := []) cv_X11_plan rfl w_1210 rfl (Nat.le_of_ble_eq_true rfl) (ok_X11_plan N (d + 206) (xs (Int32.toNatClampNeg (v4 + 1))) I L) dL_law_1518 (fun x178 I179 L180 => ?_)
        refine ev_aload_n (pc := 1521) 2 dL_law_1521 rfl ?_
        refine ev_aload_n (pc := 1522) 0 dL_law_1522 rfl ?_
        refine ev_iload (pc := 1523) 4 dL_law_1523 rfl ?_
        refine ev_iconst (pc := 1525) 1 k_iconst_1 dL_law_1525 ?_
        refine ev_iadd (pc := 1526) dL_law_1526 ?_
        refine ev_sld (pc := 1527) dL_law_1527 ?_
        refine ev_callVI (pc := 1528) (d := d + 209) (As := [.int (xs (Int32.toNatClampNeg (v4 + 1)))]) (st := [.int x178]) cv_X12_plan rfl w_1214 rfl (Nat.le_of_ble_eq_true rfl) (ok_X12_plan N (d + 206) (xs (Int32.toNatClampNeg (v4 + 1))) I179 L180) dL_law_1528 (fun x181 I182 L183 => ?_)
        refine ev_icmp_eq (pc := 1531) 1857 (by decide) dL_law_1531 ?_ ?_
        · refine ev_iinc (pc := 1857) (lv' := [(4, .int (v4 + 7)), (0, .ref 2000), (1, .ref 11), (2, .ref 12), (3, .ref 63)]) dL_law_1857 4 rfl rfl 7 k_iconst_7 rfl ?_
          refine ev_goto (pc := 1860) 23 (by decide) dL_law_1860 ?_
          refine EvW.sub [1, 2, 3, 4, 0] rfl ?_
          exact hr_23 (v4 + 7) I182 L183
        · refine ev_iconst (pc := 1534) 0 k_iconst_0 dL_law_1534 ?_
          exact ev_lawret (pc := 1535) hk1 dL_law_1535
      · refine EvG.wide (κ' := (κ.1 + 4, κ.2 + 40)) (Nat.le_add_right _ _) (Nat.le_add_right _ _) hκ ?_
        refine ev_aload_n (pc := 1536) 1 dL_law_1536 rfl ?_
        refine ev_aload_n (pc := 1537) 0 dL_law_1537 rfl ?_
        refine ev_iload (pc := 1538) 4 dL_law_1538 rfl ?_
        refine ev_iconst (pc := 1540) 1 k_iconst_1 dL_law_1540 ?_
        refine ev_iadd (pc := 1541) dL_law_1541 ?_
        refine ev_sld (pc := 1542) dL_law_1542 ?_
        refine ev_aload_n (pc := 1543) 0 dL_law_1543 rfl ?_
        refine ev_iload (pc := 1544) 4 dL_law_1544 rfl ?_
        refine ev_iconst (pc := 1546) 2 k_iconst_2 dL_law_1546 ?_
        refine ev_iadd (pc := 1547) dL_law_1547 ?_
        refine ev_sld (pc := 1548) dL_law_1548 ?_
        refine ev_callVI (pc := 1549) (d := d + 209) (As := [.int (xs (Int32.toNatClampNeg (v4 + 1))), .int (xs (Int32.toNatClampNeg (v4 + 2)))]) (st := []) cv_X11_like rfl w_1218 rfl (Nat.le_of_ble_eq_true rfl) (ok_X11_like N (d + 205) (xs (Int32.toNatClampNeg (v4 + 1))) (xs (Int32.toNatClampNeg (v4 + 2))) I L) dL_law_1549 (fun x184 I185 L186 => ?_)
        refine ev_aload_n (pc := 1552) 2 dL_law_1552 rfl ?_
        refine ev_aload_n (pc := 1553) 0 dL_law_1553 rfl ?_
        refine ev_iload (pc := 1554) 4 dL_law_1554 rfl ?_
        refine ev_iconst (pc := 1556) 1 k_iconst_1 dL_law_1556 ?_
        refine ev_iadd (pc := 1557) dL_law_1557 ?_
        refine ev_sld (pc := 1558) dL_law_1558 ?_
        refine ev_aload_n (pc := 1559) 0 dL_law_1559 rfl ?_
        refine ev_iload (pc := 1560) 4 dL_law_1560 rfl ?_
        refine ev_iconst (pc := 1562) 2 k_iconst_2 dL_law_1562 ?_
        refine ev_iadd (pc := 1563) dL_law_1563 ?_
        refine ev_sld (pc := 1564) dL_law_1564 ?_
        refine ev_callVI (pc := 1565) (d := d + 209) (As := [.int (xs (Int32.toNatClampNeg (v4 + 1))), .int (xs (Int32.toNatClampNeg (v4 + 2)))]) (st := [.int x184]) cv_X12_like rfl w_1222 rfl (Nat.le_of_ble_eq_true rfl) (ok_X12_like N (d + 207) (xs (Int32.toNatClampNeg (v4 + 1))) (xs (Int32.toNatClampNeg (v4 + 2))) I185 L186) dL_law_1565 (fun x187 I188 L189 => ?_)
        refine ev_icmp_eq (pc := 1568) 1857 (by decide) dL_law_1568 ?_ ?_
        · refine ev_iinc (pc := 1857) (lv' := [(4, .int (v4 + 7)), (0, .ref 2000), (1, .ref 11), (2, .ref 12), (3, .ref 63)]) dL_law_1857 4 rfl rfl 7 k_iconst_7 rfl ?_
          refine ev_goto (pc := 1860) 23 (by decide) dL_law_1860 ?_
          refine EvW.sub [1, 2, 3, 4, 0] rfl ?_
          exact hr_23 (v4 + 7) I188 L189
        · refine ev_iconst (pc := 1571) 0 k_iconst_0 dL_law_1571 ?_
          exact ev_lawret (pc := 1572) hk1 dL_law_1572
      · refine EvG.wide (κ' := (κ.1 + 4, κ.2 + 40)) (Nat.le_add_right _ _) (Nat.le_add_right _ _) hκ ?_
        refine ev_aload_n (pc := 1573) 1 dL_law_1573 rfl ?_
        refine ev_aload_n (pc := 1574) 0 dL_law_1574 rfl ?_
        refine ev_iload (pc := 1575) 4 dL_law_1575 rfl ?_
        refine ev_iconst (pc := 1577) 1 k_iconst_1 dL_law_1577 ?_
        refine ev_iadd (pc := 1578) dL_law_1578 ?_
        refine ev_sld (pc := 1579) dL_law_1579 ?_
        refine ev_aload_n (pc := 1580) 0 dL_law_1580 rfl ?_
        refine ev_iload (pc := 1581) 4 dL_law_1581 rfl ?_
        refine ev_iconst (pc := 1583) 2 k_iconst_2 dL_law_1583 ?_
        refine ev_iadd (pc := 1584) dL_law_1584 ?_
        refine ev_sld (pc := 1585) dL_law_1585 ?_
        refine ev_callVI (pc := 1586) (d := d + 209) (As := [.int (xs (Int32.toNatClampNeg (v4 + 1))), .int (xs (Int32.toNatClampNeg (v4 + 2)))]) (st := []) cv_X11_partners rfl w_1226 rfl (Nat.le_of_ble_eq_true rfl) (ok_X11_partners N (d + 201) (xs (Int32.toNatClampNeg (v4 + 1))) (xs (Int32.toNatClampNeg (v4 + 2))) I L) dL_law_1586 (fun x190 I191 L192 => ?_)
        refine ev_aload_n (pc := 1589) 2 dL_law_1589 rfl ?_
        refine ev_aload_n (pc := 1590) 0 dL_law_1590 rfl ?_
        refine ev_iload (pc := 1591) 4 dL_law_1591 rfl ?_
        refine ev_iconst (pc := 1593) 1 k_iconst_1 dL_law_1593 ?_
        refine ev_iadd (pc := 1594) dL_law_1594 ?_
        refine ev_sld (pc := 1595) dL_law_1595 ?_
        refine ev_aload_n (pc := 1596) 0 dL_law_1596 rfl ?_
        refine ev_iload (pc := 1597) 4 dL_law_1597 rfl ?_
        refine ev_iconst (pc := 1599) 2 k_iconst_2 dL_law_1599 ?_
        refine ev_iadd (pc := 1600) dL_law_1600 ?_
        refine ev_sld (pc := 1601) dL_law_1601 ?_
        refine ev_callVI (pc := 1602) (d := d + 209) (As := [.int (xs (Int32.toNatClampNeg (v4 + 1))), .int (xs (Int32.toNatClampNeg (v4 + 2)))]) (st := [.int x190]) cv_X12_partners rfl w_1230 rfl (Nat.le_of_ble_eq_true rfl) (ok_X12_partners N (d + 202) (xs (Int32.toNatClampNeg (v4 + 1))) (xs (Int32.toNatClampNeg (v4 + 2))) I191 L192) dL_law_1602 (fun x193 I194 L195 => ?_)
        refine ev_icmp_eq (pc := 1605) 1857 (by decide) dL_law_1605 ?_ ?_
        · refine ev_iinc (pc := 1857) (lv' := [(4, .int (v4 + 7)), (0, .ref 2000), (1, .ref 11), (2, .ref 12), (3, .ref 63)]) dL_law_1857 4 rfl rfl 7 k_iconst_7 rfl ?_
          refine ev_goto (pc := 1860) 23 (by decide) dL_law_1860 ?_
          refine EvW.sub [1, 2, 3, 4, 0] rfl ?_
          exact hr_23 (v4 + 7) I194 L195
        · refine ev_iconst (pc := 1608) 0 k_iconst_0 dL_law_1608 ?_
          exact ev_lawret (pc := 1609) hk1 dL_law_1609
      · refine EvG.wide (κ' := (κ.1 + 4, κ.2 + 40)) (Nat.le_add_right _ _) (Nat.le_add_right _ _) hκ ?_
        refine ev_aload_n (pc := 1610) 1 dL_law_1610 rfl ?_
        refine ev_aload_n (pc := 1611) 0 dL_law_1611 rfl ?_
        refine ev_iload (pc := 1612) 4 dL_law_1612 rfl ?_
        refine ev_iconst (pc := 1614) 1 k_iconst_1 dL_law_1614 ?_
        refine ev_iadd (pc := 1615) dL_law_1615 ?_
        refine ev_sld (pc := 1616) dL_law_1616 ?_
        refine ev_aload_n (pc := 1617) 0 dL_law_1617 rfl ?_
        refine ev_iload (pc := 1618) 4 dL_law_1618 rfl ?_
        refine ev_iconst (pc := 1620) 2 k_iconst_2 dL_law_1620 ?_
        refine ev_iadd (pc := 1621) dL_law_1621 ?_
        refine ev_sld (pc := 1622) dL_law_1622 ?_
        refine ev_callVI (pc := 1623) (d := d + 209) (As := [.int (xs (Int32.toNatClampNeg (v4 + 1))), .int (xs (Int32.toNatClampNeg (v4 + 2)))]) (st := []) cv_X11_cancel rfl w_1234 rfl (Nat.le_of_ble_eq_true rfl) (ok_X11_cancel N (d + 208) (xs (Int32.toNatClampNeg (v4 + 1))) (xs (Int32.toNatClampNeg (v4 + 2))) I L) dL_law_1623 (fun x196 I197 L198 => ?_)
        refine ev_aload_n (pc := 1626) 2 dL_law_1626 rfl ?_
        refine ev_aload_n (pc := 1627) 0 dL_law_1627 rfl ?_
        refine ev_iload (pc := 1628) 4 dL_law_1628 rfl ?_
        refine ev_iconst (pc := 1630) 1 k_iconst_1 dL_law_1630 ?_
        refine ev_iadd (pc := 1631) dL_law_1631 ?_
        refine ev_sld (pc := 1632) dL_law_1632 ?_
        refine ev_aload_n (pc := 1633) 0 dL_law_1633 rfl ?_
        refine ev_iload (pc := 1634) 4 dL_law_1634 rfl ?_
        refine ev_iconst (pc := 1636) 2 k_iconst_2 dL_law_1636 ?_
        refine ev_iadd (pc := 1637) dL_law_1637 ?_
        refine ev_sld (pc := 1638) dL_law_1638 ?_
        refine ev_callVI (pc := 1639) (d := d + 209) (As := [.int (xs (Int32.toNatClampNeg (v4 + 1))), .int (xs (Int32.toNatClampNeg (v4 + 2)))]) (st := [.int x196]) cv_X12_cancel rfl w_1238 rfl (Nat.le_of_ble_eq_true rfl) (ok_X12_cancel N (d + 208) (xs (Int32.toNatClampNeg (v4 + 1))) (xs (Int32.toNatClampNeg (v4 + 2))) I197 L198) dL_law_1639 (fun x199 I200 L201 => ?_)
        refine ev_icmp_eq (pc := 1642) 1857 (by decide) dL_law_1642 ?_ ?_
        · refine ev_iinc (pc := 1857) (lv' := [(4, .int (v4 + 7)), (0, .ref 2000), (1, .ref 11), (2, .ref 12), (3, .ref 63)]) dL_law_1857 4 rfl rfl 7 k_iconst_7 rfl ?_
          refine ev_goto (pc := 1860) 23 (by decide) dL_law_1860 ?_
          refine EvW.sub [1, 2, 3, 4, 0] rfl ?_
          exact hr_23 (v4 + 7) I200 L201
        · refine ev_iconst (pc := 1645) 0 k_iconst_0 dL_law_1645 ?_
          exact ev_lawret (pc := 1646) hk1 dL_law_1646
      · refine EvG.wide (κ' := (κ.1 + 4, κ.2 + 40)) (Nat.le_add_right _ _) (Nat.le_add_right _ _) hκ ?_
        refine ev_aload_n (pc := 1647) 1 dL_law_1647 rfl ?_
        refine ev_aload_n (pc := 1648) 0 dL_law_1648 rfl ?_
        refine ev_iload (pc := 1649) 4 dL_law_1649 rfl ?_
        refine ev_iconst (pc := 1651) 1 k_iconst_1 dL_law_1651 ?_
        refine ev_iadd (pc := 1652) dL_law_1652 ?_
        refine ev_sld (pc := 1653) dL_law_1653 ?_
        refine ev_aload_n (pc := 1654) 0 dL_law_1654 rfl ?_
        refine ev_iload (pc := 1655) 4 dL_law_1655 rfl ?_
        refine ev_iconst (pc := 1657) 2 k_iconst_2 dL_law_1657 ?_
        refine ev_iadd (pc := 1658) dL_law_1658 ?_
        refine ev_sld (pc := 1659) dL_law_1659 ?_
        refine ev_aload_n (pc := 1660) 0 dL_law_1660 rfl ?_
        refine ev_iload (pc := 1661) 4 dL_law_1661 rfl ?_
        refine ev_iconst (pc := 1663) 3 k_iconst_3 dL_law_1663 ?_
        refine ev_iadd (pc := 1664) dL_law_1664 ?_
        refine ev_sld (pc := 1665) dL_law_1665 ?_
        refine ev_aload_n (pc := 1666) 0 dL_law_1666 rfl ?_
        refine ev_iload (pc := 1667) 4 dL_law_1667 rfl ?_
        refine ev_iconst (pc := 1669) 4 k_iconst_4 dL_law_1669 ?_
        refine ev_iadd (pc := 1670) dL_law_1670 ?_
        refine ev_sld (pc := 1671) dL_law_1671 ?_
        refine ev_aload_n (pc := 1672) 0 dL_law_1672 rfl ?_
        refine ev_iload (pc := 1673) 4 dL_law_1673 rfl ?_
        refine ev_iconst (pc := 1675) 5 k_iconst_5 dL_law_1675 ?_
        refine ev_iadd (pc := 1676) dL_law_1676 ?_
        refine ev_sld (pc := 1677) dL_law_1677 ?_
        refine ev_callVI (pc := 1678) (d := d + 209) (As := [.int (xs (Int32.toNatClampNeg (v4 + 1))), .int (xs (Int32.toNatClampNeg (v4 + 2))), .int (xs (Int32.toNatClampNeg (v4 + 3))), .int (xs (Int32.toNatClampNeg (v4 + 4))), .int (xs (Int32.toNatClampNeg (v4 + 5)))]) (st := []) cv_X11_stagger rfl w_1242 rfl (Nat.le_of_ble_eq_true rfl) (ok_X11_stagger N (d + 205) (xs (Int32.toNatClampNeg (v4 + 1))) (xs (Int32.toNatClampNeg (v4 + 2))) (xs (Int32.toNatClampNeg (v4 + 3))) (xs (Int32.toNatClampNeg (v4 + 4))) (xs (Int32.toNatClampNeg (v4 + 5))) I L) dL_law_1678 (fun x202 I203 L204 => ?_)
        refine ev_aload_n (pc := 1681) 2 dL_law_1681 rfl ?_
        refine ev_aload_n (pc := 1682) 0 dL_law_1682 rfl ?_
        refine ev_iload (pc := 1683) 4 dL_law_1683 rfl ?_
        refine ev_iconst (pc := 1685) 1 k_iconst_1 dL_law_1685 ?_
        refine ev_iadd (pc := 1686) dL_law_1686 ?_
        refine ev_sld (pc := 1687) dL_law_1687 ?_
        refine ev_aload_n (pc := 1688) 0 dL_law_1688 rfl ?_
        refine ev_iload (pc := 1689) 4 dL_law_1689 rfl ?_
        refine ev_iconst (pc := 1691) 2 k_iconst_2 dL_law_1691 ?_
        refine ev_iadd (pc := 1692) dL_law_1692 ?_
        refine ev_sld (pc := 1693) dL_law_1693 ?_
        refine ev_aload_n (pc := 1694) 0 dL_law_1694 rfl ?_
        refine ev_iload (pc := 1695) 4 dL_law_1695 rfl ?_
        refine ev_iconst (pc := 1697) 3 k_iconst_3 dL_law_1697 ?_
        refine ev_iadd (pc := 1698) dL_law_1698 ?_
        refine ev_sld (pc := 1699) dL_law_1699 ?_
        refine ev_aload_n (pc := 1700) 0 dL_law_1700 rfl ?_
        refine ev_iload (pc := 1701) 4 dL_law_1701 rfl ?_
        refine ev_iconst (pc := 1703) 4 k_iconst_4 dL_law_1703 ?_
        refine ev_iadd (pc := 1704) dL_law_1704 ?_
        refine ev_sld (pc := 1705) dL_law_1705 ?_
        refine ev_aload_n (pc := 1706) 0 dL_law_1706 rfl ?_
        refine ev_iload (pc := 1707) 4 dL_law_1707 rfl ?_
        refine ev_iconst (pc := 1709) 5 k_iconst_5 dL_law_1709 ?_
        refine ev_iadd (pc := 1710) dL_law_1710 ?_
        refine ev_sld (pc := 1711) dL_law_1711 ?_
        refine ev_callVI (pc := 1712) (d := d + 209) (As := [.int (xs (Int32.toNatClampNeg (v4 + 1))), .int (xs (Int32.toNatClampNeg (v4 + 2))), .int (xs (Int32.toNatClampNeg (v4 + 3))), .int (xs (Int32.toNatClampNeg (v4 + 4))), .int (xs (Int32.toNatClampNeg (v4 + 5)))]) (st := [.int x202]) cv_X12_stagger rfl w_1246 rfl (Nat.le_of_ble_eq_true rfl) (ok_X12_stagger N (d + 208) (xs (Int32.toNatClampNeg (v4 + 1))) (xs (Int32.toNatClampNeg (v4 + 2))) (xs (Int32.toNatClampNeg (v4 + 3))) (xs (Int32.toNatClampNeg (v4 + 4))) (xs (Int32.toNatClampNeg (v4 + 5))) I203 L204) dL_law_1712 (fun x205 I206 L207 => ?_)
        refine ev_icmp_eq (pc := 1715) 1857 (by decide) dL_law_1715 ?_ ?_
        · refine ev_iinc (pc := 1857) (lv' := [(4, .int (v4 + 7)), (0, .ref 2000), (1, .ref 11), (2, .ref 12), (3, .ref 63)]) dL_law_1857 4 rfl rfl 7 k_iconst_7 rfl ?_
          refine ev_goto (pc := 1860) 23 (by decide) dL_law_1860 ?_
          refine EvW.sub [1, 2, 3, 4, 0] rfl ?_
          exact hr_23 (v4 + 7) I206 L207
        · refine ev_iconst (pc := 1718) 0 k_iconst_0 dL_law_1718 ?_
          exact ev_lawret (pc := 1719) hk1 dL_law_1719
      · refine EvG.wide (κ' := (κ.1 + 4, κ.2 + 40)) (Nat.le_add_right _ _) (Nat.le_add_right _ _) hκ ?_
        refine ev_aload_n (pc := 1720) 1 dL_law_1720 rfl ?_
        refine ev_aload_n (pc := 1721) 0 dL_law_1721 rfl ?_
        refine ev_iload (pc := 1722) 4 dL_law_1722 rfl ?_
        refine ev_iconst (pc := 1724) 1 k_iconst_1 dL_law_1724 ?_
        refine ev_iadd (pc := 1725) dL_law_1725 ?_
        refine ev_sld (pc := 1726) dL_law_1726 ?_
        refine ev_aload_n (pc := 1727) 0 dL_law_1727 rfl ?_
        refine ev_iload (pc := 1728) 4 dL_law_1728 rfl ?_
        refine ev_iconst (pc := 1730) 2 k_iconst_2 dL_law_1730 ?_
        refine ev_iadd (pc := 1731) dL_law_1731 ?_
        refine ev_sld (pc := 1732) dL_law_1732 ?_
        refine ev_aload_n (pc := 1733) 0 dL_law_1733 rfl ?_
        refine ev_iload (pc := 1734) 4 dL_law_1734 rfl ?_
        refine ev_iconst (pc := 1736) 3 k_iconst_3 dL_law_1736 ?_
        refine ev_iadd (pc := 1737) dL_law_1737 ?_
        refine ev_sld (pc := 1738) dL_law_1738 ?_
        refine ev_aload_n (pc := 1739) 0 dL_law_1739 rfl ?_
        refine ev_iload (pc := 1740) 4 dL_law_1740 rfl ?_
        refine ev_iconst (pc := 1742) 4 k_iconst_4 dL_law_1742 ?_
        refine ev_iadd (pc := 1743) dL_law_1743 ?_
        refine ev_sld (pc := 1744) dL_law_1744 ?_
        refine ev_callVI (pc := 1745) (d := d + 209) (As := [.int (xs (Int32.toNatClampNeg (v4 + 1))), .int (xs (Int32.toNatClampNeg (v4 + 2))), .int (xs (Int32.toNatClampNeg (v4 + 3))), .int (xs (Int32.toNatClampNeg (v4 + 4)))]) (st := []) cv_X11_factor rfl w_1250 rfl (Nat.le_of_ble_eq_true rfl) (ok_X11_factor N (d + 205) (xs (Int32.toNatClampNeg (v4 + 1))) (xs (Int32.toNatClampNeg (v4 + 2))) (xs (Int32.toNatClampNeg (v4 + 3))) (xs (Int32.toNatClampNeg (v4 + 4))) I L) dL_law_1745 (fun x208 I209 L210 => ?_)
        refine ev_aload_n (pc := 1748) 2 dL_law_1748 rfl ?_
        refine ev_aload_n (pc := 1749) 0 dL_law_1749 rfl ?_
        refine ev_iload (pc := 1750) 4 dL_law_1750 rfl ?_
        refine ev_iconst (pc := 1752) 1 k_iconst_1 dL_law_1752 ?_
        refine ev_iadd (pc := 1753) dL_law_1753 ?_
        refine ev_sld (pc := 1754) dL_law_1754 ?_
        refine ev_aload_n (pc := 1755) 0 dL_law_1755 rfl ?_
        refine ev_iload (pc := 1756) 4 dL_law_1756 rfl ?_
        refine ev_iconst (pc := 1758) 2 k_iconst_2 dL_law_1758 ?_
        refine ev_iadd (pc := 1759) dL_law_1759 ?_
        refine ev_sld (pc := 1760) dL_law_1760 ?_
        refine ev_aload_n (pc := 1761) 0 dL_law_1761 rfl ?_
        refine ev_iload (pc := 1762) 4 dL_law_1762 rfl ?_
        refine ev_iconst (pc := 1764) 3 k_iconst_3 dL_law_1764 ?_
        refine ev_iadd (pc := 1765) dL_law_1765 ?_
        refine ev_sld (pc := 1766) dL_law_1766 ?_
        refine ev_aload_n (pc := 1767) 0 dL_law_1767 rfl ?_
        refine ev_iload (pc := 1768) 4 dL_law_1768 rfl ?_
        refine ev_iconst (pc := 1770) 4 k_iconst_4 dL_law_1770 ?_
        refine ev_iadd (pc := 1771) dL_law_1771 ?_
        refine ev_sld (pc := 1772) dL_law_1772 ?_
        refine ev_callVI (pc := 1773) (d := d + 209) (As := [.int (xs (Int32.toNatClampNeg (v4 + 1))), .int (xs (Int32.toNatClampNeg (v4 + 2))), .int (xs (Int32.toNatClampNeg (v4 + 3))), .int (xs (Int32.toNatClampNeg (v4 + 4)))]) (st := [.int x208]) cv_X12_factor rfl w_1254 rfl (Nat.le_of_ble_eq_true rfl) (ok_X12_factor N (d + 206) (xs (Int32.toNatClampNeg (v4 + 1))) (xs (Int32.toNatClampNeg (v4 + 2))) (xs (Int32.toNatClampNeg (v4 + 3))) (xs (Int32.toNatClampNeg (v4 + 4))) I209 L210) dL_law_1773 (fun x211 I212 L213 => ?_)
        refine ev_icmp_eq (pc := 1776) 1857 (by decide) dL_law_1776 ?_ ?_
        · refine ev_iinc (pc := 1857) (lv' := [(4, .int (v4 + 7)), (0, .ref 2000), (1, .ref 11), (2, .ref 12), (3, .ref 63)]) dL_law_1857 4 rfl rfl 7 k_iconst_7 rfl ?_
          refine ev_goto (pc := 1860) 23 (by decide) dL_law_1860 ?_
          refine EvW.sub [1, 2, 3, 4, 0] rfl ?_
          exact hr_23 (v4 + 7) I212 L213
        · refine ev_iconst (pc := 1779) 0 k_iconst_0 dL_law_1779 ?_
          exact ev_lawret (pc := 1780) hk1 dL_law_1780
      · refine EvG.wide (κ' := (κ.1 + 4, κ.2 + 40)) (Nat.le_add_right _ _) (Nat.le_add_right _ _) hκ ?_
        refine ev_aload_n (pc := 1781) 1 dL_law_1781 rfl ?_
        refine ev_aload_n (pc := 1782) 0 dL_law_1782 rfl ?_
        refine ev_iload (pc := 1783) 4 dL_law_1783 rfl ?_
        refine ev_iconst (pc := 1785) 1 k_iconst_1 dL_law_1785 ?_
        refine ev_iadd (pc := 1786) dL_law_1786 ?_
        refine ev_sld (pc := 1787) dL_law_1787 ?_
        refine ev_callVI (pc := 1788) (d := d + 209) (As := [.int (xs (Int32.toNatClampNeg (v4 + 1)))]) (st := []) cv_X11_heaps rfl w_1258 rfl (Nat.le_of_ble_eq_true rfl) (ok_X11_heaps N (d + 203) (xs (Int32.toNatClampNeg (v4 + 1))) I L) dL_law_1788 (fun x214 I215 L216 => ?_)
        refine ev_aload_n (pc := 1791) 2 dL_law_1791 rfl ?_
        refine ev_aload_n (pc := 1792) 0 dL_law_1792 rfl ?_
        refine ev_iload (pc := 1793) 4 dL_law_1793 rfl ?_
        refine ev_iconst (pc := 1795) 1 k_iconst_1 dL_law_1795 ?_
        refine ev_iadd (pc := 1796) dL_law_1796 ?_
        refine ev_sld (pc := 1797) dL_law_1797 ?_
        refine ev_callVI (pc := 1798) (d := d + 209) (As := [.int (xs (Int32.toNatClampNeg (v4 + 1)))]) (st := [.int x214]) cv_X12_heaps rfl w_1262 rfl (Nat.le_of_ble_eq_true rfl) (ok_X12_heaps N (d + 206) (xs (Int32.toNatClampNeg (v4 + 1))) I215 L216) dL_law_1798 (fun x217 I218 L219 => ?_)
        refine ev_icmp_eq (pc := 1801) 1857 (by decide) dL_law_1801 ?_ ?_
        · refine ev_iinc (pc := 1857) (lv' := [(4, .int (v4 + 7)), (0, .ref 2000), (1, .ref 11), (2, .ref 12), (3, .ref 63)]) dL_law_1857 4 rfl rfl 7 k_iconst_7 rfl ?_
          refine ev_goto (pc := 1860) 23 (by decide) dL_law_1860 ?_
          refine EvW.sub [1, 2, 3, 4, 0] rfl ?_
          exact hr_23 (v4 + 7) I218 L219
        · refine ev_iconst (pc := 1804) 0 k_iconst_0 dL_law_1804 ?_
          exact ev_lawret (pc := 1805) hk1 dL_law_1805
      · refine EvG.wide (κ' := (κ.1 + 4, κ.2 + 40)) (Nat.le_add_right _ _) (Nat.le_add_right _ _) hκ ?_
        refine ev_aload_n (pc := 1806) 1 dL_law_1806 rfl ?_
        refine ev_callVI (pc := 1807) (d := d + 209) (As := []) (st := []) cv_X11_image rfl w_1266 rfl (Nat.le_of_ble_eq_true rfl) (ok_X11_image N (d + 206) I L) dL_law_1807 (fun x220 I221 L222 => ?_)
        refine ev_aload_n (pc := 1810) 2 dL_law_1810 rfl ?_
        refine ev_callVI (pc := 1811) (d := d + 209) (As := []) (st := [.int x220]) cv_X12_image rfl w_1270 rfl (Nat.le_of_ble_eq_true rfl) (ok_X12_image N (d + 208) I221 L222) dL_law_1811 (fun x223 I224 L225 => ?_)
        refine ev_icmp_eq (pc := 1814) 1857 (by decide) dL_law_1814 ?_ ?_
        · refine ev_iinc (pc := 1857) (lv' := [(4, .int (v4 + 7)), (0, .ref 2000), (1, .ref 11), (2, .ref 12), (3, .ref 63)]) dL_law_1857 4 rfl rfl 7 k_iconst_7 rfl ?_
          refine ev_goto (pc := 1860) 23 (by decide) dL_law_1860 ?_
          refine EvW.sub [1, 2, 3, 4, 0] rfl ?_
          exact hr_23 (v4 + 7) I224 L225
        · refine ev_iconst (pc := 1817) 0 k_iconst_0 dL_law_1817 ?_
          exact ev_lawret (pc := 1818) hk1 dL_law_1818
      · refine EvG.wide (κ' := (κ.1 + 4, κ.2 + 40)) (Nat.le_add_right _ _) (Nat.le_add_right _ _) hκ ?_
        refine ev_aload_n (pc := 1819) 1 dL_law_1819 rfl ?_
        refine ev_callVI (pc := 1820) (d := d + 209) (As := []) (st := []) cv_X11_back rfl w_1274 rfl (Nat.le_of_ble_eq_true rfl) (ok_X11_back N (d + 205) I L) dL_law_1820 (fun x226 I227 L228 => ?_)
        refine ev_aload_n (pc := 1823) 2 dL_law_1823 rfl ?_
        refine ev_callVI (pc := 1824) (d := d + 209) (As := []) (st := [.int x226]) cv_X12_back rfl w_1278 rfl (Nat.le_of_ble_eq_true rfl) (ok_X12_back N (d + 206) I227 L228) dL_law_1824 (fun x229 I230 L231 => ?_)
        refine ev_icmp_eq (pc := 1827) 1857 (by decide) dL_law_1827 ?_ ?_
        · refine ev_iinc (pc := 1857) (lv' := [(4, .int (v4 + 7)), (0, .ref 2000), (1, .ref 11), (2, .ref 12), (3, .ref 63)]) dL_law_1857 4 rfl rfl 7 k_iconst_7 rfl ?_
          refine ev_goto (pc := 1860) 23 (by decide) dL_law_1860 ?_
          refine EvW.sub [1, 2, 3, 4, 0] rfl ?_
          exact hr_23 (v4 + 7) I230 L231
        · refine ev_iconst (pc := 1830) 0 k_iconst_0 dL_law_1830 ?_
          exact ev_lawret (pc := 1831) hk1 dL_law_1831
      · refine EvG.wide (κ' := (κ.1 + 4, κ.2 + 40)) (Nat.le_add_right _ _) (Nat.le_add_right _ _) hκ ?_
        refine ev_aload_n (pc := 1832) 1 dL_law_1832 rfl ?_
        refine ev_aload_n (pc := 1833) 0 dL_law_1833 rfl ?_
        refine ev_iload (pc := 1834) 4 dL_law_1834 rfl ?_
        refine ev_iconst (pc := 1836) 1 k_iconst_1 dL_law_1836 ?_
        refine ev_iadd (pc := 1837) dL_law_1837 ?_
        refine ev_sld (pc := 1838) dL_law_1838 ?_
        refine ev_callVI (pc := 1839) (d := d + 209) (As := [.int (xs (Int32.toNatClampNeg (v4 + 1)))]) (st := []) cv_X11_count rfl w_1282 rfl (Nat.le_of_ble_eq_true rfl) (ok_X11_count N (d + 208) (xs (Int32.toNatClampNeg (v4 + 1))) I L) dL_law_1839 (fun x232 I233 L234 => ?_)
        refine ev_aload_n (pc := 1842) 2 dL_law_1842 rfl ?_
        refine ev_aload_n (pc := 1843) 0 dL_law_1843 rfl ?_
        refine ev_iload (pc := 1844) 4 dL_law_1844 rfl ?_
        refine ev_iconst (pc := 1846) 1 k_iconst_1 dL_law_1846 ?_
        refine ev_iadd (pc := 1847) dL_law_1847 ?_
        refine ev_sld (pc := 1848) dL_law_1848 ?_
        refine ev_callVI (pc := 1849) (d := d + 209) (As := [.int (xs (Int32.toNatClampNeg (v4 + 1)))]) (st := [.int x232]) cv_X12_count rfl w_1286 rfl (Nat.le_of_ble_eq_true rfl) (ok_X12_count N (d + 209) (xs (Int32.toNatClampNeg (v4 + 1))) I233 L234) dL_law_1849 (fun x235 I236 L237 => ?_)
        refine ev_icmp_eq (pc := 1852) 1857 (by decide) dL_law_1852 ?_ ?_
        · refine ev_iinc (pc := 1857) (lv' := [(4, .int (v4 + 7)), (0, .ref 2000), (1, .ref 11), (2, .ref 12), (3, .ref 63)]) dL_law_1857 4 rfl rfl 7 k_iconst_7 rfl ?_
          refine ev_goto (pc := 1860) 23 (by decide) dL_law_1860 ?_
          refine EvW.sub [1, 2, 3, 4, 0] rfl ?_
          exact hr_23 (v4 + 7) I236 L237
        · refine ev_iconst (pc := 1855) 0 k_iconst_0 dL_law_1855 ?_
          exact ev_lawret (pc := 1856) hk1 dL_law_1856
      · refine EvG.wide (κ' := (κ.1 + 4, κ.2 + 40)) (Nat.le_add_right _ _) (Nat.le_add_right _ _) hκ ?_
        refine ev_iinc (pc := 1857) (lv' := [(4, .int (v4 + 7)), (0, .ref 2000), (1, .ref 11), (2, .ref 12), (3, .ref 63)]) dL_law_1857 4 rfl rfl 7 k_iconst_7 rfl ?_
        refine ev_goto (pc := 1860) 23 (by decide) dL_law_1860 ?_
        refine EvW.sub [1, 2, 3, 4, 0] rfl ?_
        exact hr_23 (v4 + 7) I L
