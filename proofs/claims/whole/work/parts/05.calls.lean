def CalV (ν : MI) (n ci : Nat) : Prop := Cond.instanceMethod ν.1 ∈ WL ∧ Cond.selects ν.1.cls ν.1 ν.1 ∈ WL ∧ Cond.initialized ν.1.cls ∈ WL ∧ Cond.code ν.1 ν.2.1 ν.2.2.1 ν.2.2.2 ∈ WL ∧ (ν.1.cls ≠ "java/lang/invoke/MethodHandle" ∧ ν.1.cls ≠ "java/lang/invoke/VarHandle" ∧ (parseMethodDescriptor ν.1.desc).map (fun d => d.parameters.length) = some n) ∧ ν.2.2.1 ≤ 41 ∧ (∃ (T : u_T) (N : Nat), vwCl[ci]? = some (ν.1.cls, T, N)) ∧ ∃ (z : Nat) (fs : List Nat), K0[ci]? = some (ci + 2, z, fs)
def CalS (ν : MI) (n : Nat) : Prop := Cond.static ν.1 ∈ WL ∧ Cond.initialized ν.1.cls ∈ WL ∧ Cond.code ν.1 ν.2.1 ν.2.2.1 ν.2.2.2 ∈ WL ∧ (ν.1.cls ≠ "java/lang/invoke/MethodHandle" ∧ ν.1.cls ≠ "java/lang/invoke/VarHandle" ∧ (parseMethodDescriptor ν.1.desc).map (fun d => d.parameters.length) = some n) ∧ ν.2.2.1 ≤ 41
theorem good_tw {ν : MI} (h : Cond.code ν.1 ν.2.1 ν.2.2.1 ν.2.2.2 ∈ WL) : GoodIn WL (Tw ν) := by
  intro w hw
  rcases List.mem_cons.mp hw with rfl | hw
  · exact good_law _ h
  · exact good_law _ hw
theorem blind9 {D : va_G} {cI cL : ClassId} {ad : Nat → Nat} {A1 : Nat → Prop} {I : PI} {L : PL} {sz : Nat} {av : List Value} : FrameBlind (va_Pc av (fun U => U.heap.size = sz ∧ va_P D vwCl (WS cI cL ad I L) U.heap ∧ va_K D vwCl (TYS cI cL) U ∧ va_D (fun _ => True) (WS cI cL ad I L) ∧ NW U ∧ ZT ad A1 U U.heap)) := by
  intro a U g mk q
  obtain ⟨q0, q1, qP, qK, qD, qN, qZ⟩ := q
  exact ⟨q0, q1, qP, va_K.moved (u := U) (U := U.calling g mk a) (Vm.Alike.refl U.vm) qK, qD, NW.same rfl qN, ZT.moved (Vm.Alike.refl U.vm) qZ⟩
theorem free9 {D : va_G} {cI cL : ClassId} {ad : Nat → Nat} {A : Nat → Prop} {I : PI} {L : PL} {s : State} {H : Heap} {locs : List Loc} (Wd : Wld D cI cL ad A I L s H locs) : ∀ q, va_A (WS cI cL ad I L) H.size q → A q := by
  obtain ⟨wK, wP, wD, wS, wA, wN, wZ⟩ := Wd
  intro q hq
  rcases hq with ⟨k, e', h⟩ | h
  · exact wD.2 k _ h
  · exact wA q (Nat.le_trans wS.1 h)
theorem pre9 {D : va_G} {cI cL : ClassId} {ad : Nat → Nat} {A : Nat → Prop} {I : PI} {L : PL} {s : State} {H : Heap} {locs : List Loc} (av : List Value) (Wd : Wld D cI cL ad A I L s H locs) : ∀ U : State, U.heap = H → s.WarmedH U.vm → va_Pc av (fun U => U.heap.size = H.size ∧ va_P D vwCl (WS cI cL ad I L) U.heap ∧ va_K D vwCl (TYS cI cL) U ∧ va_D (fun _ => True) (WS cI cL ad I L) ∧ NW U ∧ ZT ad (va_A (WS cI cL ad I L) H.size) U U.heap) av.toArray U := by
  intro U hU hW
  have hF := free9 Wd
  obtain ⟨wK, wP, wD, wS, wA, wN, wZ⟩ := Wd
  exact ⟨rfl, by rw [hU], by rw [hU]; exact wP, va_K.moved hW.alike wK, wD.weaken (fun _ _ _ _ => trivial), NW.warm hW wN, by rw [hU]; exact ZT.moved hW.alike ((wZ.kept (fun a ha hna => wS.2.1 a ha hna)).narrow hF)⟩
section EVC
variable {p : Program} {l : Launch} {e : Env} {R : Room} {s : State} {m : MethodId} {args : Array Value} {below : List Frame} {meth : Method} {c : Code} {H : Heap} {locs : List Loc} {Q : State → Prop} {D : va_G} {cI cL : ClassId} {ad : Nat → Nat} {A : Nat → Prop} {ls : Array Slot}
variable {κ : Nat × Nat} {Z : ZTy} {Y : YTy} {μ ν : MI} {d pc n ci ix : Nat} {lv : List (Nat × Value)} {st stk As : List Value} {I I1 : PI} {L L1 : PL} {oc : RES} {v1 : Option Value}
theorem ev_after {av : Array Value} {stk rest : List Value} (Wd : Wld D cI cL ad A I L s H locs) (hr : va_Run p l e R s m args below meth c H locs κ.1 κ.2 0 0 (F0 m pc ls stk) rest (QR v1 I1 L1 D cI cL ad (va_A (WS cI cL ad I L) H.size) av) (va_A (WS cI cL ad I L) H.size))
    (kk : ∀ (H1 : Heap) (locs1 : List Loc), Wld D cI cL ad A I1 L1 s H1 locs1 → W p l e R s m args below meth c H1 locs1 κ.1 κ.2 Q (F0 m (pc + 3) ls ((v1.map (trV ad)).toList ++ rest))) : W p l e R s m args below meth c H locs κ.1 κ.2 Q (F0 m pc ls stk) := by
  have hF := free9 Wd
  obtain ⟨wK, wP, wD, wS, wA, wN, wZ⟩ := Wd
  intro T hT X
  obtain ⟨v, st₀, t, T', L9, h0, X', hL, e1, e2, ⟨⟨hv, hP1, hK1, hD1⟩, hz, hk⟩, st⟩ := hr T hT X
  obtain rfl : v = v1.map (trV ad) := Outcome.returned.inj hv
  rw [h0] at hz hk
  obtain ⟨t2, a1, b1⟩ := kk T'.heap (locs ++ L9) ⟨wK, by rw [e1]; exact hP1, hD1.weaken (fun _ q _ h => hF q.1 h), ⟨Nat.le_trans wS.1 (by rw [e1]; exact hz), fun q h1 h2 => by rw [e1, hk q (Nat.lt_of_lt_of_le h1 wS.1) (fun z => h2 (hF q z))]; exact wS.2.1 q h1 h2, fun q hq => by
    rcases List.mem_append.mp hq with h | h
    · exact wS.2.2 q h
    · exact hF _ (hL q h)⟩, wA, wN, wZ⟩ T' rfl X'
  exact ⟨t2, st t2 a1, b1⟩
theorem room9 {d k : Nat} {R : Room} (h1 : d + 1 ≤ R.frames) (h2 : 60 * (d + 1) ≤ R.locals) (hk : k ≤ 41) : (rmD d).frames + 1 ≤ R.frames ∧ 8 + (k + 11) + (rmD d).locals ≤ R.locals := by
  refine ⟨h1, ?_⟩
  show 8 + (k + 11) + 60 * d ≤ R.locals
  omega
theorem ev_runV (cv : CalV ν n ci) (hn : As.length = n) (hl : Cond.methodLink μ.1.cls ix ν.1 ∈ WL) (hst : stk = As.reverse ++ .ref ci :: st) (hcat : (st.map fun v => v.category).sum ≤ 8) (hm : MOk ν d (.ref ci :: As) I L oc) (hd : decode μ.2.1 pc = .ok (.invokevirtual ix, 3)) (hoc : oc = some (v1, I1, L1)) (C : Ctx μ (d + 1) p R s m args meth c) (Wd : Wld D cI cL ad A I L s H locs) (hls : lv_has ls μ.2.2.1 (trL ad lv)) (hR9 : κ.1 ≤ R.cells ∧ κ.2 ≤ R.slots)
    (kk : ∀ (H1 : Heap) (locs1 : List Loc), Wld D cI cL ad A I1 L1 s H1 locs1 → W p l e R s m args below meth c H1 locs1 κ.1 κ.2 Q (F0 m (pc + 3) ls ((v1.map (trV ad)).toList ++ st.map (trV ad)))) : W p l e R s m args below meth c H locs κ.1 κ.2 Q (F0 m pc ls (stk.map (trV ad))) := by
  obtain ⟨c1, c2, c3, c4, c5, c6, ⟨T9, N9, c7⟩, z9, f9, c8⟩ := cv
  have hM := hm v1 I1 L1 hoc l D cI cL ad H.size
  obtain ⟨hx, hb, hml, hr, hts, hown, hlk, hfr, hlo⟩ := C
  have cw : CallW R s args μ.1.cls ν.1.cls ix ν.1 ν.2.1 ν.2.2.1 ν.2.2.2 (Tw ν) (rmD d) 0 0 n := by
    refine cwV n hts ?_ rfl rfl rfl ⟨rfl, c5⟩ (room9 hfr hlo c6)
    intro w hw
    rcases List.mem_append.mp hw with h | h
    · rcases List.mem_cons.mp h with rfl | h
      · exact good_law _ hl
      rcases List.mem_cons.mp h with rfl | h
      · exact good_law _ c1
      rcases List.mem_cons.mp h with rfl | h
      · exact good_law _ c2
      rcases List.mem_cons.mp h with rfl | h
      · exact good_law _ c3
      · cases h
    · exact good_tw c4 w h
  refine ev_after Wd (va_runV (As := As.map (trV ad)) (rest := st.map (trV ad)) ⟨hx, hb, hml, hown, hts⟩ hM cw ⟨blind9, va_recv Wd.1 Wd.2.1 c7 (ws_obj c8), pre9 _ Wd⟩ rfl (by rw [List.length_map]; exact hn) hls.1 ?_ (lv_room (by rw [tr_cats]; exact hcat)) hd hR9) kk
  show stk.map (trV ad) = _
  rw [hst, List.map_append, List.map_reverse]
  rfl
theorem ev_runS (cv : CalS ν n) (hn : As.length = n) (hl : Cond.methodLink μ.1.cls ix ν.1 ∈ WL) (hst : stk = As.reverse ++ st) (hcat : (st.map fun v => v.category).sum ≤ 8) (hm : MOk ν d As I L oc) (hd : decode μ.2.1 pc = .ok (.invokestatic ix, 3)) (hoc : oc = some (v1, I1, L1)) (C : Ctx μ (d + 1) p R s m args meth c) (Wd : Wld D cI cL ad A I L s H locs) (hls : lv_has ls μ.2.2.1 (trL ad lv)) (hR9 : κ.1 ≤ R.cells ∧ κ.2 ≤ R.slots)
    (kk : ∀ (H1 : Heap) (locs1 : List Loc), Wld D cI cL ad A I1 L1 s H1 locs1 → W p l e R s m args below meth c H1 locs1 κ.1 κ.2 Q (F0 m (pc + 3) ls ((v1.map (trV ad)).toList ++ st.map (trV ad)))) : W p l e R s m args below meth c H locs κ.1 κ.2 Q (F0 m pc ls (stk.map (trV ad))) := by
  obtain ⟨c1, c3, c4, c5, c6⟩ := cv
  have hM := hm v1 I1 L1 hoc l D cI cL ad H.size
  obtain ⟨hx, hb, hml, hr, hts, hown, hlk, hfr, hlo⟩ := C
  have cw : CallB R s args μ.1.cls ix ν.1 ν.2.1 ν.2.2.1 ν.2.2.2 (Tw ν) (rmD d) 0 0 n ∧ (Cond.static ν.1).before args s = true :=
    ⟨callB_of n hts (good_tw c4) rfl rfl rfl (hts _ c3) (hts _ hl) c5 (room9 hfr hlo c6), hts _ c1⟩
  refine ev_after Wd (va_runS (As := As.map (trV ad)) (rest := st.map (trV ad)) ⟨hx, hb, hml, hown, hts⟩ hM cw ⟨blind9, pre9 _ Wd⟩ rfl (by rw [List.length_map]; exact hn) hls.1 ?_ (lv_room (by rw [tr_cats]; exact hcat)) hd hR9) kk
  show stk.map (trV ad) = _
  rw [hst, List.map_append, List.map_reverse]
theorem ev_runSN (cv : CalS ν n) (hn : As.length = n) (hl : nestM = Cond.methodLinkNest μ.1.cls ix ν.1 "PulseParts") (hst : stk = As.reverse ++ st) (hcat : (st.map fun v => v.category).sum ≤ 8) (hm : MOk ν d As I L oc) (hd : decode μ.2.1 pc = .ok (.invokestatic ix, 3)) (hoc : oc = some (v1, I1, L1)) (C : Ctx μ (d + 1) p R s m args meth c) (Wd : Wld D cI cL ad A I L s H locs) (hls : lv_has ls μ.2.2.1 (trL ad lv)) (hR9 : κ.1 ≤ R.cells ∧ κ.2 ≤ R.slots)
    (kk : ∀ (H1 : Heap) (locs1 : List Loc), Wld D cI cL ad A I1 L1 s H1 locs1 → W p l e R s m args below meth c H1 locs1 κ.1 κ.2 Q (F0 m (pc + 3) ls ((v1.map (trV ad)).toList ++ st.map (trV ad)))) : W p l e R s m args below meth c H locs κ.1 κ.2 Q (F0 m pc ls (stk.map (trV ad))) := by
  obtain ⟨c1, c3, c4, c5, c6⟩ := cv
  have hM := hm v1 I1 L1 hoc l D cI cL ad H.size
  obtain ⟨hx, hb, hml, hr, hts, hown, hlk, hfr, hlo⟩ := C
  have hnm : va_Nw (.methodLinkNest μ.1.cls ix ν.1 "PulseParts") s := by rw [← hl]; exact Wd.2.2.2.2.2.1.2
  refine ev_after Wd (va_runSN (As := As.map (trV ad)) (rest := st.map (trV ad)) ⟨hx, hb, hml, hown, hts⟩ hM ⟨va_cnB n hts (good_tw c4) rfl rfl rfl hnm (hts _ c3) c5 (room9 hfr hlo c6), hts _ c1, trivial⟩ ⟨blind9, pre9 _ Wd⟩ rfl (by rw [List.length_map]; exact hn) hls.1 ?_ (lv_room (by rw [tr_cats]; exact hcat)) hd hR9) kk
  show stk.map (trV ad) = _
  rw [hst, List.map_append, List.map_reverse]
theorem ev_callVI {K : Int32 → PI → PL → RES} (cv : CalV ν n ci) (hn : As.length = n) (hl : Cond.methodLink μ.1.cls ix ν.1 ∈ WL) (hst : stk = As.reverse ++ .ref ci :: st) (hcat : (st.map fun v => v.category).sum ≤ 8) (hm : MOk ν d (.ref ci :: As) I L oc) (hd : decode μ.2.1 pc = .ok (.invokevirtual ix, 3)) (k : ∀ (x : Int32) (I1 : PI) (L1 : PL), EvG κ Z Y μ (d + 1) (pc + 3) lv (.int x :: st) I1 L1 (K x I1 L1)) : EvG κ Z Y μ (d + 1) pc lv stk I L (bI oc K) := by
  intro v I' L' ho p l e R s m args below meth c H locs D cI cL ad A ls C Wd hl9 hY
  obtain ⟨x, I1, L1, hoc, hK⟩ := bI_some ho
  exact ev_runV cv hn hl hst hcat hm hd hoc C Wd hl9 hY.2 (fun H1 locs1 Wd1 => k x I1 L1 v I' L' hK p l e R s m args below meth c H1 locs1 D cI cL ad A ls C Wd1 hl9 hY)
theorem ev_callVJ {K : Int64 → PI → PL → RES} (cv : CalV ν n ci) (hn : As.length = n) (hl : Cond.methodLink μ.1.cls ix ν.1 ∈ WL) (hst : stk = As.reverse ++ .ref ci :: st) (hcat : (st.map fun v => v.category).sum ≤ 8) (hm : MOk ν d (.ref ci :: As) I L oc) (hd : decode μ.2.1 pc = .ok (.invokevirtual ix, 3)) (k : ∀ (x : Int64) (I1 : PI) (L1 : PL), EvG κ Z Y μ (d + 1) (pc + 3) lv (.long x :: st) I1 L1 (K x I1 L1)) : EvG κ Z Y μ (d + 1) pc lv stk I L (bJ oc K) := by
  intro v I' L' ho p l e R s m args below meth c H locs D cI cL ad A ls C Wd hl9 hY
  obtain ⟨x, I1, L1, hoc, hK⟩ := bJ_some ho
  exact ev_runV cv hn hl hst hcat hm hd hoc C Wd hl9 hY.2 (fun H1 locs1 Wd1 => k x I1 L1 v I' L' hK p l e R s m args below meth c H1 locs1 D cI cL ad A ls C Wd1 hl9 hY)
theorem ev_callVV {K : PI → PL → RES} (cv : CalV ν n ci) (hn : As.length = n) (hl : Cond.methodLink μ.1.cls ix ν.1 ∈ WL) (hst : stk = As.reverse ++ .ref ci :: st) (hcat : (st.map fun v => v.category).sum ≤ 8) (hm : MOk ν d (.ref ci :: As) I L oc) (hd : decode μ.2.1 pc = .ok (.invokevirtual ix, 3)) (k : ∀ (I1 : PI) (L1 : PL), EvG κ Z Y μ (d + 1) (pc + 3) lv (st) I1 L1 (K I1 L1)) : EvG κ Z Y μ (d + 1) pc lv stk I L (bV oc K) := by
  intro v I' L' ho p l e R s m args below meth c H locs D cI cL ad A ls C Wd hl9 hY
  obtain ⟨I1, L1, hoc, hK⟩ := bV_some ho
  exact ev_runV cv hn hl hst hcat hm hd hoc C Wd hl9 hY.2 (fun H1 locs1 Wd1 => k I1 L1 v I' L' hK p l e R s m args below meth c H1 locs1 D cI cL ad A ls C Wd1 hl9 hY)
theorem ev_callSI {K : Int32 → PI → PL → RES} (cv : CalS ν n) (hn : As.length = n) (hl : Cond.methodLink μ.1.cls ix ν.1 ∈ WL) (hst : stk = As.reverse ++ st) (hcat : (st.map fun v => v.category).sum ≤ 8) (hm : MOk ν d As I L oc) (hd : decode μ.2.1 pc = .ok (.invokestatic ix, 3)) (k : ∀ (x : Int32) (I1 : PI) (L1 : PL), EvG κ Z Y μ (d + 1) (pc + 3) lv (.int x :: st) I1 L1 (K x I1 L1)) : EvG κ Z Y μ (d + 1) pc lv stk I L (bI oc K) := by
  intro v I' L' ho p l e R s m args below meth c H locs D cI cL ad A ls C Wd hl9 hY
  obtain ⟨x, I1, L1, hoc, hK⟩ := bI_some ho
  exact ev_runS cv hn hl hst hcat hm hd hoc C Wd hl9 hY.2 (fun H1 locs1 Wd1 => k x I1 L1 v I' L' hK p l e R s m args below meth c H1 locs1 D cI cL ad A ls C Wd1 hl9 hY)
theorem ev_callSJ {K : Int64 → PI → PL → RES} (cv : CalS ν n) (hn : As.length = n) (hl : Cond.methodLink μ.1.cls ix ν.1 ∈ WL) (hst : stk = As.reverse ++ st) (hcat : (st.map fun v => v.category).sum ≤ 8) (hm : MOk ν d As I L oc) (hd : decode μ.2.1 pc = .ok (.invokestatic ix, 3)) (k : ∀ (x : Int64) (I1 : PI) (L1 : PL), EvG κ Z Y μ (d + 1) (pc + 3) lv (.long x :: st) I1 L1 (K x I1 L1)) : EvG κ Z Y μ (d + 1) pc lv stk I L (bJ oc K) := by
  intro v I' L' ho p l e R s m args below meth c H locs D cI cL ad A ls C Wd hl9 hY
  obtain ⟨x, I1, L1, hoc, hK⟩ := bJ_some ho
  exact ev_runS cv hn hl hst hcat hm hd hoc C Wd hl9 hY.2 (fun H1 locs1 Wd1 => k x I1 L1 v I' L' hK p l e R s m args below meth c H1 locs1 D cI cL ad A ls C Wd1 hl9 hY)
theorem ev_callSV {K : PI → PL → RES} (cv : CalS ν n) (hn : As.length = n) (hl : Cond.methodLink μ.1.cls ix ν.1 ∈ WL) (hst : stk = As.reverse ++ st) (hcat : (st.map fun v => v.category).sum ≤ 8) (hm : MOk ν d As I L oc) (hd : decode μ.2.1 pc = .ok (.invokestatic ix, 3)) (k : ∀ (I1 : PI) (L1 : PL), EvG κ Z Y μ (d + 1) (pc + 3) lv (st) I1 L1 (K I1 L1)) : EvG κ Z Y μ (d + 1) pc lv stk I L (bV oc K) := by
  intro v I' L' ho p l e R s m args below meth c H locs D cI cL ad A ls C Wd hl9 hY
  obtain ⟨I1, L1, hoc, hK⟩ := bV_some ho
  exact ev_runS cv hn hl hst hcat hm hd hoc C Wd hl9 hY.2 (fun H1 locs1 Wd1 => k I1 L1 v I' L' hK p l e R s m args below meth c H1 locs1 D cI cL ad A ls C Wd1 hl9 hY)
theorem ev_callSNI {K : Int32 → PI → PL → RES} (cv : CalS ν n) (hn : As.length = n) (hl : nestM = Cond.methodLinkNest μ.1.cls ix ν.1 "PulseParts") (hst : stk = As.reverse ++ st) (hcat : (st.map fun v => v.category).sum ≤ 8) (hm : MOk ν d As I L oc) (hd : decode μ.2.1 pc = .ok (.invokestatic ix, 3)) (k : ∀ (x : Int32) (I1 : PI) (L1 : PL), EvG κ Z Y μ (d + 1) (pc + 3) lv (.int x :: st) I1 L1 (K x I1 L1)) : EvG κ Z Y μ (d + 1) pc lv stk I L (bI oc K) := by
  intro v I' L' ho p l e R s m args below meth c H locs D cI cL ad A ls C Wd hl9 hY
  obtain ⟨x, I1, L1, hoc, hK⟩ := bI_some ho
  exact ev_runSN cv hn hl hst hcat hm hd hoc C Wd hl9 hY.2 (fun H1 locs1 Wd1 => k x I1 L1 v I' L' hK p l e R s m args below meth c H1 locs1 D cI cL ad A ls C Wd1 hl9 hY)
theorem ev_callSNJ {K : Int64 → PI → PL → RES} (cv : CalS ν n) (hn : As.length = n) (hl : nestM = Cond.methodLinkNest μ.1.cls ix ν.1 "PulseParts") (hst : stk = As.reverse ++ st) (hcat : (st.map fun v => v.category).sum ≤ 8) (hm : MOk ν d As I L oc) (hd : decode μ.2.1 pc = .ok (.invokestatic ix, 3)) (k : ∀ (x : Int64) (I1 : PI) (L1 : PL), EvG κ Z Y μ (d + 1) (pc + 3) lv (.long x :: st) I1 L1 (K x I1 L1)) : EvG κ Z Y μ (d + 1) pc lv stk I L (bJ oc K) := by
  intro v I' L' ho p l e R s m args below meth c H locs D cI cL ad A ls C Wd hl9 hY
  obtain ⟨x, I1, L1, hoc, hK⟩ := bJ_some ho
  exact ev_runSN cv hn hl hst hcat hm hd hoc C Wd hl9 hY.2 (fun H1 locs1 Wd1 => k x I1 L1 v I' L' hK p l e R s m args below meth c H1 locs1 D cI cL ad A ls C Wd1 hl9 hY)
theorem ev_callSNV {K : PI → PL → RES} (cv : CalS ν n) (hn : As.length = n) (hl : nestM = Cond.methodLinkNest μ.1.cls ix ν.1 "PulseParts") (hst : stk = As.reverse ++ st) (hcat : (st.map fun v => v.category).sum ≤ 8) (hm : MOk ν d As I L oc) (hd : decode μ.2.1 pc = .ok (.invokestatic ix, 3)) (k : ∀ (I1 : PI) (L1 : PL), EvG κ Z Y μ (d + 1) (pc + 3) lv (st) I1 L1 (K I1 L1)) : EvG κ Z Y μ (d + 1) pc lv stk I L (bV oc K) := by
  intro v I' L' ho p l e R s m args below meth c H locs D cI cL ad A ls C Wd hl9 hY
  obtain ⟨I1, L1, hoc, hK⟩ := bV_some ho
  exact ev_runSN cv hn hl hst hcat hm hd hoc C Wd hl9 hY.2 (fun H1 locs1 Wd1 => k I1 L1 v I' L' hK p l e R s m args below meth c H1 locs1 D cI cL ad A ls C Wd1 hl9 hY)
/-- a number by a name, a world by a name -/
def nmI (x : Int32) (K : Int32 → RES) : RES := K x
def nmJ (x : Int64) (K : Int64 → RES) : RES := K x
def nmW (I : PI) (K : PI → RES) : RES := K I
def nmY (L : PL) (K : PL → RES) : RES := K L
theorem ev_nmI {x : Int32} {K : Int32 → RES} (k : ∀ y : Int32, EvG κ Z Y μ d pc lv (.int y :: st) I L (K y)) : EvG κ Z Y μ d pc lv (.int x :: st) I L (nmI x K) := k x
theorem ev_nmJ {x : Int64} {K : Int64 → RES} (k : ∀ y : Int64, EvG κ Z Y μ d pc lv (.long y :: st) I L (K y)) : EvG κ Z Y μ d pc lv (.long x :: st) I L (nmJ x K) := k x
theorem ev_nmW {K : PI → RES} (k : ∀ J : PI, EvG κ Z Y μ d pc lv st J L (K J)) : EvG κ Z Y μ d pc lv st I L (nmW I K) := k I
theorem ev_nmY {K : PL → RES} (k : ∀ J : PL, EvG κ Z Y μ d pc lv st I J (K J)) : EvG κ Z Y μ d pc lv st I L (nmY L K) := k L
/-- switches -/
def TS (κ : Nat × Nat) (Z : ZTy) (Y : YTy) (μ : MI) (d pc : Nat) (lv : List (Nat × Value)) (st : List Value) (I : PI) (L : PL) : List Int → List RES → Prop
  | [], [] => True
  | off :: offs, o :: os => (∃ tgt : Nat, (pc : Int) + off = (tgt : Int) ∧ EvG κ Z Y μ d tgt lv st I L o) ∧ TS κ Z Y μ d pc lv st I L offs os
  | _, _ => False
theorem TS.get : ∀ {offs : List Int} {os : List RES}, TS κ Z Y μ d pc lv st I L offs os → offs.length = os.length ∧ ∀ (j : Nat) (o : RES), os[j]? = some o → ∃ (off : Int) (tgt : Nat), offs[j]? = some off ∧ (pc : Int) + off = (tgt : Int) ∧ EvG κ Z Y μ d tgt lv st I L o
  | [], [], _ => ⟨rfl, fun j o h => by simp at h⟩
  | off :: offs, o :: os, h => by
    obtain ⟨h1, h2⟩ := TS.get h.2
    obtain ⟨tgt, h3, h4⟩ := h.1
    refine ⟨by rw [List.length_cons, List.length_cons, h1], fun j o' hj => ?_⟩
    cases j with
    | zero =>
      rw [List.getElem?_cons_zero] at hj ⊢
      cases hj
      exact ⟨off, tgt, rfl, h3, h4⟩
    | succ j =>
      rw [List.getElem?_cons_succ] at hj ⊢
      exact h2 j o' hj
  | [], _ :: _, h => h.elim
  | _ :: _, [], h => h.elim
def swT (lo : Int) (os : List RES) (od : RES) (x : Int32) : RES := if x.toInt < lo then od else (os[(x.toInt - lo).toNat]?).getD od
theorem ev_table {dflt lo hi : Int} {offs : Array Int} {len : Nat} {x : Int32} {os : List RES} {od : RES} (tgt : Nat) (ht : (pc : Int) + dflt = (tgt : Int)) (hh : hi = lo + os.length - 1) (hd : decode μ.2.1 pc = .ok (.tableswitch dflt lo hi offs, len)) (h : TS κ Z Y μ d pc lv st I L offs.toList os) (kd : EvG κ Z Y μ d tgt lv st I L od) : EvG κ Z Y μ d pc lv (.int x :: st) I L (swT lo os od x) := by
  intro v I' L' ho p l e R s m args below meth c H locs D cI cL ad A ls C Wd hl hY
  obtain ⟨h1, h2⟩ := h.get
  unfold swT at ho
  by_cases hlt : x.toInt < lo
  · rw [if_pos hlt] at ho
    exact lv_tableOut C.1 C.2.1 (rest := st.map (trV ad)) hd (Or.inl hlt) ht (kd v I' L' ho p l e R s m args below meth c H locs D cI cL ad A ls C Wd hl hY)
  · rw [if_neg hlt] at ho
    cases hj : os[(x.toInt - lo).toNat]? with
    | none =>
      rw [hj] at ho
      have h3 : os.length ≤ (x.toInt - lo).toNat := by simpa using hj
      exact lv_tableOut C.1 C.2.1 (rest := st.map (trV ad)) hd (Or.inr (by omega)) ht (kd v I' L' ho p l e R s m args below meth c H locs D cI cL ad A ls C Wd hl hY)
    | some o9 =>
      rw [hj] at ho
      obtain ⟨off, tgt2, g1, g2, g3⟩ := h2 _ _ hj
      have h3 : (x.toInt - lo).toNat < os.length := (List.getElem?_eq_some_iff.mp hj).1
      exact lv_tableIn C.1 C.2.1 (rest := st.map (trV ad)) hd hlt (by omega) (by rw [← Array.getElem?_toList]; exact g1) g2 (g3 v I' L' ho p l e R s m args below meth c H locs D cI cL ad A ls C Wd hl hY)
def swL : List (Int × RES) → RES → Int32 → RES
  | [], od, _ => od
  | (k, o) :: r, od, x => if k = x.toInt then o else swL r od x
def LSW (κ : Nat × Nat) (Z : ZTy) (Y : YTy) (μ : MI) (d pc : Nat) (lv : List (Nat × Value)) (st : List Value) (I : PI) (L : PL) : List (Int × Int) → List (Int × RES) → Prop
  | [], [] => True
  | (k, off) :: ps, (k', o) :: os => k = k' ∧ (∃ tgt : Nat, (pc : Int) + off = (tgt : Int) ∧ EvG κ Z Y μ d tgt lv st I L o) ∧ LSW κ Z Y μ d pc lv st I L ps os
  | _, _ => False
theorem LSW.get {dflt : Int} {od : RES} {tgt : Nat} (ht : (pc : Int) + dflt = (tgt : Int)) (kd : EvG κ Z Y μ d tgt lv st I L od) (x : Int32) : ∀ {ps : List (Int × Int)} {os : List (Int × RES)}, LSW κ Z Y μ d pc lv st I L ps os → ∃ tgt2 : Nat, (pc : Int) + Op.lookupswitch.offset ps dflt x.toInt = (tgt2 : Int) ∧ EvG κ Z Y μ d tgt2 lv st I L (swL os od x)
  | [], [], _ => ⟨tgt, by rw [Op.lookupswitch.offset_nil]; exact ht, kd⟩
  | (k, off) :: ps, (k', o) :: os, h => by
    obtain ⟨rfl, ⟨tgt3, h3, h4⟩, h5⟩ := h
    rw [Op.lookupswitch.offset_cons]
    unfold swL
    by_cases hk : k = x.toInt
    · rw [if_pos hk, if_pos hk]
      exact ⟨tgt3, h3, h4⟩
    · rw [if_neg hk, if_neg hk]
      exact LSW.get ht kd x h5
  | [], _ :: _, h => h.elim
  | _ :: _, [], h => h.elim
theorem ev_lookup {dflt : Int} {ps : Array (Int × Int)} {len : Nat} {x : Int32} {os : List (Int × RES)} {od : RES} (tgt : Nat) (ht : (pc : Int) + dflt = (tgt : Int)) (hp : (ps.toList.zip (ps.toList.drop 1)).all (fun (a, next) => a.1 < next.1) = true) (hd : decode μ.2.1 pc = .ok (.lookupswitch dflt ps, len)) (h : LSW κ Z Y μ d pc lv st I L ps.toList os) (kd : EvG κ Z Y μ d tgt lv st I L od) : EvG κ Z Y μ d pc lv (.int x :: st) I L (swL os od x) := by
  intro v I' L' ho p l e R s m args below meth c H locs D cI cL ad A ls C Wd hl hY
  obtain ⟨tgt2, h1, h2⟩ := LSW.get ht kd x h
  exact lv_lookup C.1 C.2.1 (rest := st.map (trV ad)) hd hp rfl h1 (h2 v I' L' ho p l e R s m args below meth c H locs D cI cL ad A ls C Wd hl hY)
/-- the static rows of settings -/
theorem ev_gets {ix : Nat} {nm : String} {c9 : Nat} (hz : ∀ (ad : Nat → Nat) (A : Nat → Prop) (U : State) (H : Heap), ZT ad A U H → va_Z "PulseParts" nm "[I" (.ref (ad c9)) A U H) (hlink : Cond.fieldLink μ.1.cls ix "PulseParts" nm "[I" ∈ WL) (hd : decode μ.2.1 pc = .ok (.getstatic ix, 3)) {o : RES} (k : EvG κ Z Y μ d (pc + 3) lv (.ref c9 :: st) I L o) : EvG κ Z Y μ d pc lv st I L o := by
  intro v I' L' ho p l e R s m args below meth c H locs D cI cL ad A ls C Wd hl hY
  exact va_gets C.1 C.2.1 (hz _ _ _ _ Wd.2.2.2.2.2.2) Wd.2.2.2.1 C.2.2.2.2.2.1 (C.2.2.2.2.1 _ hlink) (fun _ h => h) hd (k v I' L' ho p l e R s m args below meth c H locs D cI cL ad A ls C Wd hl hY)
theorem ev_tald {c9 : Nat} {f9 : Nat → Value} {g9 : Nat → Int32} {i : Int32} (hz : ∀ (ad : Nat → Nat) (A : Nat → Prop) (U : State) (H : Heap), ZT ad A U H → va_T .int (ad c9) 6 f9 A U H) (hf : ∀ j, f9 j = .int (g9 j)) {o : RES} (hd : decode μ.2.1 pc = .ok (.iaload, 1)) (k : EvG κ Z Y μ d (pc + 1) lv (.int (g9 i.toNatClampNeg) :: st) I L o) : EvG κ Z Y μ d pc lv (.int i :: .ref c9 :: st) I L (gd (inb i 6) o) := by
  intro v I' L' ho p l e R s m args below meth c H locs D cI cL ad A ls C Wd hl hY
  obtain ⟨hin, ho⟩ := gd_some ho
  exact va_ti C.1 C.2.1 (hz _ _ _ _ Wd.2.2.2.2.2.2) Wd.2.2.2.1 (inb_in hin) (hf _) hd (k v I' L' ho p l e R s m args below meth c H locs D cI cL ad A ls C Wd hl hY)
end EVC
/-- Math -/
def jmax (x y : Int32) : Int32 := if x < y then y else x
def jmin (x y : Int32) : Int32 := if y < x then y else x
def jabs (x : Int32) : Int32 := if 0 ≤ x then x else 0 - x
def jmaxJ (x y : Int64) : Int64 := if y < x then x else y
def jminJ (x y : Int64) : Int64 := if y < x then y else x
section EVM
variable {κ : Nat × Nat} {Z : ZTy} {Y : YTy} {μ : MI} {d pc ix : Nat} {lv : List (Nat × Value)} {st : List Value} {I : PI} {L : PL} {o : RES}
theorem ev_mmax {x y : Int32} (hl : Cond.methodLink μ.1.cls ix Lib.Math.max.name ∈ WL) (h1 : Cond.static Lib.Math.max.name ∈ WL) (h2 : Cond.initialized "java/lang/Math" ∈ WL) (h3 : Cond.code Lib.Math.max.name Lib.Math.max.code 2 (some .int) ∈ WL) (hcat : (st.map fun v => v.category).sum ≤ 8) (hd : decode μ.2.1 pc = .ok (.invokestatic ix, 3)) (k : EvG κ Z Y μ (d + 1) (pc + 3) lv (.int (jmax x y) :: st) I L o) : EvG κ Z Y μ (d + 1) pc lv (.int y :: .int x :: st) I L o := by
  intro v I' L' ho p l e R s m args below meth c H locs D cI cL ad A ls C Wd hl9 hY
  have hq := C.2.2.2.2.2.2.2.2
  have hcat2 : ((st.map (trV ad)).map fun v => v.category).sum ≤ 8 := by rw [tr_cats]; exact hcat
  exact va_mmax C.1 C.2.1 (by rw [C.2.2.1]; exact hl9.1.symm) C.2.2.2.2.2.1 (C.2.2.2.2.1 _ hl) (C.2.2.2.2.1 _ h1) (C.2.2.2.2.1 _ h2) (C.2.2.2.2.1 _ h3) (by have := C.2.2.2.2.2.2.2.1; omega) (by omega) hY.2.1 hY.2.2 (rest := st.map (trV ad)) hd (k v I' L' ho p l e R s m args below meth c H locs D cI cL ad A ls C Wd hl9 hY)
theorem ev_mmin {x y : Int32} (hl : Cond.methodLink μ.1.cls ix Lib.Math.min.name ∈ WL) (h1 : Cond.static Lib.Math.min.name ∈ WL) (h2 : Cond.initialized "java/lang/Math" ∈ WL) (h3 : Cond.code Lib.Math.min.name Lib.Math.min.code 2 (some .int) ∈ WL) (hcat : (st.map fun v => v.category).sum ≤ 8) (hd : decode μ.2.1 pc = .ok (.invokestatic ix, 3)) (k : EvG κ Z Y μ (d + 1) (pc + 3) lv (.int (jmin x y) :: st) I L o) : EvG κ Z Y μ (d + 1) pc lv (.int y :: .int x :: st) I L o := by
  intro v I' L' ho p l e R s m args below meth c H locs D cI cL ad A ls C Wd hl9 hY
  have hq := C.2.2.2.2.2.2.2.2
  have hcat2 : ((st.map (trV ad)).map fun v => v.category).sum ≤ 8 := by rw [tr_cats]; exact hcat
  exact va_mmin C.1 C.2.1 (by rw [C.2.2.1]; exact hl9.1.symm) C.2.2.2.2.2.1 (C.2.2.2.2.1 _ hl) (C.2.2.2.2.1 _ h1) (C.2.2.2.2.1 _ h2) (C.2.2.2.2.1 _ h3) (by have := C.2.2.2.2.2.2.2.1; omega) (by omega) hY.2.1 hY.2.2 (rest := st.map (trV ad)) hd (k v I' L' ho p l e R s m args below meth c H locs D cI cL ad A ls C Wd hl9 hY)
theorem ev_mabs {x : Int32} (hl : Cond.methodLink μ.1.cls ix Lib.Math.abs.name ∈ WL) (h1 : Cond.static Lib.Math.abs.name ∈ WL) (h2 : Cond.initialized "java/lang/Math" ∈ WL) (h3 : Cond.code Lib.Math.abs.name Lib.Math.abs.code 1 (some .int) ∈ WL) (hcat : (st.map fun v => v.category).sum ≤ 8) (hd : decode μ.2.1 pc = .ok (.invokestatic ix, 3)) (k : EvG κ Z Y μ (d + 1) (pc + 3) lv (.int (jabs x) :: st) I L o) : EvG κ Z Y μ (d + 1) pc lv (.int x :: st) I L o := by
  intro v I' L' ho p l e R s m args below meth c H locs D cI cL ad A ls C Wd hl9 hY
  have hq := C.2.2.2.2.2.2.2.2
  have hcat2 : ((st.map (trV ad)).map fun v => v.category).sum ≤ 8 := by rw [tr_cats]; exact hcat
  exact va_mabs C.1 C.2.1 (by rw [C.2.2.1]; exact hl9.1.symm) C.2.2.2.2.2.1 (C.2.2.2.2.1 _ hl) (C.2.2.2.2.1 _ h1) (C.2.2.2.2.1 _ h2) (C.2.2.2.2.1 _ h3) (by have := C.2.2.2.2.2.2.2.1; omega) (by omega) hY.2.1 hY.2.2 (rest := st.map (trV ad)) hd (k v I' L' ho p l e R s m args below meth c H locs D cI cL ad A ls C Wd hl9 hY)
theorem ev_mmaxJ {x y : Int64} (hl : Cond.methodLink μ.1.cls ix Lib.MathLoose.max_long.x ∈ WL) (h1 : Cond.static Lib.MathLoose.max_long.x ∈ WL) (h2 : Cond.initialized "java/lang/Math" ∈ WL) (h3 : Cond.code Lib.MathLoose.max_long.x Lib.MathLoose.max_long.code 4 (some .long) ∈ WL) (hcat : (st.map fun v => v.category).sum ≤ 8) (hd : decode μ.2.1 pc = .ok (.invokestatic ix, 3)) (k : EvG κ Z Y μ (d + 1) (pc + 3) lv (.long (jmaxJ x y) :: st) I L o) : EvG κ Z Y μ (d + 1) pc lv (.long y :: .long x :: st) I L o := by
  intro v I' L' ho p l e R s m args below meth c H locs D cI cL ad A ls C Wd hl9 hY
  have hq := C.2.2.2.2.2.2.2.2
  have hcat2 : ((st.map (trV ad)).map fun v => v.category).sum ≤ 8 := by rw [tr_cats]; exact hcat
  exact va_mmax_long C.1 C.2.1 (by rw [C.2.2.1]; exact hl9.1.symm) C.2.2.2.2.2.1 (C.2.2.2.2.1 _ hl) (C.2.2.2.2.1 _ h1) (C.2.2.2.2.1 _ h2) (C.2.2.2.2.1 _ h3) (by have := C.2.2.2.2.2.2.2.1; omega) (by omega) hY.2.1 hY.2.2 (rest := st.map (trV ad)) hd (k v I' L' ho p l e R s m args below meth c H locs D cI cL ad A ls C Wd hl9 hY)
theorem ev_mminJ {x y : Int64} (hl : Cond.methodLink μ.1.cls ix Lib.MathLoose.min_long.x ∈ WL) (h1 : Cond.static Lib.MathLoose.min_long.x ∈ WL) (h2 : Cond.initialized "java/lang/Math" ∈ WL) (h3 : Cond.code Lib.MathLoose.min_long.x Lib.MathLoose.min_long.code 4 (some .long) ∈ WL) (hcat : (st.map fun v => v.category).sum ≤ 8) (hd : decode μ.2.1 pc = .ok (.invokestatic ix, 3)) (k : EvG κ Z Y μ (d + 1) (pc + 3) lv (.long (jminJ x y) :: st) I L o) : EvG κ Z Y μ (d + 1) pc lv (.long y :: .long x :: st) I L o := by
  intro v I' L' ho p l e R s m args below meth c H locs D cI cL ad A ls C Wd hl9 hY
  have hq := C.2.2.2.2.2.2.2.2
  have hcat2 : ((st.map (trV ad)).map fun v => v.category).sum ≤ 8 := by rw [tr_cats]; exact hcat
  exact va_mmin_long C.1 C.2.1 (by rw [C.2.2.1]; exact hl9.1.symm) C.2.2.2.2.2.1 (C.2.2.2.2.1 _ hl) (C.2.2.2.2.1 _ h1) (C.2.2.2.2.1 _ h2) (C.2.2.2.2.1 _ h3) (by have := C.2.2.2.2.2.2.2.1; omega) (by omega) hY.2.1 hY.2.2 (rest := st.map (trV ad)) hd (k v I' L' ho p l e R s m args below meth c H locs D cI cL ad A ls C Wd hl9 hY)
end EVM
