abbrev KS : Type := List (Nat × KC)
def wsD (cI cL : ClassId) (ad : Nat → Nat) (I : PI) (L : PL) (Ks : KS) : va_W := Ks.map (fun q => (ad q.1, celE cI cL ad I L q.1 q.2))
def rfs (fs : List Nat) : List Nat := fs.filterMap (fun x => if 3 ≤ x then some (x - 3) else none)
def idsK (Ks : KS) : List Nat := Ks.flatMap (fun q => q.1 :: rfs q.2.2.2)
def rfV : List Value → List Nat
  | [] => []
  | .ref c :: t => c :: rfV t
  | _ :: t => rfV t
theorem trV_congr {ad ad' : Nat → Nat} : ∀ {st : List Value}, (∀ c ∈ rfV st, ad c = ad' c) → st.map (trV ad) = st.map (trV ad')
  | [], _ => rfl
  | .ref c :: t, h => by
    rw [List.map_cons, List.map_cons, trV_congr (st := t) (fun x hx => h x (List.mem_cons_of_mem _ hx))]
    show Value.ref (ad c) :: _ = Value.ref (ad' c) :: _
    rw [h c List.mem_cons_self]
  | .int x :: t, h => by rw [List.map_cons, List.map_cons, trV_congr (st := t) h]; rfl
  | .long x :: t, h => by rw [List.map_cons, List.map_cons, trV_congr (st := t) h]; rfl
  | .float x :: t, h => by rw [List.map_cons, List.map_cons, trV_congr (st := t) h]; rfl
  | .double x :: t, h => by rw [List.map_cons, List.map_cons, trV_congr (st := t) h]; rfl
  | .null :: t, h => by rw [List.map_cons, List.map_cons, trV_congr (st := t) h]; rfl
  | .retAddr x :: t, h => by rw [List.map_cons, List.map_cons, trV_congr (st := t) h]; rfl
theorem trL_congr {ad ad' : Nat → Nat} : ∀ {lv : List (Nat × Value)}, (∀ c ∈ rfV (lv.map Prod.snd), ad c = ad' c) → trL ad lv = trL ad' lv
  | [], _ => rfl
  | (i, v) :: t, h => by
    have h1 := trV_congr (st := v :: t.map Prod.snd) h
    rw [List.map_cons, List.map_cons] at h1
    have h2 : trV ad v = trV ad' v := (List.cons.inj h1).1
    have h3 := trL_congr (ad := ad) (ad' := ad') (lv := t) (fun c hc => h c (by
      show c ∈ rfV (v :: t.map Prod.snd)
      cases v <;> first | exact hc | exact List.mem_cons_of_mem _ hc))
    unfold trL at h3 ⊢
    rw [List.map_cons, List.map_cons, h3]
    dsimp only
    rw [h2]
theorem fvs_cong {ad ad' : Nat → Nat} {I : PI} {L : PL} {c : Nat} : ∀ {fs : List Nat} {k : Nat}, (∀ x ∈ rfs fs, ad x = ad' x) → fvs ad I L c k fs = fvs ad' I L c k fs
  | [], _, _ => rfl
  | x :: t, k, h => by
    unfold fvs
    match x, h with
    | 0, h => rw [fvs_cong (fs := t) (fun y hy => h y (by unfold rfs at hy ⊢; rw [List.filterMap_cons_none (by rfl)]; exact hy))]; rfl
    | 1, h => rw [fvs_cong (fs := t) (fun y hy => h y (by unfold rfs at hy ⊢; rw [List.filterMap_cons_none (by rfl)]; exact hy))]; rfl
    | 2, h => rw [fvs_cong (fs := t) (fun y hy => h y (by unfold rfs at hy ⊢; rw [List.filterMap_cons_none (by rfl)]; exact hy))]; rfl
    | r + 3, h =>
      have e : rfs ((r + 3) :: t) = r :: rfs t := by
        unfold rfs
        rw [List.filterMap_cons_some (b := r) (by rw [if_pos (by omega)]; rfl)]
      rw [fvs_cong (fs := t) (fun y hy => h y (by rw [e]; exact List.mem_cons_of_mem _ hy))]
      show Value.ref (ad r) :: _ = Value.ref (ad' r) :: _
      rw [h r (by rw [e]; exact List.mem_cons_self)]
theorem wsD_congr {cI cL : ClassId} {ad ad' : Nat → Nat} {I : PI} {L : PL} : ∀ {Ks : KS}, (∀ c ∈ idsK Ks, ad c = ad' c) → wsD cI cL ad I L Ks = wsD cI cL ad' I L Ks
  | [], _ => rfl
  | (c, k, n, fs) :: t, h => by
    have h1 : ∀ x ∈ c :: rfs fs, ad x = ad' x := fun x hx => h x (List.mem_flatMap.mpr ⟨_, List.mem_cons_self, hx⟩)
    have h2 := wsD_congr (cI := cI) (cL := cL) (I := I) (L := L) (Ks := t) (fun x hx => h x (by
      obtain ⟨q, hq, hx⟩ := List.mem_flatMap.mp hx
      exact List.mem_flatMap.mpr ⟨q, List.mem_cons_of_mem _ hq, hx⟩))
    unfold wsD at h2 ⊢
    rw [List.map_cons, List.map_cons, h2]
    dsimp only
    rw [h1 c List.mem_cons_self]
    congr 2
    match k with
    | 0 => rfl
    | 1 => rfl
    | k + 2 =>
      unfold celE
      dsimp only
      rw [fvs_cong (fun x hx => h1 x (List.mem_cons_of_mem _ hx))]
theorem wsD_get {cI cL : ClassId} {ad : Nat → Nat} {I : PI} {L : PL} {Ks : KS} {j c : Nat} {q : KC} (h : Ks[j]? = some (c, q)) : (wsD cI cL ad I L Ks)[j]? = some (ad c, celE cI cL ad I L c q) := by
  unfold wsD; rw [List.getElem?_map, h]; rfl
theorem fvs_setR {ad : Nat → Nat} {I : PI} {L : PL} {c i x : Nat} {xs : List Nat} : (fvs ad I L c 0 xs).set i (fvV ad I L c i x) = fvs ad I L c 0 (xs.set i x) := by
  apply List.ext_getElem?
  intro j
  rw [fvs_get, Nat.zero_add, List.getElem?_set, fvs_get, Nat.zero_add, fvs_len, List.getElem?_set]
  by_cases hj : i = j
  · subst hj
    rw [if_pos rfl, if_pos rfl]
    by_cases hl : i < xs.length
    · rw [if_pos hl, if_pos hl]; rfl
    · rw [if_neg hl, if_neg hl]; rfl
  · rw [if_neg hj, if_neg hj]
theorem wsD_set {cI cL : ClassId} {ad : Nat → Nat} {I I' : PI} {L L' : PL} {Ks : KS} {j c : Nat} {q q' : KC} (h : Ks[j]? = some (c, q)) (hne : ∀ x ∈ Ks.eraseIdx j, x.1 ≠ c) (h1 : ∀ a, a ≠ c → I a = I' a) (h2 : ∀ a, a ≠ c → L a = L' a) :
    (wsD cI cL ad I L Ks).set j (ad c, celE cI cL ad I' L' c q') = wsD cI cL ad I' L' (Ks.set j (c, q')) := by
  have hl : j < Ks.length := (List.getElem?_eq_some_iff.mp h).1
  unfold wsD
  apply List.ext_getElem?
  intro i
  rw [List.getElem?_set, List.getElem?_map, List.getElem?_map, List.length_map, List.getElem?_set]
  by_cases hj : j = i
  · subst hj
    rw [if_pos rfl, if_pos hl, if_pos rfl, if_pos hl]
    rfl
  · rw [if_neg hj, if_neg hj]
    cases hx : Ks[i]? with
    | none => rfl
    | some x =>
      have hm : x ∈ Ks.eraseIdx j := by
        rw [List.mem_eraseIdx_iff_getElem?]
        exact ⟨i, Ne.symm hj, hx⟩
      show some (ad x.1, celE cI cL ad I L x.1 x.2) = some (ad x.1, celE cI cL ad I' L' x.1 x.2)
      rw [celE_congr (h1 _ (hne x hm)) (h2 _ (hne x hm))]
def upN (ad : Nat → Nat) (c q : Nat) : Nat → Nat := fun x => if x = c then q else ad x
theorem upN_o {ad : Nat → Nat} {c q x : Nat} (h : x ≠ c) : upN ad c q x = ad x := by unfold upN; rw [if_neg h]
theorem upN_c {ad : Nat → Nat} {c q : Nat} : upN ad c q c = q := by unfold upN; rw [if_pos rfl]
def WldN (D : va_G) (cI cL : ClassId) (ad : Nat → Nat) (A : Nat → Prop) (I : PI) (L : PL) (Ks : KS) (s : State) (H : Heap) (locs : List Loc) : Prop :=
  va_K D vwCl (TYS cI cL) s ∧ va_P D vwCl (wsD cI cL ad I L Ks) H ∧ va_D A (wsD cI cL ad I L Ks) ∧ va_S A s.heap H locs ∧ ∀ q, s.heap.size ≤ q → A q
def QN (Ks : KS) (I : PI) (L : PL) (ids : List Nat) (ad0 : Nat → Nat) (D : va_G) (cI cL : ClassId) (A : Nat → Prop) : Array Value → State → Outcome → State → Prop := fun _ st oc t =>
  (oc = .returned none ∧ ∃ ad : Nat → Nat, (∀ c ∈ ids, ad c = ad0 c) ∧ va_P D vwCl (wsD cI cL ad I L Ks) t.heap ∧ va_K D vwCl (TYS cI cL) t ∧ va_D A (wsD cI cL ad I L Ks)) ∧ va_F A st t
abbrev ZN : Type := (Nat → Nat) → va_G → ClassId → ClassId → (Nat → Prop) → State → Array Value → List Frame → State → Prop
/-- the frame at pc goes on to Z; M2: what it may make, κ: what it has made, ids: the cells that are named at its start -/
def EvN (Z : ZN) (Y : YTy) (μ : MI) (d : Nat) (ids : List Nat) (M2 κ : Nat × Nat) (Ks : KS) (pc : Nat) (lv : List (Nat × Value)) (st : List Value) (I : PI) (L : PL) : Prop :=
  ∀ (p : Program) (l : Launch) (e : Env) (R : Room) (s : State) (m : MethodId) (args : Array Value) (below : List Frame) (meth : Method) (c : Code) (H : Heap) (locs : List Loc) (D : va_G) (cI cL : ClassId) (ad0 ad : Nat → Nat) (A : Nat → Prop) (ls : Array Slot),
    Ctx μ d p R s m args meth c → (M2.1 ≤ R.cells ∧ M2.2 ≤ R.slots) → meth.name = μ.1.name → (∀ c ∈ ids, ad c = ad0 c) → WldN D cI cL ad A I L Ks s H locs → lv_has ls μ.2.2.1 (trL ad lv) → Y l R s ad0 A → W p l e R s m args below meth c H locs κ.1 κ.2 (Z ad0 D cI cL A s args below) (F0 m pc ls (st.map (trV ad)))
def Zct (Ks : KS) (I : PI) (L : PL) (ids : List Nat) (M2 : Nat × Nat) : ZN := fun ad0 D cI cL A s args below => MQ below (QN Ks I L ids ad0 D cI cL A) args s M2.1 M2.2 A
def CtorOk (ν : MI) (d : Nat) (As : List Value) (ids : List Nat) (Ks : KS) (I : PI) (L : PL) (Ks' : KS) (I' : PI) (L' : PL) (M2 : Nat × Nat) : Prop :=
  ∀ (l : Launch) (D : va_G) (cI cL : ClassId) (ad0 : Nat → Nat) (sz : Nat), Met l ν.1 (Tw ν) { frames := d, cells := M2.1, slots := M2.2, locals := 60 * d } (va_Pc (As.map (trV ad0)) (fun U => U.heap.size = sz ∧ va_P D vwCl (wsD cI cL ad0 I L Ks) U.heap ∧ va_K D vwCl (TYS cI cL) U ∧ va_D (fun _ => True) (wsD cI cL ad0 I L Ks)))
    (QN Ks' I' L' ids ad0 D cI cL (va_A (wsD cI cL ad0 I L Ks) sz)) M2.1 M2.2 (va_A (wsD cI cL ad0 I L Ks) sz)
theorem CtorOk.of {ν : MI} {d : Nat} {As : List Value} {ids : List Nat} {Ks Ks' : KS} {I I' : PI} {L L' : PL} {M2 : Nat × Nat} (hy : plainName ν.1.cls = true) (hlen : (lg_sl As).length ≤ ν.2.2.1) (h : EvN (Zct Ks' I' L' ids M2) Ytt ν d ids M2 (0, 0) Ks 0 (lv_args 0 As) [] I L) : CtorOk ν d As ids Ks I L Ks' I' L' M2 := by
  intro l D cI cL ad0 sz
  refine Met.ofW (cc := ν.2.1) (maxL := ν.2.2.1) (ret := ν.2.2.2) hy rfl ?_
  intro p e s m args below meth c s₁ B hml hv
  obtain ⟨rfl, hsz, hP, hK, hD0⟩ := hv
  subst hsz
  have hts := atoms_spec (ws := Tw ν) B.pre
  have hl := lv_entry (As.map (trV ad0)) (n := ν.2.2.1) (by rw [lg_len]; exact hlen)
  rw [lg_entry_eq]
  rw [trL_args] at hl
  exact h p l e _ s m _ below meth c s.heap [] D cI cL ad0 ad0 (va_A (wsD cI cL ad0 I L Ks) s.heap.size) _ ⟨B.exec, B.bytes, hml, B.returns, fun w hw => hts w (List.mem_cons_of_mem _ hw), findClass_of_methodNamed B.named, B.notSynchronized, Nat.le_refl _, Nat.le_refl _⟩
    ⟨Nat.le_refl _, Nat.le_refl _⟩ (name_of_methodNamed B.named B.method).1 (fun _ _ => rfl) ⟨hK, hP, hD0.self, va_S.rf, fun _ h => Or.inr h⟩ hl trivial
section EN
variable {Z : ZN} {Y : YTy} {μ : MI} {d pc : Nat} {ids : List Nat} {M2 κ : Nat × Nat} {Ks : KS} {lv lv' : List (Nat × Value)} {st : List Value} {I : PI} {L : PL}
theorem EvN.sub (ks : List Nat) (h : lv_pick lv ks = lv') (k : EvN Z Y μ d ids M2 κ Ks pc lv' st I L) : EvN Z Y μ d ids M2 κ Ks pc lv st I L := by
  intro p l e R s m args below meth c H locs D cI cL ad0 ad A ls C hM hn hE Wd hl hY
  refine k p l e R s m args below meth c H locs D cI cL ad0 ad A ls C hM hn hE Wd (lv_sub hl ks ?_) hY
  subst h
  unfold lv_pick trL
  rw [List.map_filterMap]
  congr 1
  funext i
  rw [List.getElem?_map]
theorem en_iconst {n : Int} (x : Int32) (hx : Int32.ofInt n = x) (hd : decode μ.2.1 pc = .ok (.iconst n, 1)) (k : EvN Z Y μ d ids M2 κ Ks (pc + 1) lv (.int x :: st) I L) : EvN Z Y μ d ids M2 κ Ks pc lv (st) I L := by
  intro p l e R s m args below meth c H locs D cI cL ad0 ad A ls C hM hn hE Wd hl hY
  exact lv_iconst C.1 C.2.1 (v := x) (rest := st.map (trV ad)) hd hx (k p l e R s m args below meth c H locs D cI cL ad0 ad A ls C hM hn hE Wd hl hY)
theorem en_bipush {n : Int} (x : Int32) (hx : (Int8.ofInt n).toInt32 = x) (hd : decode μ.2.1 pc = .ok (.bipush n, 2)) (k : EvN Z Y μ d ids M2 κ Ks (pc + 2) lv (.int x :: st) I L) : EvN Z Y μ d ids M2 κ Ks pc lv (st) I L := by
  intro p l e R s m args below meth c H locs D cI cL ad0 ad A ls C hM hn hE Wd hl hY
  exact lv_bipush C.1 C.2.1 (v := x) (rest := st.map (trV ad)) hd hx (k p l e R s m args below meth c H locs D cI cL ad0 ad A ls C hM hn hE Wd hl hY)
theorem en_sipush {n : Int} (x : Int32) (hx : (Int16.ofInt n).toInt32 = x) (hd : decode μ.2.1 pc = .ok (.sipush n, 3)) (k : EvN Z Y μ d ids M2 κ Ks (pc + 3) lv (.int x :: st) I L) : EvN Z Y μ d ids M2 κ Ks pc lv (st) I L := by
  intro p l e R s m args below meth c H locs D cI cL ad0 ad A ls C hM hn hE Wd hl hY
  exact lv_sipush C.1 C.2.1 (v := x) (rest := st.map (trV ad)) hd hx (k p l e R s m args below meth c H locs D cI cL ad0 ad A ls C hM hn hE Wd hl hY)
theorem en_iload_n {q : Fin 4} {x : Int32} (j : Nat) (hd : decode μ.2.1 pc = .ok (.iload_n q, 1)) (hj : lv[j]? = some ((q : Nat), .int x)) (k : EvN Z Y μ d ids M2 κ Ks (pc + 1) lv (.int x :: st) I L) : EvN Z Y μ d ids M2 κ Ks pc lv (st) I L := by
  intro p l e R s m args below meth c H locs D cI cL ad0 ad A ls C hM hn hE Wd hl hY
  exact lv_iload_n C.1 C.2.1 (x := x) (rest := st.map (trV ad)) hd rfl (lv_at hl j (trL_get hj)) (k p l e R s m args below meth c H locs D cI cL ad0 ad A ls C hM hn hE Wd hl hY)
theorem en_aload_n {q : Fin 4} {x : Nat} (j : Nat) (hd : decode μ.2.1 pc = .ok (.aload_n q, 1)) (hj : lv[j]? = some ((q : Nat), .ref x)) (k : EvN Z Y μ d ids M2 κ Ks (pc + 1) lv (.ref x :: st) I L) : EvN Z Y μ d ids M2 κ Ks pc lv (st) I L := by
  intro p l e R s m args below meth c H locs D cI cL ad0 ad A ls C hM hn hE Wd hl hY
  exact lv_aload_n C.1 C.2.1 (x := ad x) (rest := st.map (trV ad)) hd rfl (lv_at hl j (trL_get hj)) (k p l e R s m args below meth c H locs D cI cL ad0 ad A ls C hM hn hE Wd hl hY)
theorem en_istore_n {q : Fin 4} {i : Nat} {x : Int32} (hd : decode μ.2.1 pc = .ok (.istore_n q, 1)) (hi : (q : Nat) = i) (hn9 : Nat.blt i μ.2.2.1 = true) (hv : (i, Value.int x) :: lv.filter (fun q => !(q.1 == i) && !(q.1 + 1 == i && q.2.category == 2)) = lv') (k : EvN Z Y μ d ids M2 κ Ks (pc + 1) lv' st I L) : EvN Z Y μ d ids M2 κ Ks pc lv (.int x :: st) I L := by
  intro p l e R s m args below meth c H locs D cI cL ad0 ad A ls C hM hn hE Wd hl hY
  refine lv_istore_n (i := i) (lv := trL ad lv) (lv' := trL ad lv') (rest := st.map (trV ad)) C.1 C.2.1 hd hi hl (Nat.le_of_ble_eq_true hn9) ?_ (fun ls2 hl2 => k p l e R s m args below meth c H locs D cI cL ad0 ad A ls2 C hM hn hE Wd hl2 hY)
  rw [trL_filter ad _ (fun j w => by dsimp only; rw [trV_cat]), ← hv]
  rfl
theorem en_astore_n {q : Fin 4} {i : Nat} {x : Nat} (hd : decode μ.2.1 pc = .ok (.astore_n q, 1)) (hi : (q : Nat) = i) (hn9 : Nat.blt i μ.2.2.1 = true) (hv : (i, Value.ref x) :: lv.filter (fun q => !(q.1 == i) && !(q.1 + 1 == i && q.2.category == 2)) = lv') (k : EvN Z Y μ d ids M2 κ Ks (pc + 1) lv' st I L) : EvN Z Y μ d ids M2 κ Ks pc lv (.ref x :: st) I L := by
  intro p l e R s m args below meth c H locs D cI cL ad0 ad A ls C hM hn hE Wd hl hY
  refine lv_astore_n (i := i) (lv := trL ad lv) (lv' := trL ad lv') (rest := st.map (trV ad)) C.1 C.2.1 hd hi hl (Nat.le_of_ble_eq_true hn9) ?_ (fun ls2 hl2 => k p l e R s m args below meth c H locs D cI cL ad0 ad A ls2 C hM hn hE Wd hl2 hY)
  rw [trL_filter ad _ (fun j w => by dsimp only; rw [trV_cat]), ← hv]
  rfl
theorem en_iinc {i : Nat} {n : Int} {x : Int32} (hd : decode μ.2.1 pc = .ok (.iinc i n, 3)) (j : Nat) (hj : lv[j]? = some (i, .int x)) (hn9 : Nat.blt i μ.2.2.1 = true) (y : Int32) (hy : x + Int32.ofInt n = y) (hv : (i, Value.int y) :: lv.filter (fun q => !(q.1 == i) && !(q.1 + 1 == i && q.2.category == 2)) = lv') (k : EvN Z Y μ d ids M2 κ Ks (pc + 3) lv' st I L) : EvN Z Y μ d ids M2 κ Ks pc lv st I L := by
  intro p l e R s m args below meth c H locs D cI cL ad0 ad A ls C hM hn hE Wd hl hY
  refine lv_iinc (i := i) (k := j) (lv := trL ad lv) (lv' := trL ad lv') (rest := st.map (trV ad)) C.1 C.2.1 hd hl (trL_get hj) hy (Nat.le_of_ble_eq_true hn9) ?_ (fun ls2 hl2 => k p l e R s m args below meth c H locs D cI cL ad0 ad A ls2 C hM hn hE Wd hl2 hY)
  rw [trL_filter ad _ (fun j w => by dsimp only; rw [trV_cat]), ← hv]
  rfl
theorem en_dup {w : Value} (hw : w.category = 1) (hd : decode μ.2.1 pc = .ok (.dup, 1)) (k : EvN Z Y μ d ids M2 κ Ks (pc + 1) lv (w :: w :: st) I L) : EvN Z Y μ d ids M2 κ Ks pc lv (w :: st) I L := by
  intro p l e R s m args below meth c H locs D cI cL ad0 ad A ls C hM hn hE Wd hl hY
  exact lv_dup C.1 C.2.1 (va := trV ad w) (rest := st.map (trV ad)) hd (by rw [trV_cat]; exact hw) (k p l e R s m args below meth c H locs D cI cL ad0 ad A ls C hM hn hE Wd hl hY)
theorem en_goto {off : Int} (tgt : Nat) (ht : (pc : Int) + off = (tgt : Int)) (hd : decode μ.2.1 pc = .ok (.goto off, 3)) (k : EvN Z Y μ d ids M2 κ Ks tgt lv st I L) : EvN Z Y μ d ids M2 κ Ks pc lv st I L := by
  intro p l e R s m args below meth c H locs D cI cL ad0 ad A ls C hM hn hE Wd hl hY
  exact lv_goto C.1 C.2.1 hd ht (k p l e R s m args below meth c H locs D cI cL ad0 ad A ls C hM hn hE Wd hl hY)
theorem en_icmp_ge {x y : Int32} {off : Int} (tgt : Nat) (ht : (pc : Int) + off = (tgt : Int)) (hd : decode μ.2.1 pc = .ok (.if_icmp .ge off, 3)) (kt : y ≤ x → EvN Z Y μ d ids M2 κ Ks tgt lv st I L) (kf : ¬ y ≤ x → EvN Z Y μ d ids M2 κ Ks (pc + 3) lv st I L) : EvN Z Y μ d ids M2 κ Ks pc lv (.int y :: .int x :: st) I L := by
  intro p l e R s m args below meth c H locs D cI cL ad0 ad A ls C hM hn hE Wd hl hY
  exact lv_icmp_ge C.1 C.2.1 (x := x) (y := y) (rest := st.map (trV ad)) hd ht (fun hc => kt hc p l e R s m args below meth c H locs D cI cL ad0 ad A ls C hM hn hE Wd hl hY) (fun hc => kf hc p l e R s m args below meth c H locs D cI cL ad0 ad A ls C hM hn hE Wd hl hY)
theorem en_alen {c0 n j0 : Nat} (x : Int32) (hx : Int32.ofNat n = x) (hK : Ks[j0]? = some (c0, 0, n, [])) (hd : decode μ.2.1 pc = .ok (.arraylength, 1)) (k : EvN Z Y μ d ids M2 κ Ks (pc + 1) lv (.int x :: st) I L) : EvN Z Y μ d ids M2 κ Ks pc lv (.ref c0 :: st) I L := by
  intro p l e R s m args below meth c H locs D cI cL ad0 ad A ls C hM hn hE Wd hl hY
  exact va_alen C.1 C.2.1 Wd.1 Wd.2.1 j0 0 (wsD_get hK) rfl hx hd (k p l e R s m args below meth c H locs D cI cL ad0 ad A ls C hM hn hE Wd hl hY)
theorem en_iast {c0 n : Nat} {i x : Int32} (j0 : Nat) (hK : Ks[j0]? = some (c0, 0, n, [])) (hne : ∀ z ∈ Ks.eraseIdx j0, z.1 ≠ c0) (hin : vp_in i n) (hKs : Ks.set j0 (c0, 0, n, []) = Ks) (hd : decode μ.2.1 pc = .ok (.iastore, 1)) (k : EvN Z Y μ d ids M2 κ Ks (pc + 1) lv st (uI I c0 i.toNatClampNeg x) L) : EvN Z Y μ d ids M2 κ Ks pc lv (.int x :: .int i :: .ref c0 :: st) I L := by
  intro p l e R s m args below meth c H locs D cI cL ad0 ad A ls C hM hn hE Wd hl hY
  refine va_iast C.1 C.2.1 Wd.1 Wd.2.1 Wd.2.2.1 Wd.2.2.2.1 j0 0 (wsD_get hK) rfl hin hd (fun H1 locs1 hP hD hS => ?_)
  have e9 : (wsD cI cL ad I L Ks).set j0 (ad c0, .inl (cI, n, .inl (upd (I c0) i.toNatClampNeg x))) = wsD cI cL ad (uI I c0 i.toNatClampNeg x) L Ks := by
    have h9 := wsD_set (cI := cI) (cL := cL) (ad := ad) (I := I) (I' := uI I c0 i.toNatClampNeg x) (L := L) (L' := L) (q' := (0, n, [])) hK hne (fun a h => (uI_o h).symm) (fun _ _ => rfl)
    rw [hKs] at h9
    rw [← h9]
    show _ = (wsD cI cL ad I L Ks).set j0 (ad c0, .inl (cI, n, .inl (uI I c0 i.toNatClampNeg x c0)))
    rw [uI_c]
  rw [e9] at hP hD
  exact k p l e R s m args below meth c H1 locs1 D cI cL ad0 ad A ls C hM hn hE ⟨Wd.1, hP, hD, hS, Wd.2.2.2.2⟩ hl hY
theorem en_getR {c0 ci z k9 ix N r9 : Nat} {C9 : String} {T9 : u_T} {fs : List Nat} (j0 : Nat) (hc : vwCl[ci]? = some (C9, T9, N)) (hin : ∀ w ∈ u_ws C9 T9 N, w ∈ WL) (hk : k9 < N) (hlink : Cond.fieldLink μ.1.cls ix (T9 k9).1 (T9 k9).2.1 (T9 k9).2.2.1 ∈ WL) (hK : Ks[j0]? = some (c0, ci + 2, z, fs)) (hx : fs[k9]? = some (r9 + 3)) (hd : decode μ.2.1 pc = .ok (.getfield ix, 3)) (k : EvN Z Y μ d ids M2 κ Ks (pc + 3) lv (.ref r9 :: st) I L) : EvN Z Y μ d ids M2 κ Ks pc lv (.ref c0 :: st) I L := by
  intro p l e R s m args below meth c H locs D cI cL ad0 ad A ls C hM hn hE Wd hl hY
  refine va_get C.1 C.2.1 (a := ad c0) (rest := st.map (trV ad)) C.2.2.2.2.1 hin C.2.2.2.2.2.1 Wd.1 Wd.2.1 j0 (wsD_get hK) hc k9 hk (C.2.2.2.2.1 _ hlink) (fun _ h => h) (v := .ref (ad r9)) ?_ hd (k p l e R s m args below meth c H locs D cI cL ad0 ad A ls C hM hn hE Wd hl hY)
  rw [fvs_get, hx, Nat.zero_add]
  rfl
theorem en_putR {c0 ci z k9 ix N r9 : Nat} {C9 : String} {T9 : u_T} {fs : List Nat} {Ks' : KS} (j0 : Nat) (ty0 : Nat → FieldType) (hc : vwCl[ci]? = some (C9, T9, N)) (hin : ∀ w ∈ u_ws C9 T9 N, w ∈ WL) (hty : ∀ k, k < N → parseFieldDescriptor (T9 k).2.2.1 = some (ty0 k)) (hnm : ∀ a, a < N → ∀ b, b < N → a ≠ b → (T9 a).2.1 ≠ (T9 b).2.1) (hk : k9 < N) (hlink : Cond.fieldLink μ.1.cls ix (T9 k9).1 (T9 k9).2.1 (T9 k9).2.2.1 ∈ WL) (hfin : (T9 k9).2.2.2 = true) (hini : μ.1.name = "<init>") (hdecl : (T9 k9).1 = μ.1.cls) (hK : Ks[j0]? = some (c0, ci + 2, z, fs)) (hl9 : k9 < fs.length) (hn9 : ∀ a, narrow (ty0 k9) (.ref a) = .ref a) (hf : ∀ a, fits (ty0 k9) (.ref a) = true) (hne : ∀ z ∈ Ks.eraseIdx j0, z.1 ≠ c0) (hKs : Ks.set j0 (c0, ci + 2, z, fs.set k9 (r9 + 3)) = Ks')
    (hd : decode μ.2.1 pc = .ok (.putfield ix, 3)) (k : EvN Z Y μ d ids M2 κ Ks' (pc + 3) lv st I L) : EvN Z Y μ d ids M2 κ Ks pc lv (.ref r9 :: .ref c0 :: st) I L := by
  intro p l e R s m args below meth c H locs D cI cL ad0 ad A ls C hM hn hE Wd hl hY
  refine va_putF C.1 C.2.1 (a := ad c0) (rest := st.map (trV ad)) C.2.2.2.2.1 hin ty0 hty hnm C.2.2.2.2.2.1 Wd.1 Wd.2.1 Wd.2.2.1 Wd.2.2.2.1 j0 (wsD_get hK) hc k9 hk (C.2.2.2.2.1 _ hlink) (fun _ h => h) hfin (hn.trans hini) hdecl (v := .ref (ad r9)) (hty k9 hk) (hn9 _) (hf _) (by rw [fvs_len]; exact hl9) hd (fun H1 locs1 hP hD hS => ?_)
  have e9 : (wsD cI cL ad I L Ks).set j0 (ad c0, .inr (ci, (fvs ad I L c0 0 fs).set k9 (.ref (ad r9)))) = wsD cI cL ad I L Ks' := by
    rw [← hKs, ← wsD_set (q := (ci + 2, z, fs)) hK hne (fun _ _ => rfl) (fun _ _ => rfl)]
    have h9 := fvs_setR (ad := ad) (I := I) (L := L) (c := c0) (i := k9) (x := r9 + 3) (xs := fs)
    show _ = (wsD cI cL ad I L Ks).set j0 (ad c0, .inr (ci, fvs ad I L c0 0 (fs.set k9 (r9 + 3))))
    rw [← h9]
    rfl
  rw [e9] at hP hD
  exact k p l e R s m args below meth c H1 locs1 D cI cL ad0 ad A ls C hM hn hE ⟨Wd.1, hP, hD, hS, Wd.2.2.2.2⟩ hl hY
theorem en_putI {c0 ci z k9 ix N : Nat} {C9 : String} {T9 : u_T} {fs : List Nat} {x : Int32} (j0 : Nat) (ty0 : Nat → FieldType) (hc : vwCl[ci]? = some (C9, T9, N)) (hin : ∀ w ∈ u_ws C9 T9 N, w ∈ WL) (hty : ∀ k, k < N → parseFieldDescriptor (T9 k).2.2.1 = some (ty0 k)) (hnm : ∀ a, a < N → ∀ b, b < N → a ≠ b → (T9 a).2.1 ≠ (T9 b).2.1) (hk : k9 < N) (hlink : Cond.fieldLink μ.1.cls ix (T9 k9).1 (T9 k9).2.1 (T9 k9).2.2.1 ∈ WL) (hfin : (T9 k9).2.2.2 = false) (hK : Ks[j0]? = some (c0, ci + 2, z, fs)) (hx : fs[k9]? = some 0) (hn9 : narrow (ty0 k9) (.int x) = .int x) (hf : fits (ty0 k9) (.int x) = true) (hne : ∀ z ∈ Ks.eraseIdx j0, z.1 ≠ c0) (hKs : Ks.set j0 (c0, ci + 2, z, fs) = Ks)
    (hd : decode μ.2.1 pc = .ok (.putfield ix, 3)) (k : EvN Z Y μ d ids M2 κ Ks (pc + 3) lv st (uI I c0 k9 x) L) : EvN Z Y μ d ids M2 κ Ks pc lv (.int x :: .ref c0 :: st) I L := by
  intro p l e R s m args below meth c H locs D cI cL ad0 ad A ls C hM hn hE Wd hl hY
  refine va_put C.1 C.2.1 (a := ad c0) (rest := st.map (trV ad)) C.2.2.2.2.1 hin ty0 hty hnm C.2.2.2.2.2.1 Wd.1 Wd.2.1 Wd.2.2.1 Wd.2.2.2.1 j0 (wsD_get hK) hc k9 hk (C.2.2.2.2.1 _ hlink) (fun _ h => h) hfin (v := .int x) (hty k9 hk) hn9 hf (by rw [fvs_len]; exact (List.getElem?_eq_some_iff.mp hx).1) hd (fun H1 locs1 hP hD hS => ?_)
  have e9 : (wsD cI cL ad I L Ks).set j0 (ad c0, .inr (ci, (fvs ad I L c0 0 fs).set k9 (.int x))) = wsD cI cL ad (uI I c0 k9 x) L Ks := by
    have h9 := wsD_set (cI := cI) (cL := cL) (ad := ad) (I := I) (I' := uI I c0 k9 x) (L := L) (L' := L) (q' := (ci + 2, z, fs)) hK hne (fun a h => (uI_o h).symm) (fun _ _ => rfl)
    rw [hKs] at h9
    rw [← h9, fvs_setI hx]
    rfl
  rw [e9] at hP hD
  exact k p l e R s m args below meth c H1 locs1 D cI cL ad0 ad A ls C hM hn hE ⟨Wd.1, hP, hD, hS, Wd.2.2.2.2⟩ hl hY
theorem upN_ws {cI cL : ClassId} {ad : Nat → Nat} {c0 q : Nat} (h : c0 ∉ idsK Ks) : wsD cI cL (upN ad c0 q) I L Ks = wsD cI cL ad I L Ks := wsD_congr (fun x hx => upN_o (fun e => h (e ▸ hx)))
theorem en_new {ci ix N : Nat} {C9 : String} {T9 : u_T} (c0 : Nat) (fs : List Nat) (ty0 : Nat → FieldType) (hc : vwCl[ci]? = some (C9, T9, N)) (hin : ∀ w ∈ u_ws C9 T9 N, w ∈ WL) (hty : ∀ k, k < N → parseFieldDescriptor (T9 k).2.2.1 = some (ty0 k)) (hcl : Cond.classLink μ.1.cls ix C9 ∈ WL) (hinst : Cond.instantiable C9 N ∈ WL) (hini : Cond.initialized C9 ∈ WL) (hfs : ∀ (ad : Nat → Nat) (j : Nat), j < N → defaultValue (ty0 j) = vp_V (fvs ad I L c0 0 fs) j)
    (h1 : c0 ∉ idsK Ks) (h2 : c0 ∉ rfV (lv.map Prod.snd)) (h3 : c0 ∉ rfV st) (h4 : c0 ∉ ids) (h5 : c0 ∉ rfs fs) (hm : κ.1 + 1 ≤ M2.1 ∧ κ.2 + N ≤ M2.2) (hd : decode μ.2.1 pc = .ok (.new ix, 3)) (k : EvN Z Y μ d ids M2 (κ.1 + 1, κ.2 + N) (Ks ++ [(c0, ci + 2, 0, fs)]) (pc + 3) lv (.ref c0 :: st) I L) : EvN Z Y μ d ids M2 κ Ks pc lv st I L := by
  intro p l e R s m args below meth c H locs D cI cL ad0 ad A ls C hM hn hE Wd hl hY
  refine va_new (ci := ci) (fs := fvs ad I L c0 0 fs) C.1 C.2.1 C.2.2.2.2.1 hin ty0 hty C.2.2.2.2.2.1 (C.2.2.2.2.1 _ hcl) (C.2.2.2.2.1 _ hinst) (C.2.2.2.2.1 _ hini) Wd.1 Wd.2.1 Wd.2.2.1 Wd.2.2.2.1 Wd.2.2.2.2 hc (hfs ad) (Nat.le_trans hm.1 hM.1) (Nat.le_trans hm.2 hM.2) hd (fun q H1 hP hD hS => ?_)
  have e9 : wsD cI cL ad I L Ks ++ [(q, .inr (ci, fvs ad I L c0 0 fs))] = wsD cI cL (upN ad c0 q) I L (Ks ++ [(c0, ci + 2, 0, fs)]) := by
    have h9 : wsD cI cL (upN ad c0 q) I L (Ks ++ [(c0, ci + 2, 0, fs)]) = wsD cI cL (upN ad c0 q) I L Ks ++ [(upN ad c0 q c0, .inr (ci, fvs (upN ad c0 q) I L c0 0 fs))] := by
      unfold wsD; rw [List.map_append]; rfl
    rw [h9, upN_ws h1, upN_c, fvs_cong (ad := upN ad c0 q) (ad' := ad) (fun x hx => upN_o (fun e => h5 (e ▸ hx)))]
  rw [e9] at hP hD
  have hst : Value.ref q :: st.map (trV ad) = (Value.ref c0 :: st).map (trV (upN ad c0 q)) := by
    rw [List.map_cons, trV_congr (ad := upN ad c0 q) (ad' := ad) (fun x hx => upN_o (fun e => h3 (e ▸ hx)))]
    show _ = Value.ref (upN ad c0 q c0) :: _
    rw [upN_c]
  have hlv : trL ad lv = trL (upN ad c0 q) lv := (trL_congr (ad := upN ad c0 q) (ad' := ad) (fun x hx => upN_o (fun e : x = c0 => h2 (e ▸ hx)))).symm
  rw [hst]
  rw [hlv] at hl
  exact k p l e R s m args below meth c H1 locs D cI cL ad0 (upN ad c0 q) A ls C hM hn (fun x hx => (upN_o (fun e : x = c0 => h4 (e ▸ hx))).trans (hE x hx)) ⟨Wd.1, hP, hD, hS, Wd.2.2.2.2⟩ hl hY
theorem en_newaI {x : Int32} (c0 n : Nat) (hz : I c0 = fun _ => 0) (harr : Cond.arrayClass (newarray.typeOf .int) ∈ WL) (hx0 : ¬ x < 0) (hx : x.toNatClampNeg = n) (hb9 : n * componentBytes .int ≤ 536870912) (h1 : c0 ∉ idsK Ks) (h2 : c0 ∉ rfV (lv.map Prod.snd)) (h3 : c0 ∉ rfV st) (h4 : c0 ∉ ids) (hm : κ.1 + 1 ≤ M2.1 ∧ κ.2 + n ≤ M2.2) (hd : decode μ.2.1 pc = .ok (.newarray .int, 2)) (k : EvN Z Y μ d ids M2 (κ.1 + 1, κ.2 + n) (Ks ++ [(c0, 0, n, [])]) (pc + 2) lv (.ref c0 :: st) I L) : EvN Z Y μ d ids M2 κ Ks pc lv (.int x :: st) I L := by
  intro p l e R s m args below meth c H locs D cI cL ad0 ad A ls C hM hn hE Wd hl hY
  refine va_newa (atype := .int) (ty := .int) (a0 := (n, .inl (I c0))) C.1 C.2.1 (C.2.2.2.2.1 _ harr) rfl Wd.1 Wd.2.1 Wd.2.2.1 Wd.2.2.2.1 Wd.2.2.2.2 (fun cA => by rw [hz]; rfl) hx0 hx hb9 (Nat.le_trans hm.1 hM.1) (Nat.le_trans hm.2 hM.2) hd (fun q cA H1 hK hP hD hS => ?_)
  have hcA : cA = cI := by
    have g1 : va_RA s cA .int := (hK.2 2 (cA, .int) rfl).2
    have g2 : va_RA s cI .int := (Wd.1.2 0 (cI, .int) rfl).2
    exact Option.some.inj (g1.symm.trans g2)
  rw [hcA] at hP hD
  have e9 : wsD cI cL ad I L Ks ++ [(q, .inl (cI, n, .inl (I c0)))] = wsD cI cL (upN ad c0 q) I L (Ks ++ [(c0, 0, n, [])]) := by
    have h9 : wsD cI cL (upN ad c0 q) I L (Ks ++ [(c0, 0, n, [])]) = wsD cI cL (upN ad c0 q) I L Ks ++ [(upN ad c0 q c0, .inl (cI, n, .inl (I c0)))] := by
      unfold wsD; rw [List.map_append]; rfl
    rw [h9, upN_ws h1, upN_c]
  rw [e9] at hP hD
  have hst : Value.ref q :: st.map (trV ad) = (Value.ref c0 :: st).map (trV (upN ad c0 q)) := by
    rw [List.map_cons, trV_congr (ad := upN ad c0 q) (ad' := ad) (fun x hx => upN_o (fun e => h3 (e ▸ hx)))]
    show _ = Value.ref (upN ad c0 q c0) :: _
    rw [upN_c]
  have hlv : trL ad lv = trL (upN ad c0 q) lv := (trL_congr (ad := upN ad c0 q) (ad' := ad) (fun x hx => upN_o (fun e : x = c0 => h2 (e ▸ hx)))).symm
  rw [hst]
  rw [hlv] at hl
  exact k p l e R s m args below meth c H1 locs D cI cL ad0 (upN ad c0 q) A ls C hM hn (fun x hx => (upN_o (fun e : x = c0 => h4 (e ▸ hx))).trans (hE x hx)) ⟨Wd.1, hP, hD, hS, Wd.2.2.2.2⟩ hl hY
theorem en_newaL {x : Int32} (c0 n : Nat) (hz : L c0 = fun _ => 0) (harr : Cond.arrayClass (newarray.typeOf .long) ∈ WL) (hx0 : ¬ x < 0) (hx : x.toNatClampNeg = n) (hb9 : n * componentBytes .long ≤ 536870912) (h1 : c0 ∉ idsK Ks) (h2 : c0 ∉ rfV (lv.map Prod.snd)) (h3 : c0 ∉ rfV st) (h4 : c0 ∉ ids) (hm : κ.1 + 1 ≤ M2.1 ∧ κ.2 + n ≤ M2.2) (hd : decode μ.2.1 pc = .ok (.newarray .long, 2)) (k : EvN Z Y μ d ids M2 (κ.1 + 1, κ.2 + n) (Ks ++ [(c0, 1, n, [])]) (pc + 2) lv (.ref c0 :: st) I L) : EvN Z Y μ d ids M2 κ Ks pc lv (.int x :: st) I L := by
  intro p l e R s m args below meth c H locs D cI cL ad0 ad A ls C hM hn hE Wd hl hY
  refine va_newa (atype := .long) (ty := .long) (a0 := (n, .inr (.inl (L c0)))) C.1 C.2.1 (C.2.2.2.2.1 _ harr) rfl Wd.1 Wd.2.1 Wd.2.2.1 Wd.2.2.2.1 Wd.2.2.2.2 (fun cA => by rw [hz]; rfl) hx0 hx hb9 (Nat.le_trans hm.1 hM.1) (Nat.le_trans hm.2 hM.2) hd (fun q cA H1 hK hP hD hS => ?_)
  have hcA : cA = cL := by
    have g1 : va_RA s cA .long := (hK.2 2 (cA, .long) rfl).2
    have g2 : va_RA s cL .long := (Wd.1.2 1 (cL, .long) rfl).2
    exact Option.some.inj (g1.symm.trans g2)
  rw [hcA] at hP hD
  have e9 : wsD cI cL ad I L Ks ++ [(q, .inl (cL, n, .inr (.inl (L c0))))] = wsD cI cL (upN ad c0 q) I L (Ks ++ [(c0, 1, n, [])]) := by
    have h9 : wsD cI cL (upN ad c0 q) I L (Ks ++ [(c0, 1, n, [])]) = wsD cI cL (upN ad c0 q) I L Ks ++ [(upN ad c0 q c0, .inl (cL, n, .inr (.inl (L c0))))] := by
      unfold wsD; rw [List.map_append]; rfl
    rw [h9, upN_ws h1, upN_c]
  rw [e9] at hP hD
  have hst : Value.ref q :: st.map (trV ad) = (Value.ref c0 :: st).map (trV (upN ad c0 q)) := by
    rw [List.map_cons, trV_congr (ad := upN ad c0 q) (ad' := ad) (fun x hx => upN_o (fun e => h3 (e ▸ hx)))]
    show _ = Value.ref (upN ad c0 q c0) :: _
    rw [upN_c]
  have hlv : trL ad lv = trL (upN ad c0 q) lv := (trL_congr (ad := upN ad c0 q) (ad' := ad) (fun x hx => upN_o (fun e : x = c0 => h2 (e ▸ hx)))).symm
  rw [hst]
  rw [hlv] at hl
  exact k p l e R s m args below meth c H1 locs D cI cL ad0 (upN ad c0 q) A ls C hM hn (fun x hx => (upN_o (fun e : x = c0 => h4 (e ▸ hx))).trans (hE x hx)) ⟨Wd.1, hP, hD, hS, Wd.2.2.2.2⟩ hl hY
theorem en_objInit {c0 ix : Nat} (hlink : Cond.methodLink μ.1.cls ix Lib.objectInit ∈ WL) (hinst : Cond.instanceMethod Lib.objectInit ∈ WL) (hcode : Cond.code Lib.objectInit ⟨#[0xb1]⟩ 1 none ∈ WL) (hcat : (st.map fun v => v.category).sum ≤ 8) (hd : decode μ.2.1 pc = .ok (.invokespecial ix, 3)) (k : EvN Z Y μ (d + 1) ids M2 κ Ks (pc + 3) lv st I L) : EvN Z Y μ (d + 1) ids M2 κ Ks pc lv (.ref c0 :: st) I L := by
  intro p l e R s m args below meth c H locs D cI cL ad0 ad A ls C hM hn hE Wd hl hY
  have hcat2 : ((st.map (trV ad)).map fun v => v.category).sum ≤ 8 := by rw [tr_cats]; exact hcat
  have hR := C.2.2.2.2.2.2.2
  exact W.objInit C.1 C.2.1 C.2.2.2.2.2.1 (C.2.2.2.2.1 _ hlink) (C.2.2.2.2.1 _ hinst) (C.2.2.2.2.1 _ hcode) (g := F0 m pc ls (.ref (ad c0) :: st.map (trV ad))) rfl (by rw [C.2.2.1]; exact hl.1) rfl hd (by have := hR.1; omega) (by have := hR.2; show 2 * 0 + _ + 12 ≤ _; omega) (k p l e R s m args below meth c H locs D cI cL ad0 ad A ls C hM hn hE Wd hl hY)
theorem en_ret {Ks' : KS} {I' : PI} {L' : PL} (hK : Ks = Ks') (hI : I = I') (hL : L = L') (hk : κ = M2) (hr : μ.2.2.2 = none) (hd : decode μ.2.1 pc = .ok (.return_, 1)) : EvN (Zct Ks' I' L' ids M2) Y μ d ids M2 κ Ks pc lv [] I L := by
  subst hK; subst hI; subst hL; subst hk
  intro p l e R s m args below meth c H locs D cI cL ad0 ad A ls C hM hn hE Wd hl hY
  exact W.vret C.1 C.2.1 (C.2.2.2.1.trans hr) (fun t ht hW => ⟨⟨rfl, ad, hE, by rw [ht]; exact Wd.2.1, va_K.moved hW.alike Wd.1, Wd.2.2.1⟩, Wd.2.2.2.1.F ht⟩) Wd.2.2.2.1.2.2 hd (hlocks := C.2.2.2.2.2.2.1)
end EN
def adJ (nw : List Nat) (ad ad1 : Nat → Nat) : Nat → Nat := fun c => if c ∈ nw then ad1 c else ad c
theorem adJ_o {nw : List Nat} {ad ad1 : Nat → Nat} {c : Nat} (h : c ∉ nw) : adJ nw ad ad1 c = ad c := by unfold adJ; rw [if_neg h]
theorem adJ_i {nw : List Nat} {ad ad1 : Nat → Nat} {c : Nat} (h : c ∈ nw) : adJ nw ad ad1 c = ad1 c := by unfold adJ; rw [if_pos h]
def CalI (ν : MI) (n : Nat) : Prop := Cond.instanceMethod ν.1 ∈ WL ∧ Cond.initialized ν.1.cls ∈ WL ∧ Cond.code ν.1 ν.2.1 ν.2.2.1 none ∈ WL ∧ ν.1.name = "<init>" ∧ (ν.1.cls ≠ "java/lang/invoke/MethodHandle" ∧ ν.1.cls ≠ "java/lang/invoke/VarHandle" ∧ (parseMethodDescriptor ν.1.desc).map (fun d => d.parameters.length) = some n) ∧ ν.2.2.1 ≤ 41 ∧ ν.2.2.2 = none
section ENC
variable {Z : ZN} {Y : YTy} {μ ν : MI} {d pc ix n : Nat} {ids idsC nw : List Nat} {M2 N2 κ : Nat × Nat} {Ks Kr Kc Kc' Ks' : KS} {lv : List (Nat × Value)} {st stk As : List Value} {I I' : PI} {L L' : PL}
theorem en_after {p : Program} {l : Launch} {e : Env} {R : Room} {s : State} {m : MethodId} {args : Array Value} {below : List Frame} {meth : Method} {c : Code} {H : Heap} {locs : List Loc} {D : va_G} {cI cL : ClassId} {ad0 ad : Nat → Nat} {A : Nat → Prop} {ls : Array Slot} {av : Array Value} {Q : State → Prop} (isC isR : List Nat) (hC : isC.map (fun i => Ks[i]?) = Kc.map some) (hR : isR.map (fun i => Ks[i]?) = Kr.map some) (hnd : va_nd isR = true) (hdis : ∀ i ∈ isR, i ∉ isC)
    (hKs : Kr ++ Kc' = Ks') (hkeep : ∀ q ∈ Kr, I' q.1 = I q.1 ∧ L' q.1 = L q.1) (h1 : ∀ x ∈ idsK Kc', x ∈ nw ∨ x ∈ idsC) (h2 : ∀ x ∈ idsK Kr, x ∉ nw) (h3 : ∀ x ∈ rfV (lv.map Prod.snd), x ∉ nw) (h4 : ∀ x ∈ rfV st, x ∉ nw) (h5 : ∀ x ∈ ids, x ∉ nw)
    (hE : ∀ c ∈ ids, ad c = ad0 c) (Wd : WldN D cI cL ad A I L Ks s H locs) (hl : lv_has ls μ.2.2.1 (trL ad lv)) (hr : va_Run p l e R s m args below meth c H locs κ.1 κ.2 N2.1 N2.2 (F0 m pc ls stk) (st.map (trV ad)) (QN Kc' I' L' idsC ad D cI cL (va_A (wsD cI cL ad I L Kc) H.size) av) (va_A (wsD cI cL ad I L Kc) H.size))
    (kk : ∀ (H1 : Heap) (locs1 : List Loc) (ad2 : Nat → Nat), (∀ c ∈ ids, ad2 c = ad0 c) → WldN D cI cL ad2 A I' L' Ks' s H1 locs1 → lv_has ls μ.2.2.1 (trL ad2 lv) → W p l e R s m args below meth c H1 locs1 (κ.1 + N2.1) (κ.2 + N2.2) Q (F0 m (pc + 3) ls (st.map (trV ad2)))) : W p l e R s m args below meth c H locs κ.1 κ.2 Q (F0 m pc ls stk) := by
  obtain ⟨wK, wP, wD, wS, wA⟩ := Wd
  have hCw : isC.map (fun i => (wsD cI cL ad I L Ks)[i]?) = (wsD cI cL ad I L Kc).map some := by
    have h9 := congrArg (List.map (Option.map (fun q : Nat × KC => (ad q.1, celE cI cL ad I L q.1 q.2)))) hC
    rw [List.map_map, List.map_map] at h9
    unfold wsD
    rw [List.map_map]
    refine Eq.trans (List.map_congr_left (fun i _ => ?_)) h9
    rw [List.getElem?_map]; rfl
  have hRw : isR.map (fun i => (wsD cI cL ad I L Ks)[i]?) = (wsD cI cL ad I L Kr).map some := by
    have h9 := congrArg (List.map (Option.map (fun q : Nat × KC => (ad q.1, celE cI cL ad I L q.1 q.2)))) hR
    rw [List.map_map, List.map_map] at h9
    unfold wsD
    rw [List.map_map]
    refine Eq.trans (List.map_congr_left (fun i _ => ?_)) h9
    rw [List.getElem?_map]; rfl
  have hF := va_free wD wS wA isC hCw
  intro T hT X
  obtain ⟨v, st₀, t, T', L9, h0, X', hL, e1, e2, ⟨⟨hv, ad1, hE1, hP1, hK1, hD1⟩, hz, hk⟩, stp⟩ := hr T hT X
  obtain rfl : v = none := Outcome.returned.inj hv
  rw [h0] at hz hk
  have a1 : ∀ x ∈ idsK Kc', adJ nw ad ad1 x = ad1 x := by
    intro x hx
    by_cases hn : x ∈ nw
    · exact adJ_i hn
    · rw [adJ_o hn]
      rcases h1 x hx with h | h
      · exact absurd h hn
      · exact (hE1 x h).symm
  have w1 : wsD cI cL (adJ nw ad ad1) I' L' Kc' = wsD cI cL ad1 I' L' Kc' := wsD_congr a1
  have w2 : wsD cI cL (adJ nw ad ad1) I' L' Kr = wsD cI cL ad I L Kr := by
    rw [wsD_congr (ad := adJ nw ad ad1) (ad' := ad) (fun x hx => adJ_o (h2 x hx))]
    unfold wsD
    refine List.map_congr_left (fun q hq => ?_)
    rw [celE_congr (hkeep q hq).1 (hkeep q hq).2]
  obtain ⟨jP, jD⟩ := va_join (H1 := T'.heap) wP wD isC isR hCw hRw hnd hdis (fun q q1 q2 => by rw [e1]; exact hk q q1 q2) hF (by rw [e1]; exact hP1) hD1
  have w3 : wsD cI cL ad I L Kr ++ wsD cI cL ad1 I' L' Kc' = wsD cI cL (adJ nw ad ad1) I' L' Ks' := by
    rw [← hKs, ← w1, ← w2]
    unfold wsD
    rw [List.map_append]
  rw [w3] at jP jD
  have hst : st.map (trV (adJ nw ad ad1)) = st.map (trV ad) := trV_congr (fun x hx => adJ_o (h4 x hx))
  have hlv : trL (adJ nw ad ad1) lv = trL ad lv := trL_congr (fun x hx => adJ_o (h3 x hx))
  obtain ⟨t2, b1, b2⟩ := kk T'.heap (locs ++ L9) (adJ nw ad ad1) (fun x hx => (adJ_o (h5 x hx)).trans (hE x hx)) ⟨wK, jP, jD, ⟨Nat.le_trans wS.1 (by rw [e1]; exact hz), fun q q1 q2 => by rw [e1, hk q (Nat.lt_of_lt_of_le q1 wS.1) (fun z => q2 (hF q z))]; exact wS.2.1 q q1 q2, fun q hq => by
    rcases List.mem_append.mp hq with h | h
    · exact wS.2.2 q h
    · exact hF _ (hL q h)⟩, wA⟩ (by rw [hlv]; exact hl) T' rfl X'
  rw [hst] at b1
  exact ⟨t2, stp t2 b1, b2⟩
theorem blindN {D : va_G} {cI cL : ClassId} {ad : Nat → Nat} {sz : Nat} {av : List Value} : FrameBlind (va_Pc av (fun U => U.heap.size = sz ∧ va_P D vwCl (wsD cI cL ad I L Kc) U.heap ∧ va_K D vwCl (TYS cI cL) U ∧ va_D (fun _ => True) (wsD cI cL ad I L Kc))) := by
  intro a U g mk q
  obtain ⟨q0, q1, qP, qK, qD⟩ := q
  exact ⟨q0, q1, qP, va_K.moved (u := U) (U := U.calling g mk a) (Vm.Alike.refl U.vm) qK, qD⟩
theorem en_ctor {c0 : Nat} (nw : List Nat) (isC isR : List Nat) (hC : isC.map (fun i => Ks[i]?) = Kc.map some) (hR : isR.map (fun i => Ks[i]?) = Kr.map some) (hndC : va_nd isC = true) (hnd : va_nd isR = true) (hdis : ∀ i ∈ isR, i ∉ isC) (hKs : Kr ++ Kc' = Ks') (hkeep : ∀ q ∈ Kr, I' q.1 = I q.1 ∧ L' q.1 = L q.1) (h1 : ∀ x ∈ idsK Kc', x ∈ nw ∨ x ∈ idsC) (h2 : ∀ x ∈ idsK Kr, x ∉ nw) (h3 : ∀ x ∈ rfV (lv.map Prod.snd), x ∉ nw) (h4 : ∀ x ∈ rfV st, x ∉ nw) (h5 : ∀ x ∈ ids, x ∉ nw) (hm2 : κ.1 + N2.1 ≤ M2.1 ∧ κ.2 + N2.2 ≤ M2.2) (hcat : (st.map fun v => v.category).sum ≤ 8) (cv : CalI ν n) (hn9 : As.length = n) (hlk9 : Cond.methodLink μ.1.cls ix ν.1 ∈ WL) (hst9 : stk = As.reverse ++ .ref c0 :: st) (hm : CtorOk ν d (.ref c0 :: As) idsC Kc I L Kc' I' L' N2) (hd : decode μ.2.1 pc = .ok (.invokespecial ix, 3)) (k : EvN Z Y μ (d + 1) ids M2 (κ.1 + N2.1, κ.2 + N2.2) Ks' (pc + 3) lv st I' L') : EvN Z Y μ (d + 1) ids M2 κ Ks pc lv stk I L := by
  intro p l e R s m args below meth c H locs D cI cL ad0 ad A ls C hM hn hE Wd hl hY
  have C9 := C
  obtain ⟨c1, c2, c3, c4, c5, c6, c7⟩ := cv
  obtain ⟨hx, hb, hml, hret, hts, hown, hlk, hfr, hlo⟩ := C
  have hMc := hm l D cI cL ad H.size
  have hro : ({ frames := d, cells := N2.1, slots := N2.2, locals := 60 * d } : Room).frames + 1 ≤ R.frames ∧ 8 + (ν.2.2.1 + 11) + ({ frames := d, cells := N2.1, slots := N2.2, locals := 60 * d } : Room).locals ≤ R.locals := ⟨hfr, by show 8 + (ν.2.2.1 + 11) + 60 * d ≤ R.locals; omega⟩
  have hP9 : va_P D vwCl (wsD cI cL ad I L Kc) H := by
    intro k9 q9 hk9
    have h9 := congrArg (fun z => z[k9]?) hC
    unfold wsD at hk9
    rw [List.getElem?_map] at hk9
    rw [List.getElem?_map, List.getElem?_map] at h9
    cases hq : Kc[k9]? with
    | none => rw [hq] at hk9; cases hk9
    | some z9 =>
      rw [hq] at hk9 h9
      cases hi : isC[k9]? with
      | none => rw [hi] at h9; cases h9
      | some i9 =>
        rw [hi] at h9
        have h8 : Ks[i9]? = some z9 := Option.some.inj h9
        have h7 := Wd.2.1 i9 (ad z9.1, celE cI cL ad I L z9.1 z9.2) (wsD_get h8)
        rw [← Option.some.inj hk9]
        exact h7
  have hD9 : va_D (fun _ => True) (wsD cI cL ad I L Kc) := by
    have hCw : isC.map (fun i => (wsD cI cL ad I L Ks)[i]?) = (wsD cI cL ad I L Kc).map some := by
      have h9 := congrArg (List.map (Option.map (fun q : Nat × KC => (ad q.1, celE cI cL ad I L q.1 q.2)))) hC
      rw [List.map_map, List.map_map] at h9
      unfold wsD
      rw [List.map_map]
      refine Eq.trans (List.map_congr_left (fun i _ => ?_)) h9
      rw [List.getElem?_map]; rfl
    exact (Wd.2.2.1.sub isC hndC hCw).weaken (fun _ _ _ _ => trivial)
  have hcode : Cond.code ν.1 ν.2.1 ν.2.2.1 ν.2.2.2 ∈ WL := by rw [c7]; exact c3
  have hstk : stk.map (trV ad) = (As.map (trV ad)).reverse ++ .ref (ad c0) :: st.map (trV ad) := by
    rw [hst9, List.map_append, List.map_reverse]
    rfl
  refine en_after (N2 := N2) isC isR hC hR hnd hdis hKs hkeep h1 h2 h3 h4 h5 hE Wd hl (va_runI (As := As.map (trV ad)) (rest := st.map (trV ad)) ⟨hx, hb, hml, hown, hts⟩ hMc (cwI n hts (good_tw hcode) (by unfold Tw; rw [c7]) rfl rfl (hts _ c2) (hts _ hlk9) (hts _ c1) c4 c5 hro) ⟨blindN, fun U hU hW => ⟨rfl, by rw [hU], by rw [hU]; exact hP9, va_K.moved hW.alike Wd.1, hD9⟩⟩ rfl (by rw [List.length_map]; exact hn9) hl.1 hstk (lv_room (by rw [tr_cats]; exact hcat)) hd ⟨Nat.le_trans hm2.1 hM.1, Nat.le_trans hm2.2 hM.2⟩) ?_
  intro H1 locs1 ad2 hE2 Wd2 hl2
  exact k p l e R s m args below meth c H1 locs1 D cI cL ad0 ad2 A ls C9 hM hn hE2 Wd2 hl2 hY
theorem en_stat (nw : List Nat) (isC isR : List Nat) (hC : isC.map (fun i => Ks[i]?) = Kc.map some) (hR : isR.map (fun i => Ks[i]?) = Kr.map some) (hndC : va_nd isC = true) (hnd : va_nd isR = true) (hdis : ∀ i ∈ isR, i ∉ isC) (hKs : Kr ++ Kc' = Ks') (hkeep : ∀ q ∈ Kr, I' q.1 = I q.1 ∧ L' q.1 = L q.1) (h1 : ∀ x ∈ idsK Kc', x ∈ nw ∨ x ∈ idsC) (h2 : ∀ x ∈ idsK Kr, x ∉ nw) (h3 : ∀ x ∈ rfV (lv.map Prod.snd), x ∉ nw) (h4 : ∀ x ∈ rfV st, x ∉ nw) (h5 : ∀ x ∈ ids, x ∉ nw) (hm2 : κ.1 + N2.1 ≤ M2.1 ∧ κ.2 + N2.2 ≤ M2.2) (hcat : (st.map fun v => v.category).sum ≤ 8) (cv : CalS ν n) (hn9 : As.length = n) (hlk9 : Cond.methodLink μ.1.cls ix ν.1 ∈ WL) (hst9 : stk = As.reverse ++ st) (hm : CtorOk ν d As idsC Kc I L Kc' I' L' N2) (hd : decode μ.2.1 pc = .ok (.invokestatic ix, 3)) (k : EvN Z Y μ (d + 1) ids M2 (κ.1 + N2.1, κ.2 + N2.2) Ks' (pc + 3) lv st I' L') : EvN Z Y μ (d + 1) ids M2 κ Ks pc lv stk I L := by
  intro p l e R s m args below meth c H locs D cI cL ad0 ad A ls C hM hn hE Wd hl hY
  have C9 := C
  obtain ⟨c1, c2, c3, c4, c5⟩ := cv
  have c6 := c5
  obtain ⟨hx, hb, hml, hret, hts, hown, hlk, hfr, hlo⟩ := C
  have hMc := hm l D cI cL ad H.size
  have hro : ({ frames := d, cells := N2.1, slots := N2.2, locals := 60 * d } : Room).frames + 1 ≤ R.frames ∧ 8 + (ν.2.2.1 + 11) + ({ frames := d, cells := N2.1, slots := N2.2, locals := 60 * d } : Room).locals ≤ R.locals := ⟨hfr, by show 8 + (ν.2.2.1 + 11) + 60 * d ≤ R.locals; omega⟩
  have hP9 : va_P D vwCl (wsD cI cL ad I L Kc) H := by
    intro k9 q9 hk9
    have h9 := congrArg (fun z => z[k9]?) hC
    unfold wsD at hk9
    rw [List.getElem?_map] at hk9
    rw [List.getElem?_map, List.getElem?_map] at h9
    cases hq : Kc[k9]? with
    | none => rw [hq] at hk9; cases hk9
    | some z9 =>
      rw [hq] at hk9 h9
      cases hi : isC[k9]? with
      | none => rw [hi] at h9; cases h9
      | some i9 =>
        rw [hi] at h9
        have h8 : Ks[i9]? = some z9 := Option.some.inj h9
        have h7 := Wd.2.1 i9 (ad z9.1, celE cI cL ad I L z9.1 z9.2) (wsD_get h8)
        rw [← Option.some.inj hk9]
        exact h7
  have hD9 : va_D (fun _ => True) (wsD cI cL ad I L Kc) := by
    have hCw : isC.map (fun i => (wsD cI cL ad I L Ks)[i]?) = (wsD cI cL ad I L Kc).map some := by
      have h9 := congrArg (List.map (Option.map (fun q : Nat × KC => (ad q.1, celE cI cL ad I L q.1 q.2)))) hC
      rw [List.map_map, List.map_map] at h9
      unfold wsD
      rw [List.map_map]
      refine Eq.trans (List.map_congr_left (fun i _ => ?_)) h9
      rw [List.getElem?_map]; rfl
    exact (Wd.2.2.1.sub isC hndC hCw).weaken (fun _ _ _ _ => trivial)
  have hstk : stk.map (trV ad) = (As.map (trV ad)).reverse ++ st.map (trV ad) := by
    rw [hst9, List.map_append, List.map_reverse]
  refine en_after (N2 := N2) isC isR hC hR hnd hdis hKs hkeep h1 h2 h3 h4 h5 hE Wd hl (va_runS (As := As.map (trV ad)) (rest := st.map (trV ad)) ⟨hx, hb, hml, hown, hts⟩ hMc ⟨callB_of n hts (good_tw c3) rfl rfl rfl (hts _ c2) (hts _ hlk9) c4 hro, hts _ c1⟩ ⟨blindN, fun U hU hW => ⟨rfl, by rw [hU], by rw [hU]; exact hP9, va_K.moved hW.alike Wd.1, hD9⟩⟩ rfl (by rw [List.length_map]; exact hn9) hl.1 hstk (lv_room (by rw [tr_cats]; exact hcat)) hd ⟨Nat.le_trans hm2.1 hM.1, Nat.le_trans hm2.2 hM.2⟩) ?_
  intro H1 locs1 ad2 hE2 Wd2 hl2
  exact k p l e R s m args below meth c H1 locs1 D cI cL ad0 ad2 A ls C9 hM hn hE2 Wd2 hl2 hY
end ENC
