/-- the words that every method takes with it: those of the tables that a callee may be given -/
def WL : List Cond := lw_tbl.filter goodWord
theorem wl_of {w : Cond} (h : w ∈ lw_tbl) (hg : goodWord w = true) : w ∈ WL := List.mem_filter.mpr ⟨h, hg⟩
abbrev PI : Type := Nat → Nat → Int32
abbrev PL : Type := Nat → Nat → Int64
abbrev KC : Type := Nat × Nat × List Nat
abbrev MI : Type := MethodName × ByteArray × Nat × Option FieldType
abbrev RES : Type := Option (Option Value × PI × PL)
/-- the layout: (0, n, _) an int array, (1, n, _) a long array, (k+2, _, fs) an object of class k: 0 an int field, 1 a long one, r+3 a reference to cell r -/
def K0 : List KC := [
  (2, 0, [38, 39, 40, 41, 0]),
  (3, 0, [6, 7, 26, 27, 0, 0, 0, 0]),
  (4, 0, [33, 34, 35, 0, 0, 0, 0]),
  (5, 0, [18, 19, 0]),
  (6, 0, [6, 10, 24, 25, 0, 0]),
  (7, 0, [5, 16, 36, 0]),
  (8, 0, [13, 20, 0]),
  (9, 0, [21, 22, 23, 0, 0]),
  (10, 0, [16, 28, 29, 30, 31, 32, 0, 0, 0]),
  (11, 0, [37, 0, 1]),
  (12, 0, [17, 0, 0]),
  (13, 0, [13, 6, 9, 10, 7, 4, 11, 5, 8, 12, 3, 16]),
  (14, 0, [0, 42, 0, 0, 0, 0, 43, 44, 45, 46, 47, 48, 49, 0, 0, 50, 51, 52, 53, 54, 55, 0, 0, 56, 0, 0, 0, 0, 0, 0, 0, 0, 0, 0, 0, 0, 0, 0, 57, 58, 59, 60, 61, 0, 0, 0, 62, 63, 64, 65, 0]),
  (0, 6, []),
  (0, 120, []),
  (0, 216, []),
  (0, 9, []),
  (0, 120, []),
  (0, 720, []),
  (0, 6, []),
  (0, 120, []),
  (0, 24, []),
  (0, 64, []),
  (0, 52, []),
  (0, 32, []),
  (0, 56, []),
  (0, 7, []),
  (0, 8, []),
  (0, 256, []),
  (1, 155, []),
  (0, 1240, []),
  (0, 31, []),
  (0, 40, []),
  (0, 16, []),
  (1, 9, []),
  (0, 8, []),
  (0, 8, []),
  (0, 8, []),
  (0, 8, []),
  (0, 120, []),
  (0, 1820, []),
  (0, 1820, []),
  (0, 7, []),
  (0, 7, []),
  (0, 630, []),
  (0, 630, []),
  (0, 630, []),
  (0, 4, []),
  (0, 80, []),
  (0, 216, []),
  (0, 9, []),
  (0, 56, []),
  (0, 7, []),
  (0, 24, []),
  (0, 8, []),
  (0, 41, []),
  (0, 1230, []),
  (0, 1230, []),
  (0, 41, []),
  (0, 16, []),
  (0, 8, []),
  (0, 8, []),
  (0, 8, []),
  (1, 1, [])]

def trV (ad : Nat → Nat) : Value → Value
  | .ref c => .ref (ad c)
  | v => v
theorem trV_cat (ad : Nat → Nat) (v : Value) : (trV ad v).category = v.category := by cases v <;> rfl
def trL (ad : Nat → Nat) (lv : List (Nat × Value)) : List (Nat × Value) := lv.map (fun q => (q.1, trV ad q.2))
theorem trL_get {ad : Nat → Nat} {lv : List (Nat × Value)} {k i : Nat} {v : Value} (h : lv[k]? = some (i, v)) : (trL ad lv)[k]? = some (i, trV ad v) := by
  unfold trL; rw [List.getElem?_map, h]; rfl
theorem trL_filter (ad : Nat → Nat) (P : Nat × Value → Bool) (hP : ∀ (i : Nat) (v : Value), P (i, trV ad v) = P (i, v)) : ∀ lv : List (Nat × Value), (trL ad lv).filter P = trL ad (lv.filter P)
  | [] => rfl
  | (i, v) :: t => by
    have ih := trL_filter ad P hP t
    unfold trL at ih ⊢
    rw [List.map_cons]
    cases hb : P (i, v) with
    | true => rw [List.filter_cons_of_pos (by rw [hP]; exact hb), List.filter_cons_of_pos hb, List.map_cons, ih]
    | false => rw [List.filter_cons_of_neg (by rw [hP, hb]; decide), List.filter_cons_of_neg (by rw [hb]; decide), ih]
theorem trL_args (ad : Nat → Nat) : ∀ (As : List Value) (i : Nat), lv_args i (As.map (trV ad)) = trL ad (lv_args i As)
  | [], _ => rfl
  | v :: t, i => by
    rw [List.map_cons]
    unfold lv_args
    rw [trV_cat, trL_args ad t]
    rfl
theorem tr_cats (ad : Nat → Nat) : ∀ st : List Value, ((st.map (trV ad)).map fun v => v.category) = st.map fun v => v.category
  | [] => rfl
  | v :: t => by rw [List.map_cons, List.map_cons, List.map_cons, tr_cats ad t, trV_cat]
theorem lg_len (ad : Nat → Nat) : ∀ As : List Value, (lg_sl (As.map (trV ad))).length = (lg_sl As).length
  | [] => rfl
  | v :: t => by
    have ih := lg_len ad t
    unfold lg_sl at ih ⊢
    rw [List.map_cons, List.flatMap_cons, List.flatMap_cons, List.length_append, List.length_append, ih, trV_cat]
    split <;> rfl
def fvV (ad : Nat → Nat) (I : PI) (L : PL) (c k : Nat) : Nat → Value
  | 0 => .int (I c k)
  | 1 => .long (L c k)
  | 2 => .null
  | r + 3 => .ref (ad r)
def fvs (ad : Nat → Nat) (I : PI) (L : PL) (c : Nat) : Nat → List Nat → List Value
  | _, [] => []
  | k, x :: xs => fvV ad I L c k x :: fvs ad I L c (k + 1) xs
def celE (cI cL : ClassId) (ad : Nat → Nat) (I : PI) (L : PL) (c : Nat) (q : KC) : va_E :=
  match q.1 with
  | 0 => .inl (cI, q.2.1, .inl (I c))
  | 1 => .inl (cL, q.2.1, .inr (.inl (L c)))
  | k + 2 => .inr (k, fvs ad I L c 0 q.2.2)
def wsF (cI cL : ClassId) (ad : Nat → Nat) (I : PI) (L : PL) : Nat → List KC → va_W
  | _, [] => []
  | c, q :: qs => (ad c, celE cI cL ad I L c q) :: wsF cI cL ad I L (c + 1) qs
theorem fvs_get (ad : Nat → Nat) (I : PI) (L : PL) (c : Nat) : ∀ (xs : List Nat) (k i : Nat), (fvs ad I L c k xs)[i]? = (xs[i]?).map (fun x => fvV ad I L c (k + i) x)
  | [], k, i => by simp [fvs]
  | x :: xs, k, 0 => by simp [fvs]
  | x :: xs, k, i + 1 => by
    have h := fvs_get ad I L c xs (k + 1) i
    unfold fvs
    rw [List.getElem?_cons_succ, List.getElem?_cons_succ, h, show k + 1 + i = k + (i + 1) by omega]
theorem fvs_len (ad : Nat → Nat) (I : PI) (L : PL) (c : Nat) : ∀ (xs : List Nat) (k : Nat), (fvs ad I L c k xs).length = xs.length
  | [], _ => rfl
  | x :: xs, k => by unfold fvs; rw [List.length_cons, List.length_cons, fvs_len ad I L c xs]
theorem wsF_get (cI cL : ClassId) (ad : Nat → Nat) (I : PI) (L : PL) : ∀ (qs : List KC) (b i : Nat), (wsF cI cL ad I L b qs)[i]? = (qs[i]?).map (fun q => (ad (b + i), celE cI cL ad I L (b + i) q))
  | [], b, i => by simp [wsF]
  | q :: qs, b, 0 => by simp [wsF]
  | q :: qs, b, i + 1 => by
    have h := wsF_get cI cL ad I L qs (b + 1) i
    unfold wsF
    rw [List.getElem?_cons_succ, List.getElem?_cons_succ, h, show b + 1 + i = b + (i + 1) by omega]
def uI (I : PI) (c k : Nat) (v : Int32) : PI := fun a => if a = c then upd (I c) k v else I a
def uL (L : PL) (c k : Nat) (v : Int64) : PL := fun a => if a = c then vp_updL (L c) k v else L a
theorem uI_o {I : PI} {c k a : Nat} {v : Int32} (h : a ≠ c) : uI I c k v a = I a := by unfold uI; rw [if_neg h]
theorem uI_c {I : PI} {c k : Nat} {v : Int32} : uI I c k v c = upd (I c) k v := by unfold uI; rw [if_pos rfl]
theorem uL_o {L : PL} {c k a : Nat} {v : Int64} (h : a ≠ c) : uL L c k v a = L a := by unfold uL; rw [if_neg h]
theorem uL_c {L : PL} {c k : Nat} {v : Int64} : uL L c k v c = vp_updL (L c) k v := by unfold uL; rw [if_pos rfl]
theorem fvV_congr {ad : Nat → Nat} {I I' : PI} {L L' : PL} {c k : Nat} (h1 : I c k = I' c k) (h2 : L c k = L' c k) (x : Nat) : fvV ad I L c k x = fvV ad I' L' c k x := by
  match x with
  | 0 => unfold fvV; rw [h1]
  | 1 => unfold fvV; rw [h2]
  | 2 => rfl
  | r + 3 => rfl
theorem fvs_congr {ad : Nat → Nat} {I I' : PI} {L L' : PL} {c : Nat} (h1 : I c = I' c) (h2 : L c = L' c) : ∀ (xs : List Nat) (k : Nat), fvs ad I L c k xs = fvs ad I' L' c k xs
  | [], _ => rfl
  | x :: xs, k => by
    unfold fvs
    rw [fvV_congr (congrFun h1 k) (congrFun h2 k), fvs_congr h1 h2 xs]
theorem celE_congr {cI cL : ClassId} {ad : Nat → Nat} {I I' : PI} {L L' : PL} {c : Nat} (h1 : I c = I' c) (h2 : L c = L' c) (q : KC) : celE cI cL ad I L c q = celE cI cL ad I' L' c q := by
  obtain ⟨k, n, fs⟩ := q
  match k with
  | 0 => unfold celE; dsimp only; rw [h1]
  | 1 => unfold celE; dsimp only; rw [h2]
  | k + 2 => unfold celE; dsimp only; rw [fvs_congr h1 h2]
theorem fvs_setI {ad : Nat → Nat} {I : PI} {L : PL} {c i : Nat} {v : Int32} {xs : List Nat} (h : xs[i]? = some 0) : (fvs ad I L c 0 xs).set i (.int v) = fvs ad (uI I c i v) L c 0 xs := by
  apply List.ext_getElem?
  intro j
  rw [fvs_get, Nat.zero_add]
  by_cases hj : i = j
  · subst hj
    rw [List.getElem?_set_self (by rw [fvs_len]; exact (List.getElem?_eq_some_iff.mp h).1), h]
    show some (Value.int v) = some (Value.int (uI I c i v c i))
    rw [uI_c, upd, if_pos rfl]
  · rw [List.getElem?_set_ne hj, fvs_get, Nat.zero_add]
    cases hx : xs[j]? with
    | none => rfl
    | some x =>
      show some (fvV ad I L c j x) = some (fvV ad (uI I c i v) L c j x)
      rw [fvV_congr (I := I) (I' := uI I c i v) (L := L) (L' := L) (by rw [uI_c, upd, if_neg (Ne.symm hj)]) rfl]
theorem fvs_setL {ad : Nat → Nat} {I : PI} {L : PL} {c i : Nat} {v : Int64} {xs : List Nat} (h : xs[i]? = some 1) : (fvs ad I L c 0 xs).set i (.long v) = fvs ad I (uL L c i v) c 0 xs := by
  apply List.ext_getElem?
  intro j
  rw [fvs_get, Nat.zero_add]
  by_cases hj : i = j
  · subst hj
    rw [List.getElem?_set_self (by rw [fvs_len]; exact (List.getElem?_eq_some_iff.mp h).1), h]
    show some (Value.long v) = some (Value.long (uL L c i v c i))
    rw [uL_c, vp_updL, if_pos rfl]
  · rw [List.getElem?_set_ne hj, fvs_get, Nat.zero_add]
    cases hx : xs[j]? with
    | none => rfl
    | some x =>
      show some (fvV ad I L c j x) = some (fvV ad I (uL L c i v) c j x)
      rw [fvV_congr (I := I) (I' := I) (L := L) (L' := uL L c i v) rfl (by rw [uL_c, vp_updL, if_neg (Ne.symm hj)])]
theorem wsF_set {cI cL : ClassId} {ad : Nat → Nat} {I I' : PI} {L L' : PL} {qs : List KC} {c : Nat} {q : KC} {e : va_E} (hq : qs[c]? = some q) (he : e = celE cI cL ad I' L' c q) (h1 : ∀ a, a ≠ c → I a = I' a) (h2 : ∀ a, a ≠ c → L a = L' a) :
    (wsF cI cL ad I L 0 qs).set c (ad c, e) = wsF cI cL ad I' L' 0 qs := by
  subst he
  apply List.ext_getElem?
  intro j
  rw [wsF_get, Nat.zero_add]
  by_cases hj : c = j
  · subst hj
    have hl : c < (wsF cI cL ad I L 0 qs).length := by
      have h3 : (wsF cI cL ad I L 0 qs)[c]? = some (ad (0 + c), celE cI cL ad I L (0 + c) q) := by rw [wsF_get, hq]; rfl
      exact (List.getElem?_eq_some_iff.mp h3).1
    rw [List.getElem?_set_self hl, hq]
    rfl
  · rw [List.getElem?_set_ne hj, wsF_get, Nat.zero_add]
    cases hx : qs[j]? with
    | none => rfl
    | some x =>
      show some (ad j, celE cI cL ad I L j x) = some (ad j, celE cI cL ad I' L' j x)
      rw [celE_congr (h1 j (Ne.symm hj)) (h2 j (Ne.symm hj))]
abbrev WS (cI cL : ClassId) (ad : Nat → Nat) (I : PI) (L : PL) : va_W := wsF cI cL ad I L 0 K0
theorem ws_arrI {cI cL : ClassId} {ad : Nat → Nat} {I : PI} {L : PL} {c n : Nat} (h : K0[c]? = some (0, n, [])) : (WS cI cL ad I L)[c]? = some (ad c, .inl (cI, n, .inl (I c))) := by
  unfold WS; rw [wsF_get, h, Nat.zero_add]; rfl
theorem ws_arrL {cI cL : ClassId} {ad : Nat → Nat} {I : PI} {L : PL} {c n : Nat} (h : K0[c]? = some (1, n, [])) : (WS cI cL ad I L)[c]? = some (ad c, .inl (cL, n, .inr (.inl (L c)))) := by
  unfold WS; rw [wsF_get, h, Nat.zero_add]; rfl
theorem ws_obj {cI cL : ClassId} {ad : Nat → Nat} {I : PI} {L : PL} {c k z : Nat} {fs : List Nat} (h : K0[c]? = some (k + 2, z, fs)) : (WS cI cL ad I L)[c]? = some (ad c, .inr (k, fvs ad I L c 0 fs)) := by
  unfold WS; rw [wsF_get, h, Nat.zero_add]; rfl
theorem ws_setI {cI cL : ClassId} {ad : Nat → Nat} {I : PI} {L : PL} {c n : Nat} {i : Nat} {v : Int32} (h : K0[c]? = some (0, n, [])) : (WS cI cL ad I L).set c (ad c, .inl (cI, n, .inl (upd (I c) i v))) = WS cI cL ad (uI I c i v) L :=
  wsF_set h (by show _ = Sum.inl (cI, n, Sum.inl (uI I c i v c)); rw [uI_c]) (fun _ h => (uI_o h).symm) (fun _ _ => rfl)
theorem ws_setL {cI cL : ClassId} {ad : Nat → Nat} {I : PI} {L : PL} {c n : Nat} {i : Nat} {v : Int64} (h : K0[c]? = some (1, n, [])) : (WS cI cL ad I L).set c (ad c, .inl (cL, n, .inr (.inl (vp_updL (L c) i v)))) = WS cI cL ad I (uL L c i v) :=
  wsF_set h (by show _ = Sum.inl (cL, n, Sum.inr (Sum.inl (uL L c i v c))); rw [uL_c]) (fun _ _ => rfl) (fun _ h => (uL_o h).symm)
theorem ws_setFI {cI cL : ClassId} {ad : Nat → Nat} {I : PI} {L : PL} {c k z i : Nat} {fs : List Nat} {v : Int32} (h : K0[c]? = some (k + 2, z, fs)) (hi : fs[i]? = some 0) : (WS cI cL ad I L).set c (ad c, .inr (k, (fvs ad I L c 0 fs).set i (.int v))) = WS cI cL ad (uI I c i v) L :=
  wsF_set h (by rw [fvs_setI hi]; rfl) (fun _ h => (uI_o h).symm) (fun _ _ => rfl)
theorem ws_setFL {cI cL : ClassId} {ad : Nat → Nat} {I : PI} {L : PL} {c k z i : Nat} {fs : List Nat} {v : Int64} (h : K0[c]? = some (k + 2, z, fs)) (hi : fs[i]? = some 1) : (WS cI cL ad I L).set c (ad c, .inr (k, (fvs ad I L c 0 fs).set i (.long v))) = WS cI cL ad I (uL L c i v) :=
  wsF_set h (by rw [fvs_setL hi]; rfl) (fun _ _ => rfl) (fun _ h => (uL_o h).symm)
def nestF : List (String × Nat × String × String × String × String) := [
  ("PulseParts", 104, "PulseParts$Tape", "size", "I", "PulseParts"),
  ("PulseParts$LawReader", 32, "PulseParts$Tape", "place", "I", "PulseParts"),
  ("PulseParts$Rests", 57, "PulseParts$Tape", "place", "I", "PulseParts"),
  ("PulseParts$Codes", 39, "PulseParts$Tape", "place", "I", "PulseParts"),
  ("PulseParts$Echoes", 46, "PulseParts$Codes", "turns", "[I", "PulseParts"),
  ("PulseParts$Echoes", 85, "PulseParts$Codes", "many", "I", "PulseParts"),
  ("PulseParts", 204, "PulseParts$Codes", "many", "I", "PulseParts"),
  ("PulseParts$Laws", 38, "PulseParts$LawReader", "steps", "[I", "PulseParts"),
  ("PulseParts$Laws", 27, "PulseParts$LawReader", "made", "I", "PulseParts"),
  ("PulseParts", 333, "PulseParts$Laws", "many", "I", "PulseParts"),
  ("PulseParts$Bests", 99, "PulseParts$Echoes", "weights", "[I", "PulseParts"),
  ("PulseParts", 180, "PulseParts$Echoes", "real", "I", "PulseParts"),
  ("PulseParts", 183, "PulseParts$Echoes", "imaginary", "I", "PulseParts"),
  ("PulseParts", 334, "PulseParts$Rests", "many", "I", "PulseParts"),
  ("PulseParts", 236, "PulseParts$Rests", "chosen", "I", "PulseParts"),
  ("PulseParts", 239, "PulseParts$Rests", "chosenSees", "I", "PulseParts"),
  ("PulseParts", 335, "PulseParts$Cells", "undoable", "I", "PulseParts"),
  ("PulseParts", 338, "PulseParts$Cells", "undone", "I", "PulseParts"),
  ("PulseParts", 302, "PulseParts$Beams", "many", "I", "PulseParts")]
def nestM : Cond := .methodLinkNest "PulseParts$Shares" 15 ⟨"PulseParts", "within", "(III)Z"⟩ "PulseParts"
def NW (U : State) : Prop := (∀ q ∈ nestF, va_Nw (.fieldLinkNest q.1 q.2.1 q.2.2.1 q.2.2.2.1 q.2.2.2.2.1 q.2.2.2.2.2) U) ∧ va_Nw nestM U
theorem NW.warm {s U : State} (hW : s.WarmedH U.vm) (h : NW s) : NW U := ⟨fun q hq => va_Nw.warmF hW (h.1 q hq), va_Nw.warmM hW h.2⟩
theorem NW.same {u U : State} (h : u.vm = U.vm) (hZ : NW u) : NW U := ⟨fun q hq => va_Nw.same rfl h (hZ.1 q hq), va_Nw.same rfl h hZ.2⟩
def fLeast (j : Nat) : Value := .int ([0, 1, 0, 1, 1, 0].getD j 0)
def fGreat (j : Nat) : Value := .int ([9, 8, 3, 8, 16, 99].getD j 0)
def ZT (ad : Nat → Nat) (A : Nat → Prop) (U : State) (H : Heap) : Prop :=
  va_Z "PulseParts" "LEAST_SETTINGS" "[I" (.ref (ad 1000)) A U H ∧ va_Z "PulseParts" "GREATEST_SETTINGS" "[I" (.ref (ad 1001)) A U H ∧ va_T .int (ad 1000) 6 fLeast A U H ∧ va_T .int (ad 1001) 6 fGreat A U H
theorem ZT.moved {ad : Nat → Nat} {A : Nat → Prop} {u U : State} {H : Heap} (hvm : u.vm.Alike U.vm) (h : ZT ad A u H) : ZT ad A U H := ⟨va_Z.moved hvm h.1, va_Z.moved hvm h.2.1, va_T.moved hvm h.2.2.1, va_T.moved hvm h.2.2.2⟩
theorem ZT.kept {ad : Nat → Nat} {A : Nat → Prop} {U : State} {H H1 : Heap} (h : ZT ad A U H) (hq : ∀ a : Nat, a < H.size → ¬ A a → H1[a]? = H[a]?) : ZT ad A U H1 := ⟨va_Z.kept h.1 hq, va_Z.kept h.2.1 hq, va_T.kept h.2.2.1 hq, va_T.kept h.2.2.2 hq⟩
theorem ZT.narrow {ad : Nat → Nat} {A B : Nat → Prop} {U : State} {H : Heap} (h : ZT ad A U H) (hAB : ∀ q, B q → A q) : ZT ad B U H := ⟨va_Z.narrow h.1 hAB, va_Z.narrow h.2.1 hAB, va_T.narrow h.2.2.1 hAB, va_T.narrow h.2.2.2 hAB⟩
abbrev TYS (cI cL : ClassId) : List (ClassId × FieldType) := [(cI, .int), (cL, .long)]
def Wld (D : va_G) (cI cL : ClassId) (ad : Nat → Nat) (A : Nat → Prop) (I : PI) (L : PL) (s : State) (H : Heap) (locs : List Loc) : Prop :=
  va_K D vwCl (TYS cI cL) s ∧ va_P D vwCl (WS cI cL ad I L) H ∧ va_D A (WS cI cL ad I L) ∧ va_S A s.heap H locs ∧ (∀ q, s.heap.size ≤ q → A q) ∧ NW s ∧ ZT ad A s s.heap
def Ctx (μ : MI) (d : Nat) (p : Program) (R : Room) (s : State) (m : MethodId) (args : Array Value) (meth : Method) (c : Code) : Prop :=
  p.tables.exec = Jvm.exec ∧ c.code = μ.2.1 ∧ c.maxLocals = μ.2.2.1 ∧ meth.sig.returnType = μ.2.2.2 ∧ (∀ w ∈ WL, w.before args s = true) ∧ s.vm.findClass μ.1.cls = some m.cls ∧ meth.locks = false ∧ d ≤ R.frames ∧ 60 * d ≤ R.locals
def QR (v : Option Value) (I : PI) (L : PL) (D : va_G) (cI cL : ClassId) (ad : Nat → Nat) (A : Nat → Prop) : Array Value → State → Outcome → State → Prop := fun _ st oc t =>
  (oc = .returned (v.map (trV ad)) ∧ va_P D vwCl (WS cI cL ad I L) t.heap ∧ va_K D vwCl (TYS cI cL) t ∧ va_D A (WS cI cL ad I L)) ∧ va_F A st t
/-- what holds at the end of a frame (Z), what a frame knows besides (Y), what it has made (κ) -/
abbrev ZTy : Type := Option Value → PI → PL → va_G → ClassId → ClassId → (Nat → Nat) → (Nat → Prop) → State → Array Value → List Frame → State → Prop
abbrev YTy : Type := Launch → Room → State → (Nat → Nat) → (Nat → Prop) → Prop
/-- from here on (the frame at pc, its locals, its stack, the world) the method comes to the result o, where o tells one -/
def EvG (κ : Nat × Nat) (Z : ZTy) (Y : YTy) (μ : MI) (d pc : Nat) (lv : List (Nat × Value)) (st : List Value) (I : PI) (L : PL) (o : RES) : Prop :=
  ∀ (v : Option Value) (I' : PI) (L' : PL), o = some (v, I', L') → ∀ (p : Program) (l : Launch) (e : Env) (R : Room) (s : State) (m : MethodId) (args : Array Value) (below : List Frame) (meth : Method) (c : Code) (H : Heap) (locs : List Loc) (D : va_G) (cI cL : ClassId) (ad : Nat → Nat) (A : Nat → Prop) (ls : Array Slot),
    Ctx μ d p R s m args meth c → Wld D cI cL ad A I L s H locs → lv_has ls μ.2.2.1 (trL ad lv) → (Y l R s ad A ∧ κ.1 ≤ R.cells ∧ κ.2 ≤ R.slots) → W p l e R s m args below meth c H locs κ.1 κ.2 (Z v I' L' D cI cL ad A s args below) (F0 m pc ls (st.map (trV ad)))
def Zmet : ZTy := fun v I' L' D cI cL ad A s args below => MQ below (QR v I' L' D cI cL ad A) args s 0 0 A
def Ytt : YTy := fun _ _ _ _ _ => True
abbrev EvW (μ : MI) (d pc : Nat) (lv : List (Nat × Value)) (st : List Value) (I : PI) (L : PL) (o : RES) : Prop := EvG (0, 0) Zmet Ytt μ d pc lv st I L o
def rmD (d : Nat) : Room := { frames := d, cells := 0, slots := 0, locals := 60 * d }
def Tw (μ : MI) : List Cond := .code μ.1 μ.2.1 μ.2.2.1 μ.2.2.2 :: WL
/-- the method, called with As in that world, comes to o, where o tells one; d: how deep its calls may go -/
def MOk (μ : MI) (d : Nat) (As : List Value) (I : PI) (L : PL) (o : RES) : Prop :=
  ∀ (v : Option Value) (I' : PI) (L' : PL), o = some (v, I', L') → ∀ (l : Launch) (D : va_G) (cI cL : ClassId) (ad : Nat → Nat) (sz : Nat),
    Met l μ.1 (Tw μ) (rmD d) (va_Pc (As.map (trV ad)) (fun U => U.heap.size = sz ∧ va_P D vwCl (WS cI cL ad I L) U.heap ∧ va_K D vwCl (TYS cI cL) U ∧ va_D (fun _ => True) (WS cI cL ad I L) ∧ NW U ∧ ZT ad (va_A (WS cI cL ad I L) sz) U U.heap))
      (QR v I' L' D cI cL ad (va_A (WS cI cL ad I L) sz)) 0 0 (va_A (WS cI cL ad I L) sz)
theorem good_law : GoodIn WL WL := fun _ h => ⟨h, good_of_word (List.mem_filter.mp h).2⟩
theorem MOk.of {μ : MI} {d : Nat} {As : List Value} {I : PI} {L : PL} {o : RES} (hy : plainName μ.1.cls = true) (hlen : (lg_sl As).length ≤ μ.2.2.1) (h : EvW μ d 0 (lv_args 0 As) [] I L o) : MOk μ d As I L o := by
  intro v I' L' ho l D cI cL ad sz
  refine Met.ofW (cc := μ.2.1) (maxL := μ.2.2.1) (ret := μ.2.2.2) hy rfl ?_
  intro p e s m args below meth c s₁ B hml hv
  obtain ⟨rfl, hsz, hP, hK, hD0, hN, hZ⟩ := hv
  subst hsz
  have hts := atoms_spec (ws := Tw μ) B.pre
  have hl := lv_entry (As.map (trV ad)) (n := μ.2.2.1) (by rw [lg_len]; exact hlen)
  rw [lg_entry_eq]
  rw [trL_args] at hl
  exact h v I' L' ho p l e _ s m _ below meth c s.heap [] D cI cL ad (va_A (WS cI cL ad I L) s.heap.size) _ ⟨B.exec, B.bytes, hml, B.returns, fun w hw => hts w (List.mem_cons_of_mem _ hw), findClass_of_methodNamed B.named, B.notSynchronized, Nat.le_refl _, Nat.le_refl _⟩
    ⟨hK, hP, hD0.self, va_S.rf, fun _ h => Or.inr h, hN, hZ⟩ hl ⟨trivial, Nat.zero_le _, Nat.zero_le _⟩
def gd (b : Bool) (o : RES) : RES := bif b then o else none
theorem gd_some {b : Bool} {o : RES} {r : Option Value × PI × PL} (h : gd b o = some r) : b = true ∧ o = some r := by
  cases b
  · exact absurd h (by simp [gd])
  · exact ⟨rfl, h⟩
def inb (i : Int32) (n : Nat) : Bool := !decide (i < 0) && decide (i.toNatClampNeg < n)
theorem inb_in {i : Int32} {n : Nat} (h : inb i n = true) : vp_in i n := by
  unfold inb at h
  simp only [Bool.and_eq_true, Bool.not_eq_true', decide_eq_false_iff_not, decide_eq_true_eq] at h
  rintro (q | q)
  · exact h.1 q
  · omega
def bI (oc : RES) (K : Int32 → PI → PL → RES) : RES := match oc with
  | some (some (.int x), I, L) => K x I L
  | _ => none
def bJ (oc : RES) (K : Int64 → PI → PL → RES) : RES := match oc with
  | some (some (.long x), I, L) => K x I L
  | _ => none
def bV (oc : RES) (K : PI → PL → RES) : RES := match oc with
  | some (none, I, L) => K I L
  | _ => none
theorem bI_some {oc : RES} {K : Int32 → PI → PL → RES} {r : Option Value × PI × PL} (h : bI oc K = some r) : ∃ x I L, oc = some (some (.int x), I, L) ∧ K x I L = some r := by
  unfold bI at h
  split at h
  · exact ⟨_, _, _, rfl, h⟩
  · cases h
theorem bJ_some {oc : RES} {K : Int64 → PI → PL → RES} {r : Option Value × PI × PL} (h : bJ oc K = some r) : ∃ x I L, oc = some (some (.long x), I, L) ∧ K x I L = some r := by
  unfold bJ at h
  split at h
  · exact ⟨_, _, _, rfl, h⟩
  · cases h
theorem bV_some {oc : RES} {K : PI → PL → RES} {r : Option Value × PI × PL} (h : bV oc K = some r) : ∃ I L, oc = some (none, I, L) ∧ K I L = some r := by
  unfold bV at h
  split at h
  · exact ⟨_, _, rfl, h⟩
  · cases h
section EV
variable {κ : Nat × Nat} {Z : ZTy} {Y : YTy} {μ : MI} {d pc : Nat} {lv lv' : List (Nat × Value)} {st : List Value} {I : PI} {L : PL} {o o1 o2 : RES}
theorem EvW.sub (ks : List Nat) (h : lv_pick lv ks = lv') (k : EvG κ Z Y μ d pc lv' st I L o) : EvG κ Z Y μ d pc lv st I L o := by
  intro v I' L' ho p l e R s m args below meth c H locs D cI cL ad A ls C Wd hl hY
  refine k v I' L' ho p l e R s m args below meth c H locs D cI cL ad A ls C Wd (lv_sub hl ks ?_) hY
  subst h
  unfold lv_pick trL
  rw [List.map_filterMap]
  congr 1
  funext i
  rw [List.getElem?_map]
theorem EvW.none : EvG κ Z Y μ d pc lv st I L none := by
  intro v I' L' ho
  cases ho
theorem ev_iconst {n : Int} (x : Int32) (hx : Int32.ofInt n = x) (hd : decode μ.2.1 pc = .ok (.iconst n, 1)) (k : EvG κ Z Y μ d (pc + 1) lv (.int x :: st) I L o) : EvG κ Z Y μ d pc lv (st) I L o := by
  intro v I' L' ho p l e R s m args below meth c H locs D cI cL ad A ls C Wd hl hY
  exact lv_iconst C.1 C.2.1 (v := x) (rest := st.map (trV ad)) hd hx (k v I' L' ho p l e R s m args below meth c H locs D cI cL ad A ls C Wd hl hY)
theorem ev_bipush {n : Int} (x : Int32) (hx : (Int8.ofInt n).toInt32 = x) (hd : decode μ.2.1 pc = .ok (.bipush n, 2)) (k : EvG κ Z Y μ d (pc + 2) lv (.int x :: st) I L o) : EvG κ Z Y μ d pc lv (st) I L o := by
  intro v I' L' ho p l e R s m args below meth c H locs D cI cL ad A ls C Wd hl hY
  exact lv_bipush C.1 C.2.1 (v := x) (rest := st.map (trV ad)) hd hx (k v I' L' ho p l e R s m args below meth c H locs D cI cL ad A ls C Wd hl hY)
theorem ev_sipush {n : Int} (x : Int32) (hx : (Int16.ofInt n).toInt32 = x) (hd : decode μ.2.1 pc = .ok (.sipush n, 3)) (k : EvG κ Z Y μ d (pc + 3) lv (.int x :: st) I L o) : EvG κ Z Y μ d pc lv (st) I L o := by
  intro v I' L' ho p l e R s m args below meth c H locs D cI cL ad A ls C Wd hl hY
  exact lv_sipush C.1 C.2.1 (v := x) (rest := st.map (trV ad)) hd hx (k v I' L' ho p l e R s m args below meth c H locs D cI cL ad A ls C Wd hl hY)
theorem ev_lconst {n : Fin 2} (x : Int64) (hx : Int64.ofNat (n : Nat) = x) (hd : decode μ.2.1 pc = .ok (.lconst n, 1)) (k : EvG κ Z Y μ d (pc + 1) lv (.long x :: st) I L o) : EvG κ Z Y μ d pc lv (st) I L o := by
  intro v I' L' ho p l e R s m args below meth c H locs D cI cL ad A ls C Wd hl hY
  exact lv_lconst C.1 C.2.1 (v := x) (rest := st.map (trV ad)) hd hx (k v I' L' ho p l e R s m args below meth c H locs D cI cL ad A ls C Wd hl hY)
theorem ev_ldc {ix : Nat} {x : Int32} (hw : Cond.constant μ.1.cls ix x ∈ WL) (hd : decode μ.2.1 pc = .ok (.ldc ix, 2)) (k : EvG κ Z Y μ d (pc + 2) lv (.int x :: st) I L o) : EvG κ Z Y μ d pc lv st I L o := by
  intro v I' L' ho p l e R s m args below meth c H locs D cI cL ad A ls C Wd hl hY
  exact lv_ldc C.1 C.2.1 C.2.2.2.2.2.1 (C.2.2.2.2.1 _ hw) hd (k v I' L' ho p l e R s m args below meth c H locs D cI cL ad A ls C Wd hl hY)
theorem ev_ldcw {ix : Nat} {x : Int32} (hw : Cond.constant μ.1.cls ix x ∈ WL) (hd : decode μ.2.1 pc = .ok (.ldc_w ix, 3)) (k : EvG κ Z Y μ d (pc + 3) lv (.int x :: st) I L o) : EvG κ Z Y μ d pc lv st I L o := by
  intro v I' L' ho p l e R s m args below meth c H locs D cI cL ad A ls C Wd hl hY
  exact lv_ldcw C.1 C.2.1 C.2.2.2.2.2.1 (C.2.2.2.2.1 _ hw) hd (k v I' L' ho p l e R s m args below meth c H locs D cI cL ad A ls C Wd hl hY)
theorem ev_ldc2 {ix : Nat} {x : Int64} (hw : Cond.constantLong μ.1.cls ix x ∈ WL) (hd : decode μ.2.1 pc = .ok (.ldc2_w ix, 3)) (k : EvG κ Z Y μ d (pc + 3) lv (.long x :: st) I L o) : EvG κ Z Y μ d pc lv st I L o := by
  intro v I' L' ho p l e R s m args below meth c H locs D cI cL ad A ls C Wd hl hY
  exact lv_ldc2 C.1 C.2.1 C.2.2.2.2.2.1 (C.2.2.2.2.1 _ hw) hd (k v I' L' ho p l e R s m args below meth c H locs D cI cL ad A ls C Wd hl hY)
theorem ev_iload_n {q : Fin 4} {x : Int32} (j : Nat) (hd : decode μ.2.1 pc = .ok (.iload_n q, 1)) (hj : lv[j]? = some ((q : Nat), .int x)) (k : EvG κ Z Y μ d (pc + 1) lv (.int x :: st) I L o) : EvG κ Z Y μ d pc lv (st) I L o := by
  intro v I' L' ho p l e R s m args below meth c H locs D cI cL ad A ls C Wd hl hY
  exact lv_iload_n C.1 C.2.1 (x := x) (rest := st.map (trV ad)) hd rfl (lv_at hl j (trL_get hj)) (k v I' L' ho p l e R s m args below meth c H locs D cI cL ad A ls C Wd hl hY)
theorem ev_iload {i : Nat} {x : Int32} (j : Nat) (hd : decode μ.2.1 pc = .ok (.iload i, 2)) (hj : lv[j]? = some (i, .int x)) (k : EvG κ Z Y μ d (pc + 2) lv (.int x :: st) I L o) : EvG κ Z Y μ d pc lv (st) I L o := by
  intro v I' L' ho p l e R s m args below meth c H locs D cI cL ad A ls C Wd hl hY
  exact lv_iload C.1 C.2.1 (x := x) (rest := st.map (trV ad)) hd (lv_at hl j (trL_get hj)) (k v I' L' ho p l e R s m args below meth c H locs D cI cL ad A ls C Wd hl hY)
theorem ev_lload_n {q : Fin 4} {x : Int64} (j : Nat) (hd : decode μ.2.1 pc = .ok (.lload_n q, 1)) (hj : lv[j]? = some ((q : Nat), .long x)) (k : EvG κ Z Y μ d (pc + 1) lv (.long x :: st) I L o) : EvG κ Z Y μ d pc lv (st) I L o := by
  intro v I' L' ho p l e R s m args below meth c H locs D cI cL ad A ls C Wd hl hY
  exact lv_lload_n C.1 C.2.1 (x := x) (rest := st.map (trV ad)) hd rfl (lv_at hl j (trL_get hj)) (k v I' L' ho p l e R s m args below meth c H locs D cI cL ad A ls C Wd hl hY)
theorem ev_lload {i : Nat} {x : Int64} (j : Nat) (hd : decode μ.2.1 pc = .ok (.lload i, 2)) (hj : lv[j]? = some (i, .long x)) (k : EvG κ Z Y μ d (pc + 2) lv (.long x :: st) I L o) : EvG κ Z Y μ d pc lv (st) I L o := by
  intro v I' L' ho p l e R s m args below meth c H locs D cI cL ad A ls C Wd hl hY
  exact lv_lload C.1 C.2.1 (x := x) (rest := st.map (trV ad)) hd (lv_at hl j (trL_get hj)) (k v I' L' ho p l e R s m args below meth c H locs D cI cL ad A ls C Wd hl hY)
theorem ev_aload_n {q : Fin 4} {x : Nat} (j : Nat) (hd : decode μ.2.1 pc = .ok (.aload_n q, 1)) (hj : lv[j]? = some ((q : Nat), .ref x)) (k : EvG κ Z Y μ d (pc + 1) lv (.ref x :: st) I L o) : EvG κ Z Y μ d pc lv (st) I L o := by
  intro v I' L' ho p l e R s m args below meth c H locs D cI cL ad A ls C Wd hl hY
  exact lv_aload_n C.1 C.2.1 (x := ad x) (rest := st.map (trV ad)) hd rfl (lv_at hl j (trL_get hj)) (k v I' L' ho p l e R s m args below meth c H locs D cI cL ad A ls C Wd hl hY)
theorem ev_aload {i : Nat} {x : Nat} (j : Nat) (hd : decode μ.2.1 pc = .ok (.aload i, 2)) (hj : lv[j]? = some (i, .ref x)) (k : EvG κ Z Y μ d (pc + 2) lv (.ref x :: st) I L o) : EvG κ Z Y μ d pc lv (st) I L o := by
  intro v I' L' ho p l e R s m args below meth c H locs D cI cL ad A ls C Wd hl hY
  exact lv_aload C.1 C.2.1 (x := ad x) (rest := st.map (trV ad)) hd (lv_at hl j (trL_get hj)) (k v I' L' ho p l e R s m args below meth c H locs D cI cL ad A ls C Wd hl hY)
theorem ev_istore {i : Nat} {x : Int32} (hd : decode μ.2.1 pc = .ok (.istore i, 2)) (hn : Nat.blt (i) μ.2.2.1 = true) (hv : (i, Value.int x) :: lv.filter (fun q => !(q.1 == i) && !(q.1 + 1 == i && q.2.category == 2)) = lv') (k : EvG κ Z Y μ d (pc + 2) lv' st I L o) : EvG κ Z Y μ d pc lv (.int x :: st) I L o := by
  intro v I' L' ho p l e R s m args below meth c H locs D cI cL ad A ls C Wd hl hY
  refine lv_istore (i := i) (lv := trL ad lv) (lv' := trL ad lv') (rest := st.map (trV ad)) C.1 C.2.1 hd hl (Nat.le_of_ble_eq_true hn) ?_ (fun ls2 hl2 => k v I' L' ho p l e R s m args below meth c H locs D cI cL ad A ls2 C Wd hl2 hY)
  rw [trL_filter ad _ (fun j w => by dsimp only; rw [trV_cat]), ← hv]
  rfl
theorem ev_istore_n {q : Fin 4} {i : Nat} {x : Int32} (hd : decode μ.2.1 pc = .ok (.istore_n q, 1)) (hi : (q : Nat) = i) (hn : Nat.blt (i) μ.2.2.1 = true) (hv : (i, Value.int x) :: lv.filter (fun q => !(q.1 == i) && !(q.1 + 1 == i && q.2.category == 2)) = lv') (k : EvG κ Z Y μ d (pc + 1) lv' st I L o) : EvG κ Z Y μ d pc lv (.int x :: st) I L o := by
  intro v I' L' ho p l e R s m args below meth c H locs D cI cL ad A ls C Wd hl hY
  refine lv_istore_n (i := i) (lv := trL ad lv) (lv' := trL ad lv') (rest := st.map (trV ad)) C.1 C.2.1 hd hi hl (Nat.le_of_ble_eq_true hn) ?_ (fun ls2 hl2 => k v I' L' ho p l e R s m args below meth c H locs D cI cL ad A ls2 C Wd hl2 hY)
  rw [trL_filter ad _ (fun j w => by dsimp only; rw [trV_cat]), ← hv]
  rfl
theorem ev_lstore {i : Nat} {x : Int64} (hd : decode μ.2.1 pc = .ok (.lstore i, 2)) (hn : Nat.blt (i + 1) μ.2.2.1 = true) (hv : (i, Value.long x) :: lv.filter (fun q => !(q.1 == i) && (!(q.1 == i + 1) && !(q.1 + 1 == i && q.2.category == 2))) = lv') (k : EvG κ Z Y μ d (pc + 2) lv' st I L o) : EvG κ Z Y μ d pc lv (.long x :: st) I L o := by
  intro v I' L' ho p l e R s m args below meth c H locs D cI cL ad A ls C Wd hl hY
  refine lv_lstore (i := i) (lv := trL ad lv) (lv' := trL ad lv') (rest := st.map (trV ad)) C.1 C.2.1 hd hl (Nat.le_of_ble_eq_true hn) ?_ (fun ls2 hl2 => k v I' L' ho p l e R s m args below meth c H locs D cI cL ad A ls2 C Wd hl2 hY)
  rw [trL_filter ad _ (fun j w => by dsimp only; rw [trV_cat]), ← hv]
  rfl
theorem ev_lstore_n {q : Fin 4} {i : Nat} {x : Int64} (hd : decode μ.2.1 pc = .ok (.lstore_n q, 1)) (hi : (q : Nat) = i) (hn : Nat.blt (i + 1) μ.2.2.1 = true) (hv : (i, Value.long x) :: lv.filter (fun q => !(q.1 == i) && (!(q.1 == i + 1) && !(q.1 + 1 == i && q.2.category == 2))) = lv') (k : EvG κ Z Y μ d (pc + 1) lv' st I L o) : EvG κ Z Y μ d pc lv (.long x :: st) I L o := by
  intro v I' L' ho p l e R s m args below meth c H locs D cI cL ad A ls C Wd hl hY
  refine lv_lstore_n (i := i) (lv := trL ad lv) (lv' := trL ad lv') (rest := st.map (trV ad)) C.1 C.2.1 hd hi hl (Nat.le_of_ble_eq_true hn) ?_ (fun ls2 hl2 => k v I' L' ho p l e R s m args below meth c H locs D cI cL ad A ls2 C Wd hl2 hY)
  rw [trL_filter ad _ (fun j w => by dsimp only; rw [trV_cat]), ← hv]
  rfl
theorem ev_astore {i : Nat} {x : Nat} (hd : decode μ.2.1 pc = .ok (.astore i, 2)) (hn : Nat.blt (i) μ.2.2.1 = true) (hv : (i, Value.ref x) :: lv.filter (fun q => !(q.1 == i) && !(q.1 + 1 == i && q.2.category == 2)) = lv') (k : EvG κ Z Y μ d (pc + 2) lv' st I L o) : EvG κ Z Y μ d pc lv (.ref x :: st) I L o := by
  intro v I' L' ho p l e R s m args below meth c H locs D cI cL ad A ls C Wd hl hY
  refine lv_astore (i := i) (lv := trL ad lv) (lv' := trL ad lv') (rest := st.map (trV ad)) C.1 C.2.1 hd hl (Nat.le_of_ble_eq_true hn) ?_ (fun ls2 hl2 => k v I' L' ho p l e R s m args below meth c H locs D cI cL ad A ls2 C Wd hl2 hY)
  rw [trL_filter ad _ (fun j w => by dsimp only; rw [trV_cat]), ← hv]
  rfl
theorem ev_astore_n {q : Fin 4} {i : Nat} {x : Nat} (hd : decode μ.2.1 pc = .ok (.astore_n q, 1)) (hi : (q : Nat) = i) (hn : Nat.blt (i) μ.2.2.1 = true) (hv : (i, Value.ref x) :: lv.filter (fun q => !(q.1 == i) && !(q.1 + 1 == i && q.2.category == 2)) = lv') (k : EvG κ Z Y μ d (pc + 1) lv' st I L o) : EvG κ Z Y μ d pc lv (.ref x :: st) I L o := by
  intro v I' L' ho p l e R s m args below meth c H locs D cI cL ad A ls C Wd hl hY
  refine lv_astore_n (i := i) (lv := trL ad lv) (lv' := trL ad lv') (rest := st.map (trV ad)) C.1 C.2.1 hd hi hl (Nat.le_of_ble_eq_true hn) ?_ (fun ls2 hl2 => k v I' L' ho p l e R s m args below meth c H locs D cI cL ad A ls2 C Wd hl2 hY)
  rw [trL_filter ad _ (fun j w => by dsimp only; rw [trV_cat]), ← hv]
  rfl
theorem ev_iinc {i : Nat} {n : Int} {x : Int32} (hd : decode μ.2.1 pc = .ok (.iinc i n, 3)) (j : Nat) (hj : lv[j]? = some (i, .int x)) (hn : Nat.blt i μ.2.2.1 = true) (y : Int32) (hy : Int32.ofInt n = y) (hv : (i, Value.int (x + y)) :: lv.filter (fun q => !(q.1 == i) && !(q.1 + 1 == i && q.2.category == 2)) = lv') (k : EvG κ Z Y μ d (pc + 3) lv' st I L o) : EvG κ Z Y μ d pc lv st I L o := by
  intro v I' L' ho p l e R s m args below meth c H locs D cI cL ad A ls C Wd hl hY
  refine lv_iinc (i := i) (k := j) (lv := trL ad lv) (lv' := trL ad lv') (rest := st.map (trV ad)) C.1 C.2.1 hd hl (trL_get hj) (by rw [hy]) (Nat.le_of_ble_eq_true hn) ?_ (fun ls2 hl2 => k v I' L' ho p l e R s m args below meth c H locs D cI cL ad A ls2 C Wd hl2 hY)
  rw [trL_filter ad _ (fun j w => by dsimp only; rw [trV_cat]), ← hv]
  rfl
theorem ev_iadd {x y : Int32} (hd : decode μ.2.1 pc = .ok (.iadd, 1)) (k : EvG κ Z Y μ d (pc + 1) lv (.int (x + y) :: st) I L o) : EvG κ Z Y μ d pc lv (.int y :: .int x :: st) I L o := by
  intro v I' L' ho p l e R s m args below meth c H locs D cI cL ad A ls C Wd hl hY
  exact lv_iadd C.1 C.2.1 (x := x) (y := y) (rest := st.map (trV ad)) hd (k v I' L' ho p l e R s m args below meth c H locs D cI cL ad A ls C Wd hl hY)
theorem ev_isub {x y : Int32} (hd : decode μ.2.1 pc = .ok (.isub, 1)) (k : EvG κ Z Y μ d (pc + 1) lv (.int (x - y) :: st) I L o) : EvG κ Z Y μ d pc lv (.int y :: .int x :: st) I L o := by
  intro v I' L' ho p l e R s m args below meth c H locs D cI cL ad A ls C Wd hl hY
  exact lv_isub C.1 C.2.1 (x := x) (y := y) (rest := st.map (trV ad)) hd (k v I' L' ho p l e R s m args below meth c H locs D cI cL ad A ls C Wd hl hY)
theorem ev_imul {x y : Int32} (hd : decode μ.2.1 pc = .ok (.imul, 1)) (k : EvG κ Z Y μ d (pc + 1) lv (.int (x * y) :: st) I L o) : EvG κ Z Y μ d pc lv (.int y :: .int x :: st) I L o := by
  intro v I' L' ho p l e R s m args below meth c H locs D cI cL ad A ls C Wd hl hY
  exact lv_imul C.1 C.2.1 (x := x) (y := y) (rest := st.map (trV ad)) hd (k v I' L' ho p l e R s m args below meth c H locs D cI cL ad A ls C Wd hl hY)
theorem ev_iand {x y : Int32} (hd : decode μ.2.1 pc = .ok (.iand, 1)) (k : EvG κ Z Y μ d (pc + 1) lv (.int (x &&& y) :: st) I L o) : EvG κ Z Y μ d pc lv (.int y :: .int x :: st) I L o := by
  intro v I' L' ho p l e R s m args below meth c H locs D cI cL ad A ls C Wd hl hY
  exact lv_iand C.1 C.2.1 (x := x) (y := y) (rest := st.map (trV ad)) hd (k v I' L' ho p l e R s m args below meth c H locs D cI cL ad A ls C Wd hl hY)
theorem ev_ior {x y : Int32} (hd : decode μ.2.1 pc = .ok (.ior, 1)) (k : EvG κ Z Y μ d (pc + 1) lv (.int (x ||| y) :: st) I L o) : EvG κ Z Y μ d pc lv (.int y :: .int x :: st) I L o := by
  intro v I' L' ho p l e R s m args below meth c H locs D cI cL ad A ls C Wd hl hY
  exact lv_ior C.1 C.2.1 (x := x) (y := y) (rest := st.map (trV ad)) hd (k v I' L' ho p l e R s m args below meth c H locs D cI cL ad A ls C Wd hl hY)
theorem ev_ixor {x y : Int32} (hd : decode μ.2.1 pc = .ok (.ixor, 1)) (k : EvG κ Z Y μ d (pc + 1) lv (.int (x ^^^ y) :: st) I L o) : EvG κ Z Y μ d pc lv (.int y :: .int x :: st) I L o := by
  intro v I' L' ho p l e R s m args below meth c H locs D cI cL ad A ls C Wd hl hY
  exact lv_ixor C.1 C.2.1 (x := x) (y := y) (rest := st.map (trV ad)) hd (k v I' L' ho p l e R s m args below meth c H locs D cI cL ad A ls C Wd hl hY)
theorem ev_ishl {x y : Int32} (hd : decode μ.2.1 pc = .ok (.ishl, 1)) (k : EvG κ Z Y μ d (pc + 1) lv (.int (x <<< (y &&& 31)) :: st) I L o) : EvG κ Z Y μ d pc lv (.int y :: .int x :: st) I L o := by
  intro v I' L' ho p l e R s m args below meth c H locs D cI cL ad A ls C Wd hl hY
  exact lv_ishl C.1 C.2.1 (x := x) (y := y) (rest := st.map (trV ad)) hd (k v I' L' ho p l e R s m args below meth c H locs D cI cL ad A ls C Wd hl hY)
theorem ev_ishr {x y : Int32} (hd : decode μ.2.1 pc = .ok (.ishr, 1)) (k : EvG κ Z Y μ d (pc + 1) lv (.int (x >>> (y &&& 31)) :: st) I L o) : EvG κ Z Y μ d pc lv (.int y :: .int x :: st) I L o := by
  intro v I' L' ho p l e R s m args below meth c H locs D cI cL ad A ls C Wd hl hY
  exact lv_ishr C.1 C.2.1 (x := x) (y := y) (rest := st.map (trV ad)) hd (k v I' L' ho p l e R s m args below meth c H locs D cI cL ad A ls C Wd hl hY)
theorem ev_ladd {x y : Int64} (hd : decode μ.2.1 pc = .ok (.ladd, 1)) (k : EvG κ Z Y μ d (pc + 1) lv (.long (x + y) :: st) I L o) : EvG κ Z Y μ d pc lv (.long y :: .long x :: st) I L o := by
  intro v I' L' ho p l e R s m args below meth c H locs D cI cL ad A ls C Wd hl hY
  exact lv_ladd C.1 C.2.1 (x := x) (y := y) (rest := st.map (trV ad)) hd (k v I' L' ho p l e R s m args below meth c H locs D cI cL ad A ls C Wd hl hY)
theorem ev_lsub {x y : Int64} (hd : decode μ.2.1 pc = .ok (.lsub, 1)) (k : EvG κ Z Y μ d (pc + 1) lv (.long (x - y) :: st) I L o) : EvG κ Z Y μ d pc lv (.long y :: .long x :: st) I L o := by
  intro v I' L' ho p l e R s m args below meth c H locs D cI cL ad A ls C Wd hl hY
  exact lv_lsub C.1 C.2.1 (x := x) (y := y) (rest := st.map (trV ad)) hd (k v I' L' ho p l e R s m args below meth c H locs D cI cL ad A ls C Wd hl hY)
theorem ev_lmul {x y : Int64} (hd : decode μ.2.1 pc = .ok (.lmul, 1)) (k : EvG κ Z Y μ d (pc + 1) lv (.long (x * y) :: st) I L o) : EvG κ Z Y μ d pc lv (.long y :: .long x :: st) I L o := by
  intro v I' L' ho p l e R s m args below meth c H locs D cI cL ad A ls C Wd hl hY
  exact lv_lmul C.1 C.2.1 (x := x) (y := y) (rest := st.map (trV ad)) hd (k v I' L' ho p l e R s m args below meth c H locs D cI cL ad A ls C Wd hl hY)
theorem ev_land {x y : Int64} (hd : decode μ.2.1 pc = .ok (.land, 1)) (k : EvG κ Z Y μ d (pc + 1) lv (.long (x &&& y) :: st) I L o) : EvG κ Z Y μ d pc lv (.long y :: .long x :: st) I L o := by
  intro v I' L' ho p l e R s m args below meth c H locs D cI cL ad A ls C Wd hl hY
  exact lv_land C.1 C.2.1 (x := x) (y := y) (rest := st.map (trV ad)) hd (k v I' L' ho p l e R s m args below meth c H locs D cI cL ad A ls C Wd hl hY)
theorem ev_lor {x y : Int64} (hd : decode μ.2.1 pc = .ok (.lor, 1)) (k : EvG κ Z Y μ d (pc + 1) lv (.long (x ||| y) :: st) I L o) : EvG κ Z Y μ d pc lv (.long y :: .long x :: st) I L o := by
  intro v I' L' ho p l e R s m args below meth c H locs D cI cL ad A ls C Wd hl hY
  exact lv_lor C.1 C.2.1 (x := x) (y := y) (rest := st.map (trV ad)) hd (k v I' L' ho p l e R s m args below meth c H locs D cI cL ad A ls C Wd hl hY)
theorem ev_ineg {x : Int32} (hd : decode μ.2.1 pc = .ok (.ineg, 1)) (k : EvG κ Z Y μ d (pc + 1) lv (.int (-x) :: st) I L o) : EvG κ Z Y μ d pc lv (.int x :: st) I L o := by
  intro v I' L' ho p l e R s m args below meth c H locs D cI cL ad A ls C Wd hl hY
  exact lv_ineg C.1 C.2.1 (x := x) (rest := st.map (trV ad)) hd (k v I' L' ho p l e R s m args below meth c H locs D cI cL ad A ls C Wd hl hY)
theorem ev_i2l {x : Int32} (hd : decode μ.2.1 pc = .ok (.i2l, 1)) (k : EvG κ Z Y μ d (pc + 1) lv (.long x.toInt64 :: st) I L o) : EvG κ Z Y μ d pc lv (.int x :: st) I L o := by
  intro v I' L' ho p l e R s m args below meth c H locs D cI cL ad A ls C Wd hl hY
  exact lv_i2l C.1 C.2.1 (x := x) (rest := st.map (trV ad)) hd rfl (k v I' L' ho p l e R s m args below meth c H locs D cI cL ad A ls C Wd hl hY)
theorem ev_l2i {x : Int64} (hd : decode μ.2.1 pc = .ok (.l2i, 1)) (k : EvG κ Z Y μ d (pc + 1) lv (.int x.toInt32 :: st) I L o) : EvG κ Z Y μ d pc lv (.long x :: st) I L o := by
  intro v I' L' ho p l e R s m args below meth c H locs D cI cL ad A ls C Wd hl hY
  exact lv_l2i C.1 C.2.1 (x := x) (rest := st.map (trV ad)) hd rfl (k v I' L' ho p l e R s m args below meth c H locs D cI cL ad A ls C Wd hl hY)
def jushr (x y : Int32) : Int32 := (x.toUInt32 >>> (y.toUInt32 &&& Int32.toUInt32 31)).toInt32
def jlushr (x : Int64) (y : Int32) : Int64 := (x.toUInt64 >>> (y.toInt64.toUInt64 &&& Int64.toUInt64 63)).toInt64
def jlshl (x : Int64) (y : Int32) : Int64 := x <<< (y.toInt64 &&& 63)
theorem ev_iushr {x y : Int32} (hd : decode μ.2.1 pc = .ok (.iushr, 1)) (k : EvG κ Z Y μ d (pc + 1) lv (.int (jushr x y) :: st) I L o) : EvG κ Z Y μ d pc lv (.int y :: .int x :: st) I L o := by
  intro v I' L' ho p l e R s m args below meth c H locs D cI cL ad A ls C Wd hl hY
  exact lv_iushr C.1 C.2.1 (x := x) (y := y) (rest := st.map (trV ad)) hd rfl (k v I' L' ho p l e R s m args below meth c H locs D cI cL ad A ls C Wd hl hY)
theorem ev_lushr {x : Int64} {y : Int32} (hd : decode μ.2.1 pc = .ok (.lushr, 1)) (k : EvG κ Z Y μ d (pc + 1) lv (.long (jlushr x y) :: st) I L o) : EvG κ Z Y μ d pc lv (.int y :: .long x :: st) I L o := by
  intro v I' L' ho p l e R s m args below meth c H locs D cI cL ad A ls C Wd hl hY
  exact lv_lushr C.1 C.2.1 (x := x) (y := y) (rest := st.map (trV ad)) hd rfl (k v I' L' ho p l e R s m args below meth c H locs D cI cL ad A ls C Wd hl hY)
theorem ev_lshl {x : Int64} {y : Int32} (hd : decode μ.2.1 pc = .ok (.lshl, 1)) (k : EvG κ Z Y μ d (pc + 1) lv (.long (jlshl x y) :: st) I L o) : EvG κ Z Y μ d pc lv (.int y :: .long x :: st) I L o := by
  intro v I' L' ho p l e R s m args below meth c H locs D cI cL ad A ls C Wd hl hY
  exact lv_lshl C.1 C.2.1 (x := x) (y := y) (rest := st.map (trV ad)) hd rfl (k v I' L' ho p l e R s m args below meth c H locs D cI cL ad A ls C Wd hl hY)
theorem ev_lcmp {x y : Int64} (hd : decode μ.2.1 pc = .ok (.lcmp, 1)) (k : EvG κ Z Y μ d (pc + 1) lv (.int (lg_cmp x y) :: st) I L o) : EvG κ Z Y μ d pc lv (.long y :: .long x :: st) I L o := by
  intro v I' L' ho p l e R s m args below meth c H locs D cI cL ad A ls C Wd hl hY
  exact W.lcmp C.1 C.2.1 (x := x) (y := y) (rest := st.map (trV ad)) hd (k v I' L' ho p l e R s m args below meth c H locs D cI cL ad A ls C Wd hl hY)
def jirem (x y : Int32) : Int32 := x - x / y * y
def jlrem (x y : Int64) : Int64 := x - x / y * y
theorem ev_idiv {x y : Int32} (hd : decode μ.2.1 pc = .ok (.idiv, 1)) (k : EvG κ Z Y μ d (pc + 1) lv (.int (x / y) :: st) I L o) : EvG κ Z Y μ d pc lv (.int y :: .int x :: st) I L (gd (decide (¬ y = 0)) o) := by
  intro v I' L' ho p l e R s m args below meth c H locs D cI cL ad A ls C Wd hl hY
  obtain ⟨hne, ho⟩ := gd_some ho
  exact lv_idiv C.1 C.2.1 (x := x) (y := y) (rest := st.map (trV ad)) hd (of_decide_eq_true hne) (k v I' L' ho p l e R s m args below meth c H locs D cI cL ad A ls C Wd hl hY)
theorem ev_irem {x y : Int32} (hd : decode μ.2.1 pc = .ok (.irem, 1)) (k : EvG κ Z Y μ d (pc + 1) lv (.int (jirem x y) :: st) I L o) : EvG κ Z Y μ d pc lv (.int y :: .int x :: st) I L (gd (decide (¬ y = 0)) o) := by
  intro v I' L' ho p l e R s m args below meth c H locs D cI cL ad A ls C Wd hl hY
  obtain ⟨hne, ho⟩ := gd_some ho
  exact lv_irem C.1 C.2.1 (x := x) (y := y) (rest := st.map (trV ad)) hd (of_decide_eq_true hne) (k v I' L' ho p l e R s m args below meth c H locs D cI cL ad A ls C Wd hl hY)
theorem ev_ldiv {x y : Int64} (hd : decode μ.2.1 pc = .ok (.ldiv, 1)) (k : EvG κ Z Y μ d (pc + 1) lv (.long (x / y) :: st) I L o) : EvG κ Z Y μ d pc lv (.long y :: .long x :: st) I L (gd (decide (¬ y = 0)) o) := by
  intro v I' L' ho p l e R s m args below meth c H locs D cI cL ad A ls C Wd hl hY
  obtain ⟨hne, ho⟩ := gd_some ho
  exact lv_ldiv C.1 C.2.1 (x := x) (y := y) (rest := st.map (trV ad)) hd (of_decide_eq_true hne) (k v I' L' ho p l e R s m args below meth c H locs D cI cL ad A ls C Wd hl hY)
theorem ev_lrem {x y : Int64} (hd : decode μ.2.1 pc = .ok (.lrem, 1)) (k : EvG κ Z Y μ d (pc + 1) lv (.long (jlrem x y) :: st) I L o) : EvG κ Z Y μ d pc lv (.long y :: .long x :: st) I L (gd (decide (¬ y = 0)) o) := by
  intro v I' L' ho p l e R s m args below meth c H locs D cI cL ad A ls C Wd hl hY
  obtain ⟨hne, ho⟩ := gd_some ho
  exact lv_lrem C.1 C.2.1 (x := x) (y := y) (rest := st.map (trV ad)) hd (of_decide_eq_true hne) (k v I' L' ho p l e R s m args below meth c H locs D cI cL ad A ls C Wd hl hY)
theorem ev_dup {w : Value} (hw : w.category = 1) (hd : decode μ.2.1 pc = .ok (.dup, 1)) (k : EvG κ Z Y μ d (pc + 1) lv (w :: w :: st) I L o) : EvG κ Z Y μ d pc lv (w :: st) I L o := by
  intro v I' L' ho p l e R s m args below meth c H locs D cI cL ad A ls C Wd hl hY
  exact lv_dup C.1 C.2.1 (va := trV ad w) (rest := st.map (trV ad)) hd (by rw [trV_cat]; exact hw) (k v I' L' ho p l e R s m args below meth c H locs D cI cL ad A ls C Wd hl hY)
theorem ev_pop {w : Value} (hw : w.category = 1) (hd : decode μ.2.1 pc = .ok (.pop, 1)) (k : EvG κ Z Y μ d (pc + 1) lv (st) I L o) : EvG κ Z Y μ d pc lv (w :: st) I L o := by
  intro v I' L' ho p l e R s m args below meth c H locs D cI cL ad A ls C Wd hl hY
  exact lv_pop C.1 C.2.1 (va := trV ad w) (rest := st.map (trV ad)) hd (by rw [trV_cat]; exact hw) (k v I' L' ho p l e R s m args below meth c H locs D cI cL ad A ls C Wd hl hY)
theorem ev_dup2 {w z : Value} (hw : w.category = 1) (hz : z.category = 1) (hd : decode μ.2.1 pc = .ok (.dup2, 1)) (k : EvG κ Z Y μ d (pc + 1) lv (w :: z :: w :: z :: st) I L o) : EvG κ Z Y μ d pc lv (w :: z :: st) I L o := by
  intro v I' L' ho p l e R s m args below meth c H locs D cI cL ad A ls C Wd hl hY
  exact lv_dup2_11 C.1 C.2.1 (va := trV ad w) (vb := trV ad z) (rest := st.map (trV ad)) hd (by rw [trV_cat]; exact hw) (by rw [trV_cat]; exact hz) (k v I' L' ho p l e R s m args below meth c H locs D cI cL ad A ls C Wd hl hY)
theorem ev_goto {off : Int} (tgt : Nat) (ht : (pc : Int) + off = (tgt : Int)) (hd : decode μ.2.1 pc = .ok (.goto off, 3)) (k : EvG κ Z Y μ d tgt lv st I L o) : EvG κ Z Y μ d pc lv st I L o := by
  intro v I' L' ho p l e R s m args below meth c H locs D cI cL ad A ls C Wd hl hY
  exact lv_goto C.1 C.2.1 hd ht (k v I' L' ho p l e R s m args below meth c H locs D cI cL ad A ls C Wd hl hY)
theorem ev_if_eq {x : Int32} {off : Int} (tgt : Nat) (ht : (pc : Int) + off = (tgt : Int)) (hd : decode μ.2.1 pc = .ok (.ifCond .eq off, 3)) (kt : EvG κ Z Y μ d tgt lv st I L o1) (kf : EvG κ Z Y μ d (pc + 3) lv st I L o2) : EvG κ Z Y μ d pc lv (.int x :: st) I L (if x = 0 then o1 else o2) := by
  intro v I' L' ho p l e R s m args below meth c H locs D cI cL ad A ls C Wd hl hY
  exact lv_if_eq C.1 C.2.1 (x := x) (rest := st.map (trV ad)) hd ht (fun hc => kt v I' L' (by rw [if_pos hc] at ho; exact ho) p l e R s m args below meth c H locs D cI cL ad A ls C Wd hl hY) (fun hc => kf v I' L' (by rw [if_neg hc] at ho; exact ho) p l e R s m args below meth c H locs D cI cL ad A ls C Wd hl hY)
theorem ev_icmp_eq {x y : Int32} {off : Int} (tgt : Nat) (ht : (pc : Int) + off = (tgt : Int)) (hd : decode μ.2.1 pc = .ok (.if_icmp .eq off, 3)) (kt : EvG κ Z Y μ d tgt lv st I L o1) (kf : EvG κ Z Y μ d (pc + 3) lv st I L o2) : EvG κ Z Y μ d pc lv (.int y :: .int x :: st) I L (if x = y then o1 else o2) := by
  intro v I' L' ho p l e R s m args below meth c H locs D cI cL ad A ls C Wd hl hY
  exact lv_icmp_eq C.1 C.2.1 (x := x) (y := y) (rest := st.map (trV ad)) hd ht (fun hc => kt v I' L' (by rw [if_pos hc] at ho; exact ho) p l e R s m args below meth c H locs D cI cL ad A ls C Wd hl hY) (fun hc => kf v I' L' (by rw [if_neg hc] at ho; exact ho) p l e R s m args below meth c H locs D cI cL ad A ls C Wd hl hY)
theorem ev_if_ne {x : Int32} {off : Int} (tgt : Nat) (ht : (pc : Int) + off = (tgt : Int)) (hd : decode μ.2.1 pc = .ok (.ifCond .ne off, 3)) (kt : EvG κ Z Y μ d tgt lv st I L o1) (kf : EvG κ Z Y μ d (pc + 3) lv st I L o2) : EvG κ Z Y μ d pc lv (.int x :: st) I L (if x = 0 then o2 else o1) := by
  intro v I' L' ho p l e R s m args below meth c H locs D cI cL ad A ls C Wd hl hY
  exact lv_if_ne C.1 C.2.1 (x := x) (rest := st.map (trV ad)) hd ht (fun hc => kt v I' L' (by rw [if_neg hc] at ho; exact ho) p l e R s m args below meth c H locs D cI cL ad A ls C Wd hl hY) (fun hc => kf v I' L' (by rw [if_pos hc] at ho; exact ho) p l e R s m args below meth c H locs D cI cL ad A ls C Wd hl hY)
theorem ev_icmp_ne {x y : Int32} {off : Int} (tgt : Nat) (ht : (pc : Int) + off = (tgt : Int)) (hd : decode μ.2.1 pc = .ok (.if_icmp .ne off, 3)) (kt : EvG κ Z Y μ d tgt lv st I L o1) (kf : EvG κ Z Y μ d (pc + 3) lv st I L o2) : EvG κ Z Y μ d pc lv (.int y :: .int x :: st) I L (if x = y then o2 else o1) := by
  intro v I' L' ho p l e R s m args below meth c H locs D cI cL ad A ls C Wd hl hY
  exact lv_icmp_ne C.1 C.2.1 (x := x) (y := y) (rest := st.map (trV ad)) hd ht (fun hc => kt v I' L' (by rw [if_neg hc] at ho; exact ho) p l e R s m args below meth c H locs D cI cL ad A ls C Wd hl hY) (fun hc => kf v I' L' (by rw [if_pos hc] at ho; exact ho) p l e R s m args below meth c H locs D cI cL ad A ls C Wd hl hY)
theorem ev_if_lt {x : Int32} {off : Int} (tgt : Nat) (ht : (pc : Int) + off = (tgt : Int)) (hd : decode μ.2.1 pc = .ok (.ifCond .lt off, 3)) (kt : EvG κ Z Y μ d tgt lv st I L o1) (kf : EvG κ Z Y μ d (pc + 3) lv st I L o2) : EvG κ Z Y μ d pc lv (.int x :: st) I L (if x < 0 then o1 else o2) := by
  intro v I' L' ho p l e R s m args below meth c H locs D cI cL ad A ls C Wd hl hY
  exact lv_if_lt C.1 C.2.1 (x := x) (rest := st.map (trV ad)) hd ht (fun hc => kt v I' L' (by rw [if_pos hc] at ho; exact ho) p l e R s m args below meth c H locs D cI cL ad A ls C Wd hl hY) (fun hc => kf v I' L' (by rw [if_neg hc] at ho; exact ho) p l e R s m args below meth c H locs D cI cL ad A ls C Wd hl hY)
theorem ev_icmp_lt {x y : Int32} {off : Int} (tgt : Nat) (ht : (pc : Int) + off = (tgt : Int)) (hd : decode μ.2.1 pc = .ok (.if_icmp .lt off, 3)) (kt : EvG κ Z Y μ d tgt lv st I L o1) (kf : EvG κ Z Y μ d (pc + 3) lv st I L o2) : EvG κ Z Y μ d pc lv (.int y :: .int x :: st) I L (if x < y then o1 else o2) := by
  intro v I' L' ho p l e R s m args below meth c H locs D cI cL ad A ls C Wd hl hY
  exact lv_icmp_lt C.1 C.2.1 (x := x) (y := y) (rest := st.map (trV ad)) hd ht (fun hc => kt v I' L' (by rw [if_pos hc] at ho; exact ho) p l e R s m args below meth c H locs D cI cL ad A ls C Wd hl hY) (fun hc => kf v I' L' (by rw [if_neg hc] at ho; exact ho) p l e R s m args below meth c H locs D cI cL ad A ls C Wd hl hY)
theorem ev_if_ge {x : Int32} {off : Int} (tgt : Nat) (ht : (pc : Int) + off = (tgt : Int)) (hd : decode μ.2.1 pc = .ok (.ifCond .ge off, 3)) (kt : EvG κ Z Y μ d tgt lv st I L o1) (kf : EvG κ Z Y μ d (pc + 3) lv st I L o2) : EvG κ Z Y μ d pc lv (.int x :: st) I L (if 0 ≤ x then o1 else o2) := by
  intro v I' L' ho p l e R s m args below meth c H locs D cI cL ad A ls C Wd hl hY
  exact lv_if_ge C.1 C.2.1 (x := x) (rest := st.map (trV ad)) hd ht (fun hc => kt v I' L' (by rw [if_pos hc] at ho; exact ho) p l e R s m args below meth c H locs D cI cL ad A ls C Wd hl hY) (fun hc => kf v I' L' (by rw [if_neg hc] at ho; exact ho) p l e R s m args below meth c H locs D cI cL ad A ls C Wd hl hY)
theorem ev_icmp_ge {x y : Int32} {off : Int} (tgt : Nat) (ht : (pc : Int) + off = (tgt : Int)) (hd : decode μ.2.1 pc = .ok (.if_icmp .ge off, 3)) (kt : EvG κ Z Y μ d tgt lv st I L o1) (kf : EvG κ Z Y μ d (pc + 3) lv st I L o2) : EvG κ Z Y μ d pc lv (.int y :: .int x :: st) I L (if y ≤ x then o1 else o2) := by
  intro v I' L' ho p l e R s m args below meth c H locs D cI cL ad A ls C Wd hl hY
  exact lv_icmp_ge C.1 C.2.1 (x := x) (y := y) (rest := st.map (trV ad)) hd ht (fun hc => kt v I' L' (by rw [if_pos hc] at ho; exact ho) p l e R s m args below meth c H locs D cI cL ad A ls C Wd hl hY) (fun hc => kf v I' L' (by rw [if_neg hc] at ho; exact ho) p l e R s m args below meth c H locs D cI cL ad A ls C Wd hl hY)
theorem ev_if_gt {x : Int32} {off : Int} (tgt : Nat) (ht : (pc : Int) + off = (tgt : Int)) (hd : decode μ.2.1 pc = .ok (.ifCond .gt off, 3)) (kt : EvG κ Z Y μ d tgt lv st I L o1) (kf : EvG κ Z Y μ d (pc + 3) lv st I L o2) : EvG κ Z Y μ d pc lv (.int x :: st) I L (if 0 < x then o1 else o2) := by
  intro v I' L' ho p l e R s m args below meth c H locs D cI cL ad A ls C Wd hl hY
  exact lv_if_gt C.1 C.2.1 (x := x) (rest := st.map (trV ad)) hd ht (fun hc => kt v I' L' (by rw [if_pos hc] at ho; exact ho) p l e R s m args below meth c H locs D cI cL ad A ls C Wd hl hY) (fun hc => kf v I' L' (by rw [if_neg hc] at ho; exact ho) p l e R s m args below meth c H locs D cI cL ad A ls C Wd hl hY)
theorem ev_icmp_gt {x y : Int32} {off : Int} (tgt : Nat) (ht : (pc : Int) + off = (tgt : Int)) (hd : decode μ.2.1 pc = .ok (.if_icmp .gt off, 3)) (kt : EvG κ Z Y μ d tgt lv st I L o1) (kf : EvG κ Z Y μ d (pc + 3) lv st I L o2) : EvG κ Z Y μ d pc lv (.int y :: .int x :: st) I L (if y < x then o1 else o2) := by
  intro v I' L' ho p l e R s m args below meth c H locs D cI cL ad A ls C Wd hl hY
  exact lv_icmp_gt C.1 C.2.1 (x := x) (y := y) (rest := st.map (trV ad)) hd ht (fun hc => kt v I' L' (by rw [if_pos hc] at ho; exact ho) p l e R s m args below meth c H locs D cI cL ad A ls C Wd hl hY) (fun hc => kf v I' L' (by rw [if_neg hc] at ho; exact ho) p l e R s m args below meth c H locs D cI cL ad A ls C Wd hl hY)
theorem ev_if_le {x : Int32} {off : Int} (tgt : Nat) (ht : (pc : Int) + off = (tgt : Int)) (hd : decode μ.2.1 pc = .ok (.ifCond .le off, 3)) (kt : EvG κ Z Y μ d tgt lv st I L o1) (kf : EvG κ Z Y μ d (pc + 3) lv st I L o2) : EvG κ Z Y μ d pc lv (.int x :: st) I L (if x ≤ 0 then o1 else o2) := by
  intro v I' L' ho p l e R s m args below meth c H locs D cI cL ad A ls C Wd hl hY
  exact lv_if_le C.1 C.2.1 (x := x) (rest := st.map (trV ad)) hd ht (fun hc => kt v I' L' (by rw [if_pos hc] at ho; exact ho) p l e R s m args below meth c H locs D cI cL ad A ls C Wd hl hY) (fun hc => kf v I' L' (by rw [if_neg hc] at ho; exact ho) p l e R s m args below meth c H locs D cI cL ad A ls C Wd hl hY)
theorem ev_icmp_le {x y : Int32} {off : Int} (tgt : Nat) (ht : (pc : Int) + off = (tgt : Int)) (hd : decode μ.2.1 pc = .ok (.if_icmp .le off, 3)) (kt : EvG κ Z Y μ d tgt lv st I L o1) (kf : EvG κ Z Y μ d (pc + 3) lv st I L o2) : EvG κ Z Y μ d pc lv (.int y :: .int x :: st) I L (if x ≤ y then o1 else o2) := by
  intro v I' L' ho p l e R s m args below meth c H locs D cI cL ad A ls C Wd hl hY
  exact lv_icmp_le C.1 C.2.1 (x := x) (y := y) (rest := st.map (trV ad)) hd ht (fun hc => kt v I' L' (by rw [if_pos hc] at ho; exact ho) p l e R s m args below meth c H locs D cI cL ad A ls C Wd hl hY) (fun hc => kf v I' L' (by rw [if_neg hc] at ho; exact ho) p l e R s m args below meth c H locs D cI cL ad A ls C Wd hl hY)
theorem ev_iald {c0 n : Nat} {i : Int32} (hK : K0[c0]? = some (0, n, [])) (hd : decode μ.2.1 pc = .ok (.iaload, 1)) (k : EvG κ Z Y μ d (pc + 1) lv (.int (I c0 i.toNatClampNeg) :: st) I L o) : EvG κ Z Y μ d pc lv (.int i :: .ref c0 :: st) I L (gd (inb i n) o) := by
  intro v I' L' ho p l e R s m args below meth c H locs D cI cL ad A ls C Wd hl hY
  obtain ⟨hin, ho⟩ := gd_some ho
  exact va_iald C.1 C.2.1 Wd.1 Wd.2.1 c0 0 (ws_arrI hK) rfl (inb_in hin) hd (k v I' L' ho p l e R s m args below meth c H locs D cI cL ad A ls C Wd hl hY)
theorem ev_lald {c0 n : Nat} {i : Int32} (hK : K0[c0]? = some (1, n, [])) (hd : decode μ.2.1 pc = .ok (.laload, 1)) (k : EvG κ Z Y μ d (pc + 1) lv (.long (L c0 i.toNatClampNeg) :: st) I L o) : EvG κ Z Y μ d pc lv (.int i :: .ref c0 :: st) I L (gd (inb i n) o) := by
  intro v I' L' ho p l e R s m args below meth c H locs D cI cL ad A ls C Wd hl hY
  obtain ⟨hin, ho⟩ := gd_some ho
  exact va_lald C.1 C.2.1 Wd.1 Wd.2.1 c0 1 (ws_arrL hK) rfl (inb_in hin) hd (k v I' L' ho p l e R s m args below meth c H locs D cI cL ad A ls C Wd hl hY)
theorem ev_iast {c0 n : Nat} {i x : Int32} (hK : K0[c0]? = some (0, n, [])) (hd : decode μ.2.1 pc = .ok (.iastore, 1)) (k : EvG κ Z Y μ d (pc + 1) lv st (uI I c0 i.toNatClampNeg x) L o) : EvG κ Z Y μ d pc lv (.int x :: .int i :: .ref c0 :: st) I L (gd (inb i n) o) := by
  intro v I' L' ho p l e R s m args below meth c H locs D cI cL ad A ls C Wd hl hY
  obtain ⟨hin, ho⟩ := gd_some ho
  refine va_iast C.1 C.2.1 Wd.1 Wd.2.1 Wd.2.2.1 Wd.2.2.2.1 c0 0 (ws_arrI hK) rfl (inb_in hin) hd (fun H1 locs1 hP hD hS => ?_)
  rw [ws_setI hK] at hP hD
  exact k v I' L' ho p l e R s m args below meth c H1 locs1 D cI cL ad A ls C ⟨Wd.1, hP, hD, hS, Wd.2.2.2.2⟩ hl hY
theorem ev_last {c0 n : Nat} {i : Int32} {x : Int64} (hK : K0[c0]? = some (1, n, [])) (hd : decode μ.2.1 pc = .ok (.lastore, 1)) (k : EvG κ Z Y μ d (pc + 1) lv st I (uL L c0 i.toNatClampNeg x) o) : EvG κ Z Y μ d pc lv (.long x :: .int i :: .ref c0 :: st) I L (gd (inb i n) o) := by
  intro v I' L' ho p l e R s m args below meth c H locs D cI cL ad A ls C Wd hl hY
  obtain ⟨hin, ho⟩ := gd_some ho
  refine va_last C.1 C.2.1 Wd.1 Wd.2.1 Wd.2.2.1 Wd.2.2.2.1 c0 1 (ws_arrL hK) rfl (inb_in hin) hd (fun H1 locs1 hP hD hS => ?_)
  rw [ws_setL hK] at hP hD
  exact k v I' L' ho p l e R s m args below meth c H1 locs1 D cI cL ad A ls C ⟨Wd.1, hP, hD, hS, Wd.2.2.2.2⟩ hl hY
theorem ev_alenI {c0 n : Nat} (x : Int32) (hx : Int32.ofNat n = x) (hK : K0[c0]? = some (0, n, [])) (hd : decode μ.2.1 pc = .ok (.arraylength, 1)) (k : EvG κ Z Y μ d (pc + 1) lv (.int x :: st) I L o) : EvG κ Z Y μ d pc lv (.ref c0 :: st) I L o := by
  intro v I' L' ho p l e R s m args below meth c H locs D cI cL ad A ls C Wd hl hY
  exact va_alen C.1 C.2.1 Wd.1 Wd.2.1 c0 0 (ws_arrI hK) rfl hx hd (k v I' L' ho p l e R s m args below meth c H locs D cI cL ad A ls C Wd hl hY)
theorem ev_alenL {c0 n : Nat} (x : Int32) (hx : Int32.ofNat n = x) (hK : K0[c0]? = some (1, n, [])) (hd : decode μ.2.1 pc = .ok (.arraylength, 1)) (k : EvG κ Z Y μ d (pc + 1) lv (.int x :: st) I L o) : EvG κ Z Y μ d pc lv (.ref c0 :: st) I L o := by
  intro v I' L' ho p l e R s m args below meth c H locs D cI cL ad A ls C Wd hl hY
  exact va_alen C.1 C.2.1 Wd.1 Wd.2.1 c0 1 (ws_arrL hK) rfl hx hd (k v I' L' ho p l e R s m args below meth c H locs D cI cL ad A ls C Wd hl hY)
theorem ev_getV {c0 ci z k9 ix N x9 : Nat} {C9 : String} {T9 : u_T} {fs : List Nat} {w : Value} (hc : vwCl[ci]? = some (C9, T9, N)) (hin : ∀ w ∈ u_ws C9 T9 N, w ∈ WL) (hk : k9 < N) (hlink : Cond.fieldLink μ.1.cls ix (T9 k9).1 (T9 k9).2.1 (T9 k9).2.2.1 ∈ WL) (hK : K0[c0]? = some (ci + 2, z, fs)) (hx : fs[k9]? = some x9) (hw : ∀ ad : Nat → Nat, fvV ad I L c0 k9 x9 = trV ad w)
    (hd : decode μ.2.1 pc = .ok (.getfield ix, 3)) (k : EvG κ Z Y μ d (pc + 3) lv (w :: st) I L o) : EvG κ Z Y μ d pc lv (.ref c0 :: st) I L o := by
  intro v I' L' ho p l e R s m args below meth c H locs D cI cL ad A ls C Wd hl hY
  refine va_get C.1 C.2.1 (a := ad c0) (rest := st.map (trV ad)) C.2.2.2.2.1 hin C.2.2.2.2.2.1 Wd.1 Wd.2.1 c0 (ws_obj hK) hc k9 hk (C.2.2.2.2.1 _ hlink) (fun _ h => h) (v := trV ad w) ?_ hd (k v I' L' ho p l e R s m args below meth c H locs D cI cL ad A ls C Wd hl hY)
  rw [fvs_get, hx, Nat.zero_add, Option.map_some, hw]
theorem ev_getN {c0 ci z k9 ix N x9 : Nat} {C9 host : String} {T9 : u_T} {fs : List Nat} {w : Value} (hc : vwCl[ci]? = some (C9, T9, N)) (hin : ∀ w ∈ u_ws C9 T9 N, w ∈ WL) (hk : k9 < N) (hlink : (μ.1.cls, ix, (T9 k9).1, (T9 k9).2.1, (T9 k9).2.2.1, host) ∈ nestF) (hK : K0[c0]? = some (ci + 2, z, fs)) (hx : fs[k9]? = some x9) (hw : ∀ ad : Nat → Nat, fvV ad I L c0 k9 x9 = trV ad w)
    (hd : decode μ.2.1 pc = .ok (.getfield ix, 3)) (k : EvG κ Z Y μ d (pc + 3) lv (w :: st) I L o) : EvG κ Z Y μ d pc lv (.ref c0 :: st) I L o := by
  intro v I' L' ho p l e R s m args below meth c H locs D cI cL ad A ls C Wd hl hY
  refine va_getN C.1 C.2.1 (a := ad c0) (rest := st.map (trV ad)) (host := host) C.2.2.2.2.1 hin C.2.2.2.2.2.1 Wd.1 Wd.2.1 c0 (ws_obj hK) hc k9 hk (va_Nw.use rfl (Wd.2.2.2.2.2.1.1 _ hlink)) (fun _ h => h) (v := trV ad w) ?_ hd (k v I' L' ho p l e R s m args below meth c H locs D cI cL ad A ls C Wd hl hY)
  rw [fvs_get, hx, Nat.zero_add, Option.map_some, hw]
theorem ev_putI {c0 ci z k9 ix N : Nat} {C9 : String} {T9 : u_T} {fs : List Nat} {x : Int32} (ty0 : Nat → FieldType) (hc : vwCl[ci]? = some (C9, T9, N)) (hin : ∀ w ∈ u_ws C9 T9 N, w ∈ WL) (hty : ∀ k, k < N → parseFieldDescriptor (T9 k).2.2.1 = some (ty0 k)) (hnm : ∀ a, a < N → ∀ b, b < N → a ≠ b → (T9 a).2.1 ≠ (T9 b).2.1) (hk : k9 < N) (hlink : Cond.fieldLink μ.1.cls ix (T9 k9).1 (T9 k9).2.1 (T9 k9).2.2.1 ∈ WL) (hfin : (T9 k9).2.2.2 = false) (hK : K0[c0]? = some (ci + 2, z, fs)) (hx : fs[k9]? = some 0) (hn : narrow (ty0 k9) (.int x) = .int x) (hf : fits (ty0 k9) (.int x) = true)
    (hd : decode μ.2.1 pc = .ok (.putfield ix, 3)) (k : EvG κ Z Y μ d (pc + 3) lv st (uI I c0 k9 x) L o) : EvG κ Z Y μ d pc lv (.int x :: .ref c0 :: st) I L o := by
  intro v I' L' ho p l e R s m args below meth c H locs D cI cL ad A ls C Wd hl hY
  refine va_put C.1 C.2.1 (a := ad c0) (rest := st.map (trV ad)) C.2.2.2.2.1 hin ty0 hty hnm C.2.2.2.2.2.1 Wd.1 Wd.2.1 Wd.2.2.1 Wd.2.2.2.1 c0 (ws_obj hK) hc k9 hk (C.2.2.2.2.1 _ hlink) (fun _ h => h) hfin (v := .int x) (hty k9 hk) hn hf (by rw [fvs_len]; exact (List.getElem?_eq_some_iff.mp hx).1) hd (fun H1 locs1 hP hD hS => ?_)
  rw [ws_setFI hK hx] at hP hD
  exact k v I' L' ho p l e R s m args below meth c H1 locs1 D cI cL ad A ls C ⟨Wd.1, hP, hD, hS, Wd.2.2.2.2⟩ hl hY
theorem ev_putJ {c0 ci z k9 ix N : Nat} {C9 : String} {T9 : u_T} {fs : List Nat} {x : Int64} (ty0 : Nat → FieldType) (hc : vwCl[ci]? = some (C9, T9, N)) (hin : ∀ w ∈ u_ws C9 T9 N, w ∈ WL) (hty : ∀ k, k < N → parseFieldDescriptor (T9 k).2.2.1 = some (ty0 k)) (hnm : ∀ a, a < N → ∀ b, b < N → a ≠ b → (T9 a).2.1 ≠ (T9 b).2.1) (hk : k9 < N) (hlink : Cond.fieldLink μ.1.cls ix (T9 k9).1 (T9 k9).2.1 (T9 k9).2.2.1 ∈ WL) (hfin : (T9 k9).2.2.2 = false) (hK : K0[c0]? = some (ci + 2, z, fs)) (hx : fs[k9]? = some 1) (hn : narrow (ty0 k9) (.long x) = .long x) (hf : fits (ty0 k9) (.long x) = true)
    (hd : decode μ.2.1 pc = .ok (.putfield ix, 3)) (k : EvG κ Z Y μ d (pc + 3) lv st I (uL L c0 k9 x) o) : EvG κ Z Y μ d pc lv (.long x :: .ref c0 :: st) I L o := by
  intro v I' L' ho p l e R s m args below meth c H locs D cI cL ad A ls C Wd hl hY
  refine va_put C.1 C.2.1 (a := ad c0) (rest := st.map (trV ad)) C.2.2.2.2.1 hin ty0 hty hnm C.2.2.2.2.2.1 Wd.1 Wd.2.1 Wd.2.2.1 Wd.2.2.2.1 c0 (ws_obj hK) hc k9 hk (C.2.2.2.2.1 _ hlink) (fun _ h => h) hfin (v := .long x) (hty k9 hk) hn hf (by rw [fvs_len]; exact (List.getElem?_eq_some_iff.mp hx).1) hd (fun H1 locs1 hP hD hS => ?_)
  rw [ws_setFL hK hx] at hP hD
  exact k v I' L' ho p l e R s m args below meth c H1 locs1 D cI cL ad A ls C ⟨Wd.1, hP, hD, hS, Wd.2.2.2.2⟩ hl hY
theorem ev_iret {x : Int32} (hr : μ.2.2.2 = some .int) (hd : decode μ.2.1 pc = .ok (.ireturn, 1)) : EvW μ d pc lv [.int x] I L (some (some (.int x), I, L)) := by
  intro v I' L' ho p l e R s m args below meth c H locs D cI cL ad A ls C Wd hl hY
  cases ho
  exact W.iret C.1 C.2.1 (C.2.2.2.1.trans hr) (fun t ht hW => ⟨⟨rfl, by rw [ht]; exact Wd.2.1, va_K.moved hW.alike Wd.1, Wd.2.2.1⟩, Wd.2.2.2.1.F ht⟩) Wd.2.2.2.1.2.2 hd (hlocks := C.2.2.2.2.2.2.1)
theorem ev_lret {x : Int64} (hr : μ.2.2.2 = some .long) (hd : decode μ.2.1 pc = .ok (.lreturn, 1)) : EvW μ d pc lv [.long x] I L (some (some (.long x), I, L)) := by
  intro v I' L' ho p l e R s m args below meth c H locs D cI cL ad A ls C Wd hl hY
  cases ho
  exact W.lret C.1 C.2.1 (C.2.2.2.1.trans hr) (fun t ht hW => ⟨⟨rfl, by rw [ht]; exact Wd.2.1, va_K.moved hW.alike Wd.1, Wd.2.2.1⟩, Wd.2.2.2.1.F ht⟩) Wd.2.2.2.1.2.2 hd (hlocks := C.2.2.2.2.2.2.1)
theorem ev_zret {x : Int32} (hr : μ.2.2.2 = some .boolean) (hd : decode μ.2.1 pc = .ok (.ireturn, 1)) : EvW μ d pc lv [.int x] I L (gd (decide (x &&& 1 = x)) (some (some (.int x), I, L))) := by
  intro v I' L' ho p l e R s m args below meth c H locs D cI cL ad A ls C Wd hl hY
  obtain ⟨hz, ho⟩ := gd_some ho
  cases ho
  exact W.zret C.1 C.2.1 (C.2.2.2.1.trans hr) (by show Value.int (x &&& 1) = Value.int x; rw [of_decide_eq_true hz]) (fun t ht hW => ⟨⟨rfl, by rw [ht]; exact Wd.2.1, va_K.moved hW.alike Wd.1, Wd.2.2.1⟩, Wd.2.2.2.1.F ht⟩) Wd.2.2.2.1.2.2 hd (hlocks := C.2.2.2.2.2.2.1)
theorem ev_vret (hr : μ.2.2.2 = none) (hd : decode μ.2.1 pc = .ok (.return_, 1)) : EvW μ d pc lv [] I L (some (none, I, L)) := by
  intro v I' L' ho p l e R s m args below meth c H locs D cI cL ad A ls C Wd hl hY
  cases ho
  exact W.vret C.1 C.2.1 (C.2.2.2.1.trans hr) (fun t ht hW => ⟨⟨rfl, by rw [ht]; exact Wd.2.1, va_K.moved hW.alike Wd.1, Wd.2.2.1⟩, Wd.2.2.2.1.F ht⟩) Wd.2.2.2.1.2.2 hd (hlocks := C.2.2.2.2.2.2.1)
end EV
