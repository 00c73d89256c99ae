/-! laws: what both write of a text, and how both go on together -/
def chT (t : Nat × Nat) : Nat := if t.1 = 1 then (if t.2 = 0 then 107 else if t.2 = 1 then 110 else if t.2 = 2 then 97 else 98) else if t.1 = 2 then 43 else if t.1 = 3 then 45 else if t.1 = 4 then 42 else if t.1 = 5 then 47 else if t.1 = 6 then 61 else if t.1 = 7 then 60 else if t.1 = 8 then 62 else if t.1 = 9 then 33 else if t.1 = 10 then 38 else 124
def eC (t : Nat × Nat) : Int32 := if t.1 = 0 then nI t.2 else -(nI (chT t))
def holdL (x : Int64) : Int32 := Int64.toInt32 (jmaxJ (-1000000 : Int64) (jminJ 1000000 x))
/-- one joined with another, as both do it -/
def opL (k : Nat) (a b : Int32) : Int32 := if k = 2 then holdL (Int32.toInt64 a + Int32.toInt64 b) else if k = 3 then holdL (Int32.toInt64 a - Int32.toInt64 b) else if k = 4 then holdL (Int32.toInt64 a * Int32.toInt64 b) else if k = 5 then (if b = 0 then 0 else holdL (Int32.toInt64 a / Int32.toInt64 b)) else if k = 6 then (if a = b then 1 else 0) else if k = 7 then (if b ≤ a then 0 else 1) else if k = 8 then (if a ≤ b then 0 else 1) else if k = 10 then a &&& b else a ||| b
def b01 (a : Int32) : Bool := decide (a = 0 ∨ a = 1)
def ev1 (ls : Nat → Int32) (t : Nat × Nat) (st : List Int32) : Option (List Int32) :=
  if t.1 = 0 then (if t.2 ≤ 9999 ∧ st.length < 80 then some (nI t.2 :: st) else none)
  else if t.1 = 1 then (if t.2 < 4 ∧ st.length < 80 then some (ls t.2 :: st) else none)
  else if t.1 = 9 then (match st with
    | a :: r => if b01 a = true then some ((if a = 0 then 1 else 0) :: r) else none
    | [] => none)
  else if t.1 ≤ 8 then (match st with
    | b :: a :: r => some (opL t.1 a b :: r)
    | _ => none)
  else if t.1 ≤ 11 then (match st with
    | b :: a :: r => if b01 a = true ∧ b01 b = true then some (opL t.1 a b :: r) else none
    | _ => none)
  else none
def evL (ls : Nat → Int32) : List (Nat × Nat) → List Int32 → Option (List Int32)
  | [], st => some st
  | t :: w, st => (ev1 ls t st).bind (evL ls w)
theorem evL_app (ls : Nat → Int32) : ∀ (w u : List (Nat × Nat)) (st : List Int32), evL ls (w ++ u) st = (evL ls w st).bind (evL ls u)
  | [], u, st => rfl
  | t :: w, u, st => by
    show (ev1 ls t st).bind (evL ls (w ++ u)) = ((ev1 ls t st).bind (evL ls w)).bind (evL ls u)
    cases ev1 ls t st with
    | none => rfl
    | some s => exact evL_app ls w u s
/-- works out to one value, with room for r -/
def Gd (lg : Bool) (r : Nat) (w : List (Nat × Nat)) : Prop := ∀ ls : Nat → Int32, ∃ v : Int32, (lg = true → b01 v = true) ∧ ∀ st : List Int32, st.length + r ≤ 80 → evL ls w st = some (v :: st)
theorem Gd.mono {lg : Bool} {r r' : Nat} {w : List (Nat × Nat)} (h : Gd lg r w) (hr : r ≤ r') : Gd lg r' w := fun ls => by
  obtain ⟨v, h1, h2⟩ := h ls
  exact ⟨v, h1, fun st q => h2 st (by omega)⟩
theorem Gd_num {v : Nat} (h : v ≤ 9999) : Gd false 1 [(0, v)] := fun ls => ⟨nI v, (fun q => by cases q), fun st q => by
  show (if v ≤ 9999 ∧ st.length < 80 then some (nI v :: st) else none).bind (evL ls []) = _
  rw [if_pos ⟨h, by omega⟩]; rfl⟩
theorem Gd_let {v : Nat} (h : v < 4) : Gd false 1 [(1, v)] := fun ls => ⟨ls v, (fun q => by cases q), fun st q => by
  show (if v < 4 ∧ st.length < 80 then some (ls v :: st) else none).bind (evL ls []) = _
  rw [if_pos ⟨h, by omega⟩]; rfl⟩
theorem opL_01 {k : Nat} {a b : Int32} (h : k = 6 ∨ k = 7 ∨ k = 8) : b01 (opL k a b) = true := by
  have d0 : b01 0 = true := by decide
  have d1 : b01 1 = true := by decide
  unfold opL
  rcases h with rfl | rfl | rfl
  · rw [if_neg (by decide), if_neg (by decide), if_neg (by decide), if_neg (by decide), if_pos (by decide)]
    by_cases q : a = b
    · rw [if_pos q]; exact d1
    · rw [if_neg q]; exact d0
  · rw [if_neg (by decide), if_neg (by decide), if_neg (by decide), if_neg (by decide), if_neg (by decide), if_pos (by decide)]
    by_cases q : b ≤ a
    · rw [if_pos q]; exact d0
    · rw [if_neg q]; exact d1
  · rw [if_neg (by decide), if_neg (by decide), if_neg (by decide), if_neg (by decide), if_neg (by decide), if_neg (by decide), if_pos (by decide)]
    by_cases q : a ≤ b
    · rw [if_pos q]; exact d0
    · rw [if_neg q]; exact d1
theorem Gd_op {r : Nat} {k : Nat} {w u : List (Nat × Nat)} (h1 : Gd false r w) (h2 : Gd false (r - 1) u) (hr : 1 ≤ r) (hk : 2 ≤ k) (hk2 : k ≤ 8) : Gd (decide (6 ≤ k)) r (w ++ (u ++ [(k, 0)])) := fun ls => by
  obtain ⟨a, -, ha⟩ := h1 ls
  obtain ⟨b, -, hb⟩ := h2 ls
  refine ⟨opL k a b, fun q => opL_01 (by have := of_decide_eq_true q; omega), fun st q => ?_⟩
  rw [evL_app, ha st q]
  show evL ls (u ++ [(k, 0)]) (a :: st) = _
  rw [evL_app, hb (a :: st) (by rw [List.length_cons]; omega)]
  show (ev1 ls (k, 0) (b :: a :: st)).bind (evL ls []) = _
  have e : ev1 ls (k, 0) (b :: a :: st) = some (opL k a b :: st) := by
    unfold ev1
    rw [if_neg (by show ¬ k = 0; omega), if_neg (by show ¬ k = 1; omega), if_neg (by show ¬ k = 9; omega), if_pos (by show k ≤ 8; omega)]
  rw [e]; rfl
theorem b01_or {a : Int32} (h : b01 a = true) : a = 0 ∨ a = 1 := of_decide_eq_true h
theorem opL_lg {k : Nat} {a b : Int32} (h : k = 10 ∨ k = 11) (ha : b01 a = true) (hb : b01 b = true) : b01 (opL k a b) = true := by
  rcases h with rfl | rfl <;> rcases b01_or ha with rfl | rfl <;> rcases b01_or hb with rfl | rfl <;> decide +kernel
theorem Gd_lg {r : Nat} {k : Nat} {w u : List (Nat × Nat)} (h1 : Gd true r w) (h2 : Gd true (r - 1) u) (hr : 1 ≤ r) (hk : k = 10 ∨ k = 11) : Gd true r (w ++ (u ++ [(k, 0)])) := fun ls => by
  obtain ⟨a, a1, ha⟩ := h1 ls
  obtain ⟨b, b1, hb⟩ := h2 ls
  refine ⟨opL k a b, fun _ => opL_lg hk (a1 rfl) (b1 rfl), fun st q => ?_⟩
  rw [evL_app, ha st q]
  show evL ls (u ++ [(k, 0)]) (a :: st) = _
  rw [evL_app, hb (a :: st) (by rw [List.length_cons]; omega)]
  show (ev1 ls (k, 0) (b :: a :: st)).bind (evL ls []) = _
  have e : ev1 ls (k, 0) (b :: a :: st) = some (opL k a b :: st) := by
    unfold ev1
    rw [if_neg (by show ¬ k = 0; omega), if_neg (by show ¬ k = 1; omega), if_neg (by show ¬ k = 9; omega), if_neg (by show ¬ k ≤ 8; omega), if_pos (by show k ≤ 11; omega)]
    show (if b01 a = true ∧ b01 b = true then some (opL k a b :: st) else none) = _
    rw [if_pos ⟨a1 rfl, b1 rfl⟩]
  rw [e]; rfl
theorem Gd_not {r : Nat} {w : List (Nat × Nat)} (h1 : Gd true r w) : Gd true r (w ++ [(9, 0)]) := fun ls => by
  obtain ⟨a, a1, ha⟩ := h1 ls
  refine ⟨if a = 0 then 1 else 0, fun _ => ?_, fun st q => ?_⟩
  · by_cases q : a = 0
    · rw [if_pos q]; decide
    · rw [if_neg q]; decide
  · rw [evL_app, ha st q]
    show (ev1 ls (9, 0) (a :: st)).bind (evL ls []) = _
    have e : ev1 ls (9, 0) (a :: st) = some ((if a = 0 then 1 else 0) :: st) := by
      unfold ev1
      rw [if_neg (by decide), if_neg (by decide), if_pos (by decide)]
      show (if b01 a = true then some ((if a = 0 then (1 : Int32) else 0) :: st) else none) = _
      rw [if_pos (a1 rfl)]
    rw [e]; rfl
/-- a row that holds a list -/
def seg (A : Nat → Int32) (f : Nat × Nat → Int32) : Nat → List (Nat × Nat) → Prop
  | _, [] => True
  | m, t :: w => A m = f t ∧ seg A f (m + 1) w
theorem seg_app {A : Nat → Int32} {f : Nat × Nat → Int32} : ∀ (w : List (Nat × Nat)) {u : List (Nat × Nat)} {m : Nat}, seg A f m w → seg A f (m + w.length) u → seg A f m (w ++ u)
  | [], u, m, _, h => h
  | t :: w, u, m, h, h2 => ⟨h.1, seg_app w h.2 (by rw [List.length_cons, show m + (w.length + 1) = m + 1 + w.length by omega] at h2; exact h2)⟩
theorem seg_cong {A B : Nat → Int32} {f : Nat × Nat → Int32} : ∀ (w : List (Nat × Nat)) {m : Nat}, (∀ j, j < m + w.length → B j = A j) → seg A f m w → seg B f m w
  | [], m, _, _ => trivial
  | t :: w, m, h, h2 => ⟨(h m (by rw [List.length_cons]; omega)).trans h2.1, seg_cong w (fun j hj => h j (by rw [List.length_cons]; omega)) h2.2⟩
theorem seg_one {A : Nat → Int32} {f : Nat × Nat → Int32} {m : Nat} {t : Nat × Nat} (h : A m = f t) : seg A f m [t] := ⟨h, trivial⟩
