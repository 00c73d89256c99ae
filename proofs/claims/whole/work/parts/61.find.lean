/-! answers that change but what nothing rests on -/
/-- from any state that is I but on F, f answers y and changes but F -/
def An (F : Nat → Nat → Prop) (I : PI) (L : PL) (f : PI → PL → RES) (y : Int32) : Prop := ∀ I', Kp F I I' → ∃ J, f I' L = some (some (.int y), J, L) ∧ Kp F I' J
/-- what nothing rests on -/
def Free (F : Nat → Nat → Prop) : Prop := ∀ a k, F a k → ¬ (dT a k ∨ dS a k ∨ dR a k ∨ dD a k ∨ dE a k ∨ dZ a k ∨ dX a k)
theorem An.case {X : PI → Prop} (hX : Xok X) {F : Nat → Nat → Prop} {I : PI} {L : PL} {fC fM : PI → PL → RES} {y : Int32} (hF : Free F) (hC : An F I L fC y) (hM : An F I L fM y) (hI : Inv X I L) : ∃ (x : Int32) (I1 : PI) (L1 : PL) (I2 : PI) (L2 : PL), fC I L = some (some (.int x), I1, L1) ∧ fM I1 L1 = some (some (.int x), I2, L2) ∧ Inv X I2 L2 := by
  obtain ⟨J, h1, h2⟩ := hC I Kp.rf
  obtain ⟨J2, h3, h4⟩ := hM J h2
  exact ⟨y, J, L, J2, L, h1, h3, hI.keep hX (h2.tr h4) hF⟩
theorem An.pure {F : Nat → Nat → Prop} {I : PI} {L : PL} {f : PI → PL → RES} {y : Int32} (h : ∀ I', Kp F I I' → f I' L = some (some (.int y), I', L)) : An F I L f y := fun I' hk => ⟨I', h I' hk, Kp.rf⟩
theorem An.bind {F : Nat → Nat → Prop} {I : PI} {L : PL} {f : PI → PL → RES} {x y : Int32} {g : Int32 → PI → PL → RES} (h1 : An F I L f x) (h2 : An F I L (g x) y) : An F I L (fun I' L' => bI (f I' L') g) y := fun I' hk => by
  obtain ⟨J, e1, k1⟩ := h1 I' hk
  obtain ⟨J2, e2, k2⟩ := h2 J (hk.tr k1)
  refine ⟨J2, ?_, k1.tr k2⟩
  show bI (f I' L) g = _
  rw [e1, bI_s, e2]
theorem An.of {F : Nat → Nat → Prop} {I : PI} {L : PL} {f g : PI → PL → RES} {y : Int32} (h1 : ∀ I', Kp F I I' → f I' L = g I' L) (h2 : An F I L g y) : An F I L f y := fun I' hk => by
  rw [h1 I' hk]; exact h2 I' hk
/-! a number sorted in -/
def insAt (w : Nat → Nat) (i v k : Nat) : Nat := if k < i then w k else if k = i then v else w (k - 1)
theorem insAt_lt {w : Nat → Nat} {i v k : Nat} (h : k < i) : insAt w i v k = w k := if_pos h
theorem insAt_eq {w : Nat → Nat} {i v : Nat} : insAt w i v i = v := by
  unfold insAt; rw [if_neg (Nat.lt_irrefl i), if_pos rfl]
theorem insAt_gt {w : Nat → Nat} {i v k : Nat} (h : i < k) : insAt w i v k = w (k - 1) := by
  unfold insAt; rw [if_neg (by omega), if_neg (by omega)]
theorem cnt_ins {w : Nat → Nat} {Q : Nat → Bool} {i v : Nat} : ∀ n, i ≤ n → cnt (fun k => Q (insAt w i v k)) (n + 1) = cnt (fun k => Q (w k)) n + (bif Q v then 1 else 0) := by
  intro n
  induction n with
  | zero =>
    intro h
    obtain rfl : i = 0 := by omega
    rw [cnt_s, insAt_eq]
    rfl
  | succ n ih =>
    intro h
    by_cases h1 : i = n + 1
    · subst h1
      rw [cnt_s, insAt_eq, cnt_congr (c := fun k => Q (w k)) (fun k hk => by rw [insAt_lt hk])]
    · rw [cnt_s, ih (by omega), insAt_gt (by omega), cnt_s (b := fun k => Q (w k)), show n + 1 - 1 = n from rfl]
      omega
theorem cnt_all {b : Nat → Bool} : ∀ n, (∀ k, k < n → b k = true) → cnt b n = n := by
  intro n
  induction n with
  | zero => intro _; rfl
  | succ n ih =>
    intro h
    rw [cnt_s, ih (fun k hk => h k (by omega)), h n (by omega)]
    rfl
theorem cnt_none {b : Nat → Bool} : ∀ n, (∀ k, k < n → b k = false) → cnt b n = 0 := by
  intro n
  induction n with
  | zero => intro _; rfl
  | succ n ih =>
    intro h
    rw [cnt_s, ih (fun k hk => h k (by omega)), h n (by omega)]
    rfl
theorem cnt_mono {b : Nat → Bool} {m n : Nat} (h : m ≤ n) : cnt b m ≤ cnt b n := by
  induction n with
  | zero => rw [show m = 0 by omega]; exact Nat.le_refl _
  | succ n ih =>
    by_cases hm : m = n + 1
    · rw [hm]; exact Nat.le_refl _
    · have := ih (by omega)
      rw [cnt_s]
      omega
theorem cnt_or {b c d : Nat → Bool} : ∀ n, (∀ k, k < n → (bif b k then 1 else 0) = (bif c k then 1 else 0) + (bif d k then (1 : Nat) else 0)) → cnt b n = cnt c n + cnt d n := by
  intro n
  induction n with
  | zero => intro _; rfl
  | succ n ih =>
    intro h
    rw [cnt_s, cnt_s, cnt_s, ih (fun k hk => h k (by omega)), h n (by omega)]
    omega
theorem cnt_one {b : Nat → Bool} {x : Nat} : ∀ n, (∀ k, k < n → k ≠ x → b k = false) → cnt b n = bif decide (x < n) && b x then 1 else 0 := by
  intro n
  induction n with
  | zero => intro _; rfl
  | succ n ih =>
    intro h
    by_cases hx : x = n
    · subst hx
      rw [cnt_s, cnt_none x (fun k hk => h k (by omega) (by omega)), decide_eq_true (by omega), Bool.true_and, Nat.zero_add]
    · rw [cnt_s, ih (fun k hk => h k (by omega)), h n (by omega) (fun q => hx q.symm)]
      by_cases h2 : x < n
      · rw [decide_eq_true h2, decide_eq_true (by omega)]; rfl
      · rw [decide_eq_false h2, decide_eq_false (by omega)]; rfl
theorem sor_cnt {w : Nat → Nat} {t : Nat} : ∀ n, (∀ i j, i ≤ j → j < n → w i ≤ w j) → ∀ k, k < n → (w k ≤ t ↔ k < cnt (fun k => decide (w k ≤ t)) n) := by
  intro n
  induction n with
  | zero => intro _ k hk; omega
  | succ n ih =>
    intro hs k hk
    have hc := cnt_le (b := fun k => decide (w k ≤ t)) n
    rw [cnt_s]
    by_cases h1 : w n ≤ t
    · have e : cnt (fun k => decide (w k ≤ t)) n = n := cnt_all n (fun k hk => decide_eq_true (Nat.le_trans (hs k n (by omega) (by omega)) h1))
      rw [decide_eq_true h1, e, cond_true]
      have := hs k n (by omega) (by omega)
      constructor
      · intro _; omega
      · intro _; omega
    · rw [decide_eq_false h1, cond_false, Nat.add_zero]
      by_cases h2 : k = n
      · subst h2
        constructor
        · intro h; exact absurd h h1
        · intro h; omega
      · exact ih (fun i j hi hj => hs i j hi (by omega)) k (by omega)
/-- cells 0 .. n - 1 of row c rise; C t of them are no more than t -/
def Wn (I : PI) (c n : Nat) (C : Nat → Nat) : Prop := ∃ w : Nat → Nat, (∀ i j, i ≤ j → j < n → w i ≤ w j) ∧ (∀ k, k < n → I c k = nI (w k) ∧ w k ≤ 999) ∧ ∀ t, cnt (fun k => decide (w k ≤ t)) n = C t
theorem Wn.same {I J : PI} {c d n k : Nat} {C D : Nat → Nat} (h : Wn I c n C) (h' : Wn J d n D) (e : ∀ t, C t = D t) (hk : k < n) : I c k = J d k := by
  obtain ⟨w, w1, w2, w3⟩ := h
  obtain ⟨x, x1, x2, x3⟩ := h'
  have q : ∀ t, w k ≤ t ↔ x k ≤ t := fun t => by
    rw [sor_cnt n w1 k hk, sor_cnt n x1 k hk, w3, x3, e]
  have q1 := (q (x k)).mpr (Nat.le_refl _)
  have q2 := (q (w k)).mp (Nat.le_refl _)
  rw [(w2 k hk).1, (x2 k hk).1, show w k = x k by omega]
theorem Wn.len {I : PI} {c n : Nat} {C : Nat → Nat} (h : Wn I c n C) : C 999 = n := by
  obtain ⟨w, w1, w2, w3⟩ := h
  rw [← w3, cnt_all n (fun k hk => decide_eq_true (w2 k hk).2)]
theorem Wn.nil {I : PI} {c : Nat} : Wn I c 0 (fun _ => 0) := ⟨fun _ => 0, fun _ _ _ h => absurd h (Nat.not_lt_zero _), fun _ h => absurd h (Nat.not_lt_zero _), fun _ => rfl⟩
theorem Wn.cong {I J : PI} {c n : Nat} {C D : Nat → Nat} (h : Wn I c n C) (hJ : ∀ k, k < n → J c k = I c k) (e : ∀ t, D t = C t) : Wn J c n D := by
  obtain ⟨w, w1, w2, w3⟩ := h
  exact ⟨w, w1, fun k hk => ⟨(hJ k hk).trans (w2 k hk).1, (w2 k hk).2⟩, fun t => (w3 t).trans (e t).symm⟩
theorem Wn.ins {J : PI} {c n i v : Nat} {w C : Nat → Nat} (w1 : ∀ i j, i ≤ j → j < n → w i ≤ w j) (w2 : ∀ k, k < n → w k ≤ 999) (w3 : ∀ t, cnt (fun k => decide (w k ≤ t)) n = C t) (hi : i ≤ n) (hv : v ≤ 999) (h1 : i = 0 ∨ w (i - 1) ≤ v) (h2 : ∀ k, i ≤ k → k < n → v < w k) (hJ : ∀ k, k ≤ n → J c k = nI (insAt w i v k)) : Wn J c (n + 1) (fun t => C t + (bif decide (v ≤ t) then 1 else 0)) := by
  refine ⟨insAt w i v, fun a b hab hb => ?_, fun k hk => ⟨hJ k (by omega), ?_⟩, fun t => ?_⟩
  · by_cases hb1 : b < i
    · rw [insAt_lt hb1, insAt_lt (by omega)]
      exact w1 a b hab (by omega)
    · by_cases hb2 : b = i
      · subst hb2
        rw [insAt_eq]
        by_cases ha : a = b
        · rw [ha, insAt_eq]; exact Nat.le_refl _
        · rw [insAt_lt (by omega)]
          have := w1 a (b - 1) (by omega) (by omega)
          rcases h1 with h1 | h1
          · omega
          · omega
      · rw [insAt_gt (k := b) (by omega)]
        have q := h2 (b - 1) (by omega) (by omega)
        by_cases ha : a < i
        · rw [insAt_lt ha]
          exact w1 a (b - 1) (by omega) (by omega)
        · by_cases ha2 : a = i
          · rw [ha2, insAt_eq]; omega
          · rw [insAt_gt (by omega)]
            exact w1 (a - 1) (b - 1) (by omega) (by omega)
  · by_cases hk1 : k < i
    · rw [insAt_lt hk1]; exact w2 k (by omega)
    · by_cases hk2 : k = i
      · rw [hk2, insAt_eq]; exact hv
      · rw [insAt_gt (by omega)]; exact w2 (k - 1) (by omega)
  · rw [cnt_ins (Q := fun x => decide (x ≤ t)) n hi, w3]
/-! what lies round a cell -/
def selw (g s c o : Nat) : Bool := decide (g + 1 ≤ (o - c) + (c - o)) && decide ((o - c) + (c - o) ≤ g + s)
def one1 (p : Prop) [Decidable p] (b : Bool) : Nat := bif decide p && b then 1 else 0
def Dn (c n g : Nat) (Q : Nat → Bool) : Nat → Nat
  | 0 => 0
  | i + 1 => Dn c n g Q i + one1 (g + 1 + i ≤ c) (Q (c - (g + 1 + i))) + one1 (c + (g + 1 + i) < n) (Q (c + (g + 1 + i)))
theorem Dn_s {c n g i : Nat} {Q : Nat → Bool} : Dn c n g Q (i + 1) = Dn c n g Q i + one1 (g + 1 + i ≤ c) (Q (c - (g + 1 + i))) + one1 (c + (g + 1 + i) < n) (Q (c + (g + 1 + i))) := rfl
theorem one1_le {p : Prop} [Decidable p] {b : Bool} : one1 p b ≤ 1 := by
  unfold one1
  cases (decide p && b)
  · exact Nat.zero_le 1
  · exact Nat.le_refl 1
theorem Dn_le {c n g : Nat} {Q : Nat → Bool} : ∀ i, Dn c n g Q i ≤ 2 * i := by
  intro i
  induction i with
  | zero => exact Nat.le_refl 0
  | succ i ih =>
    have h1 := one1_le (p := g + 1 + i ≤ c) (b := Q (c - (g + 1 + i)))
    have h2 := one1_le (p := c + (g + 1 + i) < n) (b := Q (c + (g + 1 + i)))
    rw [Dn_s]
    omega
theorem Dn_cnt {c n g : Nat} {Q : Nat → Bool} (hc : c < n) : ∀ s, cnt (fun o => selw g s c o && Q o) n = Dn c n g Q s := by
  intro s
  induction s with
  | zero =>
    refine cnt_none n (fun o ho => ?_)
    unfold selw
    by_cases h1 : g + 1 ≤ (o - c) + (c - o)
    · rw [decide_eq_false (p := (o - c) + (c - o) ≤ g + 0) (by omega), Bool.and_false]; rfl
    · rw [decide_eq_false h1]; rfl
  | succ s ih =>
    rw [Dn_s, ← ih]
    have e1 : cnt (fun o => selw g (s + 1) c o && Q o) n = cnt (fun o => selw g s c o && Q o) n + cnt (fun o => decide ((o - c) + (c - o) = g + 1 + s) && Q o) n := cnt_or n (fun o ho => by
      unfold selw
      cases Q o with
      | false => rw [Bool.and_false, Bool.and_false, Bool.and_false]; rfl
      | true =>
        rw [Bool.and_true, Bool.and_true, Bool.and_true]
        by_cases h1 : g + 1 ≤ (o - c) + (c - o)
        · rw [decide_eq_true h1, Bool.true_and, Bool.true_and]
          by_cases h2 : (o - c) + (c - o) ≤ g + s
          · rw [decide_eq_true h2, decide_eq_true (by omega), decide_eq_false (by omega)]; rfl
          · rw [decide_eq_false h2]
            by_cases h3 : (o - c) + (c - o) = g + 1 + s
            · rw [decide_eq_true h3, decide_eq_true (by omega)]; rfl
            · rw [decide_eq_false h3, decide_eq_false (by omega)]; rfl
        · rw [decide_eq_false h1, decide_eq_false (p := (o - c) + (c - o) = g + 1 + s) (by omega)]; rfl)
    have e2 : cnt (fun o => decide ((o - c) + (c - o) = g + 1 + s) && Q o) n = cnt (fun o => decide (o + (g + 1 + s) = c) && Q o) n + cnt (fun o => decide (o = c + (g + 1 + s)) && Q o) n := cnt_or n (fun o ho => by
      cases Q o with
      | false => rw [Bool.and_false, Bool.and_false, Bool.and_false]; rfl
      | true =>
        rw [Bool.and_true, Bool.and_true, Bool.and_true]
        by_cases h1 : o + (g + 1 + s) = c
        · rw [decide_eq_true h1, decide_eq_true (by omega), decide_eq_false (by omega)]; rfl
        · rw [decide_eq_false h1]
          by_cases h2 : o = c + (g + 1 + s)
          · rw [decide_eq_true h2, decide_eq_true (by omega)]; rfl
          · rw [decide_eq_false h2, decide_eq_false (by omega)]; rfl)
    have e3 : cnt (fun o => decide (o + (g + 1 + s) = c) && Q o) n = one1 (g + 1 + s ≤ c) (Q (c - (g + 1 + s))) := by
      by_cases h : g + 1 + s ≤ c
      · rw [cnt_one (x := c - (g + 1 + s)) n (fun k _ hk => by rw [decide_eq_false (by omega)]; rfl), decide_eq_true (by omega), decide_eq_true (by omega)]
        unfold one1
        rw [decide_eq_true h]; rfl
      · rw [cnt_none n (fun k _ => by rw [decide_eq_false (by omega)]; rfl)]
        unfold one1
        rw [decide_eq_false h]; rfl
    have e4 : cnt (fun o => decide (o = c + (g + 1 + s)) && Q o) n = one1 (c + (g + 1 + s) < n) (Q (c + (g + 1 + s))) := by
      rw [cnt_one (x := c + (g + 1 + s)) n (fun k _ hk => by rw [decide_eq_false hk]; rfl), decide_eq_true (p := c + (g + 1 + s) = c + (g + 1 + s)) rfl, Bool.true_and]
      rfl
    rw [e1, e2, e3, e4]
    omega
