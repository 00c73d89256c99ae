/-! lobes: greatest ones, in any order -/
def IsMx {α : Type} (R : α → Prop) (P : α → Int32) (x : Int32) : Prop := 0 ≤ x ∧ (∀ z, R z → P z ≤ x) ∧ (x = 0 ∨ ∃ z, R z ∧ x = P z)
theorem i32_anti {a b : Int32} (h1 : a ≤ b) (h2 : b ≤ a) : a = b := by
  apply Int32.toInt_inj.mp
  rw [Int32.le_iff_toInt_le] at h1 h2
  omega
theorem i32_trans {a b c : Int32} (h1 : a ≤ b) (h2 : b ≤ c) : a ≤ c := by
  rw [Int32.le_iff_toInt_le] at h1 h2 ⊢
  omega
theorem jmax_l (a b : Int32) : a ≤ jmax a b := by
  unfold jmax
  by_cases h : a < b
  · rw [if_pos h]
    rw [Int32.lt_iff_toInt_lt] at h
    rw [Int32.le_iff_toInt_le]; omega
  · rw [if_neg h, Int32.le_iff_toInt_le]; omega
theorem jmax_r (a b : Int32) : b ≤ jmax a b := by
  unfold jmax
  by_cases h : a < b
  · rw [if_pos h, Int32.le_iff_toInt_le]; omega
  · rw [if_neg h]
    exact i32_nlt.mp h
theorem jmax_or (a b : Int32) : jmax a b = a ∨ jmax a b = b := by
  unfold jmax
  by_cases h : a < b
  · rw [if_pos h]; exact Or.inr rfl
  · rw [if_neg h]; exact Or.inl rfl
theorem IsMx.nil {α : Type} {R : α → Prop} {P : α → Int32} (h : ∀ z, ¬ R z) : IsMx R P 0 := ⟨by decide, fun z hz => absurd hz (h z), Or.inl rfl⟩
theorem IsMx.congr {α : Type} {R R' : α → Prop} {P : α → Int32} {x : Int32} (h : IsMx R P x) (e : ∀ z, R' z ↔ R z) : IsMx R' P x := by
  obtain ⟨h1, h2, h3⟩ := h
  refine ⟨h1, fun z hz => h2 z ((e z).mp hz), ?_⟩
  rcases h3 with h3 | ⟨z, h3, h4⟩
  · exact Or.inl h3
  · exact Or.inr ⟨z, (e z).mpr h3, h4⟩
theorem IsMx.add {α : Type} {R : α → Prop} {P : α → Int32} {x : Int32} (z0 : α) (h : IsMx R P x) : IsMx (fun z => R z ∨ z = z0) P (jmax x (P z0)) := by
  obtain ⟨h1, h2, h3⟩ := h
  refine ⟨i32_trans h1 (jmax_l _ _), fun z hz => ?_, ?_⟩
  · rcases hz with hz | hz
    · exact i32_trans (h2 z hz) (jmax_l _ _)
    · rw [hz]; exact jmax_r _ _
  · rcases jmax_or x (P z0) with e | e
    · rw [e]
      rcases h3 with h3 | ⟨z, h3, h4⟩
      · exact Or.inl h3
      · exact Or.inr ⟨z, Or.inl h3, h4⟩
    · rw [e]
      exact Or.inr ⟨z0, Or.inr rfl, rfl⟩
theorem IsMx.join {α β : Type} {R : α → Prop} {R' : β → Prop} {P : α → Int32} {Q : β → Int32} {x y : Int32} (f : β → α) (hf : ∀ z, P (f z) = Q z) (h : IsMx R P x) (h' : IsMx R' Q y) : IsMx (fun a => R a ∨ ∃ z, R' z ∧ a = f z) P (jmax x y) := by
  obtain ⟨h1, h2, h3⟩ := h
  obtain ⟨g1, g2, g3⟩ := h'
  refine ⟨i32_trans h1 (jmax_l _ _), fun z hz => ?_, ?_⟩
  · rcases hz with hz | ⟨b, hb, rfl⟩
    · exact i32_trans (h2 z hz) (jmax_l _ _)
    · rw [hf]; exact i32_trans (g2 b hb) (jmax_r _ _)
  · rcases jmax_or x y with e | e
    · rw [e]
      rcases h3 with h3 | ⟨z, h3, h4⟩
      · exact Or.inl h3
      · exact Or.inr ⟨z, Or.inl h3, h4⟩
    · rw [e]
      rcases g3 with g3 | ⟨z, g3, g4⟩
      · exact Or.inl g3
      · exact Or.inr ⟨f z, Or.inr ⟨z, g3, rfl⟩, by rw [hf]; exact g4⟩
theorem IsMx.leq {α β : Type} {R : α → Prop} {R' : β → Prop} {P : α → Int32} {Q : β → Int32} {x y : Int32} (h : IsMx R P x) (h' : IsMx R' Q y) (e : ∀ z, R z → P z = 0 ∨ ∃ z', R' z' ∧ Q z' = P z) : x ≤ y := by
  obtain ⟨h1, h2, h3⟩ := h
  obtain ⟨g1, g2, g3⟩ := h'
  rcases h3 with h3 | ⟨z, h3, h4⟩
  · rw [h3]; exact g1
  · rcases e z h3 with e | ⟨z', e1, e2⟩
    · rw [h4, e]; exact g1
    · rw [h4, ← e2]; exact g2 z' e1
theorem IsMx.eq {α β : Type} {R : α → Prop} {R' : β → Prop} {P : α → Int32} {Q : β → Int32} {x y : Int32} (h : IsMx R P x) (h' : IsMx R' Q y) (e : ∀ z, R z → P z = 0 ∨ ∃ z', R' z' ∧ Q z' = P z) (e' : ∀ z, R' z → Q z = 0 ∨ ∃ z', R z' ∧ P z' = Q z) : x = y := i32_anti (h.leq h' e) (h'.leq h e')
theorem sumW_0 {g : Nat → Int32} (n : Nat) (h : ∀ k, k < n → g k = 0) : sumW g n = 0 := sumW_ext (a := 0) (Nat.zero_le n) (fun k _ hk => h k hk)
theorem pwW_out {w : Nat → Int32} {s t : Nat → Nat} {ns nt : Nat} {way : Int} {sp : Int32} (h : (ns : Int) ≤ way ∨ way ≤ -(nt : Int)) : pwW w s t ns nt way sp = 0 := by
  have e : ∀ r, meW w s t ns nt way sp r = 0 := fun r => sumW_0 ns (fun k hk => by
    unfold tmW
    rw [if_neg (by omega)])
  unfold pwW
  rw [e, e]
  rfl
section LOBES
variable {N m c d : Nat} {n : Nat → Nat} {S : Nat → Nat → Nat} {L : PL} {w : Nat → Int32} {sp : Int32}
theorem dM_21 {I J : PI} {nd : Nat} (h : Kp dM I J) (h21 : ∀ x, x < nd → I 21 x = w x) : ∀ x, x < nd → J 21 x = w x := fun x hx => (h 21 x (by unfold dM; omega)).trans (h21 x hx)
theorem greatLp (hN : 20000 ≤ N) (hc : c < m) (hd : d < m) : ∀ (t k : Nat) (z : Int) (v : Int32) (I : PI), z + t = n c → 1 - (n d : Int) ≤ z → t < k → CSet I m n S → (∀ x, x < n d → I 21 x = w x) → IsMx (fun y : Int => 1 - (n d : Int) ≤ y ∧ y < z) (fun y => pwW w (S c) (S d) (n c) (n d) y sp) v → ∃ (J : PI) (x : Int32), F_X4_greatestOf_15 N k (nI c) (nI d) sp v (zI z) I L = some (some (.int x), J, L) ∧ Kp dM I J ∧ IsMx (fun y : Int => 1 - (n d : Int) ≤ y ∧ y < n c) (fun y => pwW w (S c) (S d) (n c) (n d) y sp) x := by
  intro t
  induction t with
  | zero =>
    intro k z v I hz h1 hk r h21 hv
    obtain ⟨k, rfl⟩ : ∃ q, k = q + 1 := ⟨k - 1, by omega⟩
    have c24 := (r.2.2.2 c hc).2.1
    have d24 := (r.2.2.2 d hd).2.1
    rw [F_X4_greatestOf_15, r.len hc, bI_s, zI_n (n c), if_pos ((zI_le (by omega) (by omega) (by omega) (by omega)).mpr (by omega))]
    exact ⟨I, v, rfl, Kp.rf, hv.congr (fun y => by omega)⟩
  | succ t ih =>
    intro k z v I hz h1 hk r h21 hv
    obtain ⟨k, rfl⟩ : ∃ q, k = q + 1 := ⟨k - 1, by omega⟩
    have c24 := (r.2.2.2 c hc).2.1
    have d24 := (r.2.2.2 d hd).2.1
    obtain ⟨J1, e1, k1, -⟩ := pow4_s (L := L) (way := z) (sp := sp) hN (by omega) (by omega) hc hd r h21
    obtain ⟨J, x, g1, g2, g3⟩ := ih k (z + 1) (jmax v (pwW w (S c) (S d) (n c) (n d) z sp)) J1 (by omega) (by omega) (by omega) (r.cong (dG_dC (dM_dG k1))) (dM_21 k1 h21) ((hv.add z).congr (fun y => by omega))
    refine ⟨J, x, ?_, k1.tr g2, g3⟩
    rw [F_X4_greatestOf_15, r.len hc, bI_s, zI_n (n c), if_neg (fun q => absurd ((zI_le (by omega) (by omega) (by omega) (by omega)).mp q) (by omega)), e1, bI_s, nmI_s, show (1 : Int32) = zI 1 from rfl, zI_add]
    exact g1
theorem great_s {I : PI} (hN : 20000 ≤ N) (hc : c < m) (hd : d < m) (r : CSet I m n S) (h21 : ∀ x, x < n d → I 21 x = w x) : ∃ (J : PI) (x : Int32), f_X4_greatestOf N (nI c) (nI d) sp I L = some (some (.int x), J, L) ∧ Kp dM I J ∧ IsMx (fun y : Int => 1 - (n d : Int) ≤ y ∧ y < n c) (fun y => pwW w (S c) (S d) (n c) (n d) y sp) x := by
  have c1 := (r.2.2.2 c hc).1
  have c24 := (r.2.2.2 c hc).2.1
  have d24 := (r.2.2.2 d hd).2.1
  have d1 := (r.2.2.2 d hd).1
  obtain ⟨J, x, g1, g2⟩ := greatLp (N := N) (L := L) (sp := sp) hN hc hd (n c + n d - 1) N (1 - (n d : Int)) 0 I (by omega) (by omega) (by omega) r h21 (IsMx.nil (fun z => by omega))
  refine ⟨J, x, ?_, g2⟩
  unfold f_X4_greatestOf
  rw [r.len hd, bI_s, zI_n (n d), show (1 : Int32) = zI 1 from rfl, zI_sub, nmI_s]
  exact g1
/-- POWER of a code against its own filter -/
def pwC (w : Nat → Int32) (s : Nat → Nat) (ns : Nat) (q : Int × Nat) : Int32 := pwW w s s ns ns q.1 (nI q.2)
theorem sideLp (hN : 20000 ≤ N) (hc : c < m) : ∀ (t k i : Nat) (v : Int32) (I : PI), i + t = n c → 1 ≤ i → t < k → CSet I m n S → (∀ x, x < n c → I 21 x = w x) → IsMx (fun y : Int => y ≠ 0 ∧ -(i : Int) < y ∧ y < i) (fun y => pwC w (S c) (n c) (y, 0)) v → ∃ (J : PI) (x : Int32), F_X4_side_4 N k (nI c) v (nI i) I L = some (some (.int x), J, L) ∧ Kp dM I J ∧ IsMx (fun y : Int => y ≠ 0 ∧ -(n c : Int) < y ∧ y < n c) (fun y => pwC w (S c) (n c) (y, 0)) x := by
  intro t
  induction t with
  | zero =>
    intro k i v I hi h1 hk r h21 hv
    obtain ⟨k, rfl⟩ : ∃ q, k = q + 1 := ⟨k - 1, by omega⟩
    have c24 := (r.2.2.2 c hc).2.1
    rw [F_X4_side_4, r.len hc, bI_s, if_pos (nI_le (by omega) (by omega))]
    exact ⟨I, v, rfl, Kp.rf, hv.congr (fun y => by omega)⟩
  | succ t ih =>
    intro k i v I hi h1 hk r h21 hv
    obtain ⟨k, rfl⟩ : ∃ q, k = q + 1 := ⟨k - 1, by omega⟩
    have c24 := (r.2.2.2 c hc).2.1
    obtain ⟨J1, e1, k1, -⟩ := pow4_s (L := L) (way := (i : Int)) (sp := 0) hN (by omega) (by omega) hc hc r h21
    have r1 := r.cong (dG_dC (dM_dG k1))
    obtain ⟨J2, e2, k2, -⟩ := pow4_s (L := L) (way := -(i : Int)) (sp := 0) hN (by omega) (by omega) hc hc r1 (dM_21 k1 h21)
    obtain ⟨J, x, g1, g2, g3⟩ := ih k (i + 1) (jmax (jmax v (pwC w (S c) (n c) ((i : Int), 0))) (pwC w (S c) (n c) (-(i : Int), 0))) J2 (by omega) (by omega) (by omega) (r1.cong (dG_dC (dM_dG k2))) (dM_21 k2 (dM_21 k1 h21)) (((hv.add (i : Int)).add (-(i : Int))).congr (fun y => by omega))
    refine ⟨J, x, ?_, (k1.tr k2).tr g2, g3⟩
    rw [F_X4_side_4, r.len hc, bI_s, if_neg (nI_ge (by omega) (by omega)), zI_n i, e1, bI_s, nmI_s, zI_neg, e2, bI_s, nmI_s, ← zI_n i, nI_1]
    exact g1
theorem sidesLp (hN : 20000 ≤ N) (hc : c < m) : ∀ (t k i : Nat) (I : PI), i + 1 + t = n c → t < k → CSet I m n S → (∀ x, x < n c → I 21 x = w x) → ∃ J : PI, F_X4_sides_4 N k (nI c) (sumW (fun j => pwC w (S c) (n c) (((j + 1 : Nat) : Int), 0) + pwC w (S c) (n c) (-((j + 1 : Nat) : Int), 0)) i) (nI (i + 1)) I L = some (some (.int (sumW (fun j => pwC w (S c) (n c) (((j + 1 : Nat) : Int), 0) + pwC w (S c) (n c) (-((j + 1 : Nat) : Int), 0)) (n c - 1))), J, L) ∧ Kp dM I J := by
  intro t
  induction t with
  | zero =>
    intro k i I hi hk r h21
    obtain ⟨k, rfl⟩ : ∃ q, k = q + 1 := ⟨k - 1, by omega⟩
    have c24 := (r.2.2.2 c hc).2.1
    rw [F_X4_sides_4, r.len hc, bI_s, if_pos (nI_le (by omega) (by omega)), show i = n c - 1 by omega]
    exact ⟨I, rfl, Kp.rf⟩
  | succ t ih =>
    intro k i I hi hk r h21
    obtain ⟨k, rfl⟩ : ∃ q, k = q + 1 := ⟨k - 1, by omega⟩
    have c24 := (r.2.2.2 c hc).2.1
    obtain ⟨J1, e1, k1, -⟩ := pow4_s (L := L) (way := ((i + 1 : Nat) : Int)) (sp := 0) hN (by omega) (by omega) hc hc r h21
    have r1 := r.cong (dG_dC (dM_dG k1))
    obtain ⟨J2, e2, k2, -⟩ := pow4_s (L := L) (way := -((i + 1 : Nat) : Int)) (sp := 0) hN (by omega) (by omega) hc hc r1 (dM_21 k1 h21)
    obtain ⟨J, g1, g2⟩ := ih k (i + 1) J2 (by omega) (by omega) (r1.cong (dG_dC (dM_dG k2))) (dM_21 k2 (dM_21 k1 h21))
    refine ⟨J, ?_, (k1.tr k2).tr g2⟩
    rw [F_X4_sides_4, r.len hc, bI_s, if_neg (nI_ge (by omega) (by omega)), zI_n (i + 1), e1, bI_s, zI_neg, e2, bI_s, nmI_s, ← zI_n (i + 1), nI_1]
    exact g1
theorem leakLp (hN : 20000 ≤ N) (hc : c < m) : ∀ (t k i : Nat) (v : Int32) (I : PI), i + t = 4 → 1 ≤ i → t < k → CSet I m n S → (∀ x, x < n c → I 21 x = w x) → IsMx (fun q : Int × Nat => 1 ≤ q.2 ∧ q.2 < i ∧ 1 - (n c : Int) ≤ q.1 ∧ q.1 < n c) (pwC w (S c) (n c)) v → ∃ (J : PI) (x : Int32), F_X4_leak_4 N k (nI c) v (nI i) I L = some (some (.int x), J, L) ∧ Kp dM I J ∧ IsMx (fun q : Int × Nat => 1 ≤ q.2 ∧ q.2 < 4 ∧ 1 - (n c : Int) ≤ q.1 ∧ q.1 < n c) (pwC w (S c) (n c)) x := by
  intro t
  induction t with
  | zero =>
    intro k i v I hi h1 hk r h21 hv
    obtain ⟨k, rfl⟩ : ∃ q, k = q + 1 := ⟨k - 1, by omega⟩
    rw [F_X4_leak_4, show (3 : Int32) = nI 3 from rfl, if_pos (nI_lt (by omega) (by omega))]
    exact ⟨I, v, rfl, Kp.rf, hv.congr (fun y => by omega)⟩
  | succ t ih =>
    intro k i v I hi h1 hk r h21 hv
    obtain ⟨k, rfl⟩ : ∃ q, k = q + 1 := ⟨k - 1, by omega⟩
    obtain ⟨J1, x1, e1, k1, m1⟩ := great_s (L := L) (sp := nI i) hN hc hc r h21
    obtain ⟨J, x, g1, g2, g3⟩ := ih k (i + 1) (jmax v x1) J1 (by omega) (by omega) (by omega) (r.cong (dG_dC (dM_dG k1))) (dM_21 k1 h21) ((hv.join (fun y : Int => (y, i)) (fun z => rfl) m1).congr (fun q => by
      obtain ⟨y, s⟩ := q
      constructor
      · intro ⟨a1, a2, a3, a4⟩
        have a2' : s < i + 1 := a2
        by_cases es : s = i
        · exact Or.inr ⟨y, ⟨a3, a4⟩, by rw [es]⟩
        · exact Or.inl ⟨a1, (by omega : s < i), a3, a4⟩
      · rintro (⟨a1, a2, a3, a4⟩ | ⟨y', ⟨a3, a4⟩, e⟩)
        · have a2' : s < i := a2
          exact ⟨a1, (by omega : s < i + 1), a3, a4⟩
        · cases e
          exact ⟨h1, (by omega : i < i + 1), a3, a4⟩))
    refine ⟨J, x, ?_, k1.tr g2, g3⟩
    rw [F_X4_leak_4, show (3 : Int32) = nI 3 from rfl, if_neg (nI_nlt (by omega) (by omega)), e1, bI_s, nmI_s, nI_1]
    exact g1
/-- LOSS out of the squares' sum and the peak -/
def losV (n : Nat) (q p : Int32) : Int32 := if q = 0 then 0 else Int64.toInt32 ((1000000 * Int32.toInt64 p) / (Int32.toInt64 (nI n) * Int32.toInt64 q))
theorem los_0 {n : Nat} {q : Int32} (h1 : 1 ≤ n) (h2 : n ≤ 24) : Int32.toInt64 (nI n) * Int32.toInt64 q = 0 ↔ q = 0 := by
  have e : (Int32.toInt64 (nI n) * Int32.toInt64 q).toInt = (n : Int) * q.toInt := by
    rw [Int64.toInt_mul, Int32.toInt_toInt64, Int32.toInt_toInt64, nI_toInt (by omega)]
    have q1 := Int32.le_toInt q
    have q2 := Int32.toInt_lt q
    have q3 : (n : Int) * q.toInt ≤ 24 * 2147483648 := by
      rcases Int.le_total 0 q.toInt with h | h
      · exact Int.mul_le_mul (by omega) (by omega) h (by omega)
      · have := Int.mul_le_mul_of_nonneg_left h (show (0 : Int) ≤ n by omega)
        omega
    have q4 : -(24 * 2147483648) ≤ (n : Int) * q.toInt := by
      rcases Int.le_total 0 q.toInt with h | h
      · have := Int.mul_nonneg (show (0 : Int) ≤ n by omega) h
        omega
      · have : (n : Int) * (-q.toInt) ≤ 24 * 2147483648 := Int.mul_le_mul (by omega) (by omega) (by omega) (by omega)
        rw [Int.mul_neg] at this
        omega
    rw [Int.bmod_eq_of_le (by omega) (by omega)]
  constructor
  · intro h
    rw [h, Int64.toInt_zero] at e
    rcases Int.mul_eq_zero.mp e.symm with h3 | h3
    · omega
    · apply Int32.toInt_inj.mp
      rw [h3]; rfl
  · intro h
    subst h
    apply Int64.toInt_inj.mp
    rw [e, Int32.toInt_zero, Int64.toInt_zero, Int.mul_zero]
theorem cmp_0 {x : Int64} : lg_cmp x 0 = 0 ↔ x = 0 := by
  unfold lg_cmp
  by_cases h : x > 0
  · rw [if_pos h]
    constructor
    · intro q; cases q
    · intro q; rw [q] at h; exact absurd h (by decide)
  · rw [if_neg h]
    by_cases h2 : x = 0
    · rw [if_pos h2]
      exact ⟨fun _ => h2, fun _ => rfl⟩
    · rw [if_neg h2]
      exact ⟨fun q => (by cases q), fun q => absurd q h2⟩
theorem lossLp {p : Int32} {nn : Nat} {I : PI} (h1 : 1 ≤ nn) (h24 : nn ≤ 24) (h21 : ∀ x, x < nn → I 21 x = w x) : ∀ (t k i : Nat), i + t = nn → t < k → F_X4_loss_15 N k p (nI nn) (sumW (fun x => w x * w x) i) (nI i) I L = some (some (.int (losV nn (sumW (fun x => w x * w x) nn) p)), I, L) := by
  intro t
  induction t with
  | zero =>
    intro k i hi hk
    obtain ⟨k, rfl⟩ : ∃ q, k = q + 1 := ⟨k - 1, by omega⟩
    obtain rfl : i = nn := by omega
    rw [F_X4_loss_15, if_pos (nI_le (Nat.le_refl _) (by omega))]
    unfold F_X4_loss_57 losV
    rw [nmJ_s]
    by_cases h0 : sumW (fun x => w x * w x) i = 0
    · rw [if_pos (cmp_0.mpr ((los_0 h1 h24).mpr h0)), if_pos h0]
    · have h3 : ¬ Int32.toInt64 (nI i) * Int32.toInt64 (sumW (fun x => w x * w x) i) = 0 := fun q => h0 ((los_0 h1 h24).mp q)
      rw [if_neg (fun q => h3 (cmp_0.mp q)), if_neg h0, decide_eq_true h3, gd_t]
  | succ t ih =>
    intro k i hi hk
    obtain ⟨k, rfl⟩ : ∃ q, k = q + 1 := ⟨k - 1, by omega⟩
    rw [F_X4_loss_15, if_neg (nI_ge (by omega) (by omega)), show (24 : Int32) = nI 24 from rfl, if_neg (nI_ge (by omega) (by omega)), gd_in (by omega) (by omega), gd_in (by omega) (by omega), nI_clamp (by omega), h21 i (by omega), nmI_s, nI_1]
    exact ih k (i + 1) (by omega) (by omega)
theorem loss_s {I : PI} {p : Int32} (hN : 20000 ≤ N) (hc : c < m) (r : CSet I m n S) (h21 : ∀ x, x < n c → I 21 x = w x) : f_X4_loss N (nI c) p I L = some (some (.int (losV (n c) (sumW (fun x => w x * w x) (n c)) p)), I, L) := by
  obtain ⟨c1, c24, -⟩ := r.2.2.2 c hc
  unfold f_X4_loss
  rw [r.len hc, bI_s]
  exact lossLp (N := N) c1 c24 h21 (n c) N 0 (by omega) (by omega)
end LOBES
