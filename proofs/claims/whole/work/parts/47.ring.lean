/-! the ring of states: copies, acts -/
def cpy (I : PI) (A s B d n : Nat) : PI := fun a k => if a = B ∧ d ≤ k ∧ k < d + n then I A (s + (k - d)) else I a k
theorem cpy_in {I : PI} {A s B d n k : Nat} (h1 : d ≤ k) (h2 : k < d + n) : cpy I A s B d n B k = I A (s + (k - d)) := if_pos ⟨rfl, h1, h2⟩
theorem cpy_at {I : PI} {A s B d n k : Nat} (h2 : k < n) : cpy I A s B d n B (d + k) = I A (s + k) := by rw [cpy_in (by omega) (by omega), Nat.add_sub_cancel_left]
theorem cpy_out {I : PI} {A s B d n a k : Nat} (h : ¬ (a = B ∧ d ≤ k ∧ k < d + n)) : cpy I A s B d n a k = I a k := if_neg h
theorem cpy_0 {I : PI} {A s B d : Nat} : cpy I A s B d 0 = I := by
  funext a k
  exact cpy_out (by omega)
theorem cpy_step {I : PI} {A s B d n : Nat} (h : A ≠ B ∨ d ≤ s ∨ s + n < d) : cpy (uI I B d (I A s)) A (s + 1) B (d + 1) n = cpy I A s B d (n + 1) := by
  funext a k
  by_cases h1 : a = B ∧ d + 1 ≤ k ∧ k < d + 1 + n
  · obtain ⟨rfl, h2, h3⟩ := h1
    rw [cpy_in h2 h3, cpy_in (by omega) (by omega), uI_ne (by omega), show s + 1 + (k - (d + 1)) = s + (k - d) by omega]
  · rw [cpy_out h1]
    by_cases h2 : a = B ∧ k = d
    · obtain ⟨rfl, rfl⟩ := h2
      rw [uI_eq, cpy_in (by omega) (by omega), Nat.sub_self, Nat.add_zero]
    · rw [uI_ne h2, cpy_out (by omega)]
theorem cpy_kp {I : PI} {A s B d n : Nat} {F : Nat → Nat → Prop} (h : ∀ k, d ≤ k → k < d + n → F B k) : Kp F I (cpy I A s B d n) := fun a k hn => cpy_out (fun q => hn (by rw [q.1]; exact h k q.2.1 q.2.2))
theorem jmin_n {a b : Nat} (ha : a < 2 ^ 31) (hb : b < 2 ^ 31) : jmin (nI a) (nI b) = nI (min a b) := by
  unfold jmin
  by_cases h : b < a
  · rw [if_pos (nI_lt h ha), Nat.min_eq_right (by omega)]
  · rw [if_neg (nI_nlt (by omega) hb), Nat.min_eq_left (by omega)]
theorem jmax_n {a b : Nat} (ha : a < 2 ^ 31) (hb : b < 2 ^ 31) : jmax (nI a) (nI b) = nI (max a b) := by
  unfold jmax
  by_cases h : a < b
  · rw [if_pos (nI_lt h hb), Nat.max_eq_right (by omega)]
  · rw [if_neg (nI_nlt (by omega) ha), Nat.max_eq_left (by omega)]
theorem lp_55_56 {N s d : Nat} (hs : s + 41 ≤ 41) (hd : d + 41 ≤ 1230) : ∀ (m n j : Nat) (I : PI) (L : PL), j + m = 41 → m < n → F_X12_copy_r55_r56_3 N n (nI s) (nI d) (nI j) I L = some (none, cpy I 55 (s + j) 56 (d + j) m, L) := by
  intro m
  induction m with
  | zero =>
    intro n j I L h1 h2
    obtain ⟨n, rfl⟩ : ∃ k, n = k + 1 := ⟨n - 1, by omega⟩
    rw [F_X12_copy_r55_r56_3]
    simp (disch := omega) only [lt_t, lt_f, le_t, le_f, eq_t, eq_f, c0lt, c0le, c0eq, c0ge, c0gt, c0qe, c1lt, c1le, c1eq, c1ge, c1gt, c1qe, m_le, m_lt, m_ngt, m_nge, m_ne, m_en, nI_add, nI_1, nI_1', nsub, nsub1, pk_mul, nI_clamp, cl0, cl1, gd_in, gd_in0, gd_in1, gd_k0, gd_k1, gd_kb, gd_t, ↓nmI_s, ↓nmJ_s, ↓nmW_s, ↓nmY_s, ↓bI_s, ↓bJ_s, ↓bV_s, bI_s, bJ_s, bV_s, ↓reduceIte, eq_self, ne_10, uI_eq, uI_ne, uL_eq, uL_ne, cond_true, cond_false, ifz_f, ifz_t, not_true_eq_false, not_false_eq_true, ni41, cpy_0]
  | succ m ih =>
    intro n j I L h1 h2
    obtain ⟨n, rfl⟩ : ∃ k, n = k + 1 := ⟨n - 1, by omega⟩
    rw [F_X12_copy_r55_r56_3]
    simp (disch := omega) only [lt_t, lt_f, le_t, le_f, eq_t, eq_f, c0lt, c0le, c0eq, c0ge, c0gt, c0qe, c1lt, c1le, c1eq, c1ge, c1gt, c1qe, m_le, m_lt, m_ngt, m_nge, m_ne, m_en, nI_add, nI_1, nI_1', nsub, nsub1, pk_mul, nI_clamp, cl0, cl1, gd_in, gd_in0, gd_in1, gd_k0, gd_k1, gd_kb, gd_t, ↓nmI_s, ↓nmJ_s, ↓nmW_s, ↓nmY_s, ↓bI_s, ↓bJ_s, ↓bV_s, bI_s, bJ_s, bV_s, ↓reduceIte, eq_self, ne_10, uI_eq, uI_ne, uL_eq, uL_ne, cond_true, cond_false, ifz_f, ifz_t, not_true_eq_false, not_false_eq_true, ni41]
    rw [ih n (j + 1) _ L (by omega) (by omega), ← cpy_step (Or.inl (by decide))]
    rfl
theorem cp_55_56 {N s d : Nat} {I : PI} {L : PL} (hN : 20000 ≤ N) (hs : s + 41 ≤ 41) (hd : d + 41 ≤ 1230) : f_X12_copy_r55_r56 N (nI s) (nI d) I L = some (none, cpy I 55 s 56 d 41, L) := by
  unfold f_X12_copy_r55_r56
  exact lp_55_56 hs hd 41 N 0 I L rfl (by omega)
theorem lp_56_56 {N s d : Nat} (ho : s = d + 41) (hs : s + 41 ≤ 1230) (hd : d + 41 ≤ 1230) : ∀ (m n j : Nat) (I : PI) (L : PL), j + m = 41 → m < n → F_X12_copy_r56_r56_3 N n (nI s) (nI d) (nI j) I L = some (none, cpy I 56 (s + j) 56 (d + j) m, L) := by
  intro m
  induction m with
  | zero =>
    intro n j I L h1 h2
    obtain ⟨n, rfl⟩ : ∃ k, n = k + 1 := ⟨n - 1, by omega⟩
    rw [F_X12_copy_r56_r56_3]
    simp (disch := omega) only [lt_t, lt_f, le_t, le_f, eq_t, eq_f, c0lt, c0le, c0eq, c0ge, c0gt, c0qe, c1lt, c1le, c1eq, c1ge, c1gt, c1qe, m_le, m_lt, m_ngt, m_nge, m_ne, m_en, nI_add, nI_1, nI_1', nsub, nsub1, pk_mul, nI_clamp, cl0, cl1, gd_in, gd_in0, gd_in1, gd_k0, gd_k1, gd_kb, gd_t, ↓nmI_s, ↓nmJ_s, ↓nmW_s, ↓nmY_s, ↓bI_s, ↓bJ_s, ↓bV_s, bI_s, bJ_s, bV_s, ↓reduceIte, eq_self, ne_10, uI_eq, uI_ne, uL_eq, uL_ne, cond_true, cond_false, ifz_f, ifz_t, not_true_eq_false, not_false_eq_true, ni41, cpy_0]
  | succ m ih =>
    intro n j I L h1 h2
    obtain ⟨n, rfl⟩ : ∃ k, n = k + 1 := ⟨n - 1, by omega⟩
    rw [F_X12_copy_r56_r56_3]
    simp (disch := omega) only [lt_t, lt_f, le_t, le_f, eq_t, eq_f, c0lt, c0le, c0eq, c0ge, c0gt, c0qe, c1lt, c1le, c1eq, c1ge, c1gt, c1qe, m_le, m_lt, m_ngt, m_nge, m_ne, m_en, nI_add, nI_1, nI_1', nsub, nsub1, pk_mul, nI_clamp, cl0, cl1, gd_in, gd_in0, gd_in1, gd_k0, gd_k1, gd_kb, gd_t, ↓nmI_s, ↓nmJ_s, ↓nmW_s, ↓nmY_s, ↓bI_s, ↓bJ_s, ↓bV_s, bI_s, bJ_s, bV_s, ↓reduceIte, eq_self, ne_10, uI_eq, uI_ne, uL_eq, uL_ne, cond_true, cond_false, ifz_f, ifz_t, not_true_eq_false, not_false_eq_true, ni41]
    rw [ih n (j + 1) _ L (by omega) (by omega), ← cpy_step (Or.inr (Or.inl (by omega)))]
    rfl
theorem cp_56_56 {N s d : Nat} {I : PI} {L : PL} (hN : 20000 ≤ N) (ho : s = d + 41) (hs : s + 41 ≤ 1230) (hd : d + 41 ≤ 1230) : f_X12_copy_r56_r56 N (nI s) (nI d) I L = some (none, cpy I 56 s 56 d 41, L) := by
  unfold f_X12_copy_r56_r56
  exact lp_56_56 ho hs hd 41 N 0 I L rfl (by omega)
theorem lp_55_57 {N s d : Nat} (hs : s + 41 ≤ 41) (hd : d + 41 ≤ 1230) : ∀ (m n j : Nat) (I : PI) (L : PL), j + m = 41 → m < n → F_X12_copy_r55_r57_3 N n (nI s) (nI d) (nI j) I L = some (none, cpy I 55 (s + j) 57 (d + j) m, L) := by
  intro m
  induction m with
  | zero =>
    intro n j I L h1 h2
    obtain ⟨n, rfl⟩ : ∃ k, n = k + 1 := ⟨n - 1, by omega⟩
    rw [F_X12_copy_r55_r57_3]
    simp (disch := omega) only [lt_t, lt_f, le_t, le_f, eq_t, eq_f, c0lt, c0le, c0eq, c0ge, c0gt, c0qe, c1lt, c1le, c1eq, c1ge, c1gt, c1qe, m_le, m_lt, m_ngt, m_nge, m_ne, m_en, nI_add, nI_1, nI_1', nsub, nsub1, pk_mul, nI_clamp, cl0, cl1, gd_in, gd_in0, gd_in1, gd_k0, gd_k1, gd_kb, gd_t, ↓nmI_s, ↓nmJ_s, ↓nmW_s, ↓nmY_s, ↓bI_s, ↓bJ_s, ↓bV_s, bI_s, bJ_s, bV_s, ↓reduceIte, eq_self, ne_10, uI_eq, uI_ne, uL_eq, uL_ne, cond_true, cond_false, ifz_f, ifz_t, not_true_eq_false, not_false_eq_true, ni41, cpy_0]
  | succ m ih =>
    intro n j I L h1 h2
    obtain ⟨n, rfl⟩ : ∃ k, n = k + 1 := ⟨n - 1, by omega⟩
    rw [F_X12_copy_r55_r57_3]
    simp (disch := omega) only [lt_t, lt_f, le_t, le_f, eq_t, eq_f, c0lt, c0le, c0eq, c0ge, c0gt, c0qe, c1lt, c1le, c1eq, c1ge, c1gt, c1qe, m_le, m_lt, m_ngt, m_nge, m_ne, m_en, nI_add, nI_1, nI_1', nsub, nsub1, pk_mul, nI_clamp, cl0, cl1, gd_in, gd_in0, gd_in1, gd_k0, gd_k1, gd_kb, gd_t, ↓nmI_s, ↓nmJ_s, ↓nmW_s, ↓nmY_s, ↓bI_s, ↓bJ_s, ↓bV_s, bI_s, bJ_s, bV_s, ↓reduceIte, eq_self, ne_10, uI_eq, uI_ne, uL_eq, uL_ne, cond_true, cond_false, ifz_f, ifz_t, not_true_eq_false, not_false_eq_true, ni41]
    rw [ih n (j + 1) _ L (by omega) (by omega), ← cpy_step (Or.inl (by decide))]
    rfl
theorem cp_55_57 {N s d : Nat} {I : PI} {L : PL} (hN : 20000 ≤ N) (hs : s + 41 ≤ 41) (hd : d + 41 ≤ 1230) : f_X12_copy_r55_r57 N (nI s) (nI d) I L = some (none, cpy I 55 s 57 d 41, L) := by
  unfold f_X12_copy_r55_r57
  exact lp_55_57 hs hd 41 N 0 I L rfl (by omega)
theorem lp_56_55 {N s d : Nat} (hs : s + 41 ≤ 1230) (hd : d + 41 ≤ 41) : ∀ (m n j : Nat) (I : PI) (L : PL), j + m = 41 → m < n → F_X12_copy_r56_r55_3 N n (nI s) (nI d) (nI j) I L = some (none, cpy I 56 (s + j) 55 (d + j) m, L) := by
  intro m
  induction m with
  | zero =>
    intro n j I L h1 h2
    obtain ⟨n, rfl⟩ : ∃ k, n = k + 1 := ⟨n - 1, by omega⟩
    rw [F_X12_copy_r56_r55_3]
    simp (disch := omega) only [lt_t, lt_f, le_t, le_f, eq_t, eq_f, c0lt, c0le, c0eq, c0ge, c0gt, c0qe, c1lt, c1le, c1eq, c1ge, c1gt, c1qe, m_le, m_lt, m_ngt, m_nge, m_ne, m_en, nI_add, nI_1, nI_1', nsub, nsub1, pk_mul, nI_clamp, cl0, cl1, gd_in, gd_in0, gd_in1, gd_k0, gd_k1, gd_kb, gd_t, ↓nmI_s, ↓nmJ_s, ↓nmW_s, ↓nmY_s, ↓bI_s, ↓bJ_s, ↓bV_s, bI_s, bJ_s, bV_s, ↓reduceIte, eq_self, ne_10, uI_eq, uI_ne, uL_eq, uL_ne, cond_true, cond_false, ifz_f, ifz_t, not_true_eq_false, not_false_eq_true, ni41, cpy_0]
  | succ m ih =>
    intro n j I L h1 h2
    obtain ⟨n, rfl⟩ : ∃ k, n = k + 1 := ⟨n - 1, by omega⟩
    rw [F_X12_copy_r56_r55_3]
    simp (disch := omega) only [lt_t, lt_f, le_t, le_f, eq_t, eq_f, c0lt, c0le, c0eq, c0ge, c0gt, c0qe, c1lt, c1le, c1eq, c1ge, c1gt, c1qe, m_le, m_lt, m_ngt, m_nge, m_ne, m_en, nI_add, nI_1, nI_1', nsub, nsub1, pk_mul, nI_clamp, cl0, cl1, gd_in, gd_in0, gd_in1, gd_k0, gd_k1, gd_kb, gd_t, ↓nmI_s, ↓nmJ_s, ↓nmW_s, ↓nmY_s, ↓bI_s, ↓bJ_s, ↓bV_s, bI_s, bJ_s, bV_s, ↓reduceIte, eq_self, ne_10, uI_eq, uI_ne, uL_eq, uL_ne, cond_true, cond_false, ifz_f, ifz_t, not_true_eq_false, not_false_eq_true, ni41]
    rw [ih n (j + 1) _ L (by omega) (by omega), ← cpy_step (Or.inl (by decide))]
    rfl
theorem cp_56_55 {N s d : Nat} {I : PI} {L : PL} (hN : 20000 ≤ N) (hs : s + 41 ≤ 1230) (hd : d + 41 ≤ 41) : f_X12_copy_r56_r55 N (nI s) (nI d) I L = some (none, cpy I 56 s 55 d 41, L) := by
  unfold f_X12_copy_r56_r55
  exact lp_56_55 hs hd 41 N 0 I L rfl (by omega)
theorem lp_57_55 {N s d : Nat} (hs : s + 41 ≤ 1230) (hd : d + 41 ≤ 41) : ∀ (m n j : Nat) (I : PI) (L : PL), j + m = 41 → m < n → F_X12_copy_r57_r55_3 N n (nI s) (nI d) (nI j) I L = some (none, cpy I 57 (s + j) 55 (d + j) m, L) := by
  intro m
  induction m with
  | zero =>
    intro n j I L h1 h2
    obtain ⟨n, rfl⟩ : ∃ k, n = k + 1 := ⟨n - 1, by omega⟩
    rw [F_X12_copy_r57_r55_3]
    simp (disch := omega) only [lt_t, lt_f, le_t, le_f, eq_t, eq_f, c0lt, c0le, c0eq, c0ge, c0gt, c0qe, c1lt, c1le, c1eq, c1ge, c1gt, c1qe, m_le, m_lt, m_ngt, m_nge, m_ne, m_en, nI_add, nI_1, nI_1', nsub, nsub1, pk_mul, nI_clamp, cl0, cl1, gd_in, gd_in0, gd_in1, gd_k0, gd_k1, gd_kb, gd_t, ↓nmI_s, ↓nmJ_s, ↓nmW_s, ↓nmY_s, ↓bI_s, ↓bJ_s, ↓bV_s, bI_s, bJ_s, bV_s, ↓reduceIte, eq_self, ne_10, uI_eq, uI_ne, uL_eq, uL_ne, cond_true, cond_false, ifz_f, ifz_t, not_true_eq_false, not_false_eq_true, ni41, cpy_0]
  | succ m ih =>
    intro n j I L h1 h2
    obtain ⟨n, rfl⟩ : ∃ k, n = k + 1 := ⟨n - 1, by omega⟩
    rw [F_X12_copy_r57_r55_3]
    simp (disch := omega) only [lt_t, lt_f, le_t, le_f, eq_t, eq_f, c0lt, c0le, c0eq, c0ge, c0gt, c0qe, c1lt, c1le, c1eq, c1ge, c1gt, c1qe, m_le, m_lt, m_ngt, m_nge, m_ne, m_en, nI_add, nI_1, nI_1', nsub, nsub1, pk_mul, nI_clamp, cl0, cl1, gd_in, gd_in0, gd_in1, gd_k0, gd_k1, gd_kb, gd_t, ↓nmI_s, ↓nmJ_s, ↓nmW_s, ↓nmY_s, ↓bI_s, ↓bJ_s, ↓bV_s, bI_s, bJ_s, bV_s, ↓reduceIte, eq_self, ne_10, uI_eq, uI_ne, uL_eq, uL_ne, cond_true, cond_false, ifz_f, ifz_t, not_true_eq_false, not_false_eq_true, ni41]
    rw [ih n (j + 1) _ L (by omega) (by omega), ← cpy_step (Or.inl (by decide))]
    rfl
theorem cp_57_55 {N s d : Nat} {I : PI} {L : PL} (hN : 20000 ≤ N) (hs : s + 41 ≤ 1230) (hd : d + 41 ≤ 41) : f_X12_copy_r57_r55 N (nI s) (nI d) I L = some (none, cpy I 57 s 55 d 41, L) := by
  unfold f_X12_copy_r57_r55
  exact lp_57_55 hs hd 41 N 0 I L rfl (by omega)
theorem lp_55_58 {N s d : Nat} (hs : s + 41 ≤ 41) (hd : d + 41 ≤ 41) : ∀ (m n j : Nat) (I : PI) (L : PL), j + m = 41 → m < n → F_X12_copy_r55_r58_3 N n (nI s) (nI d) (nI j) I L = some (none, cpy I 55 (s + j) 58 (d + j) m, L) := by
  intro m
  induction m with
  | zero =>
    intro n j I L h1 h2
    obtain ⟨n, rfl⟩ : ∃ k, n = k + 1 := ⟨n - 1, by omega⟩
    rw [F_X12_copy_r55_r58_3]
    simp (disch := omega) only [lt_t, lt_f, le_t, le_f, eq_t, eq_f, c0lt, c0le, c0eq, c0ge, c0gt, c0qe, c1lt, c1le, c1eq, c1ge, c1gt, c1qe, m_le, m_lt, m_ngt, m_nge, m_ne, m_en, nI_add, nI_1, nI_1', nsub, nsub1, pk_mul, nI_clamp, cl0, cl1, gd_in, gd_in0, gd_in1, gd_k0, gd_k1, gd_kb, gd_t, ↓nmI_s, ↓nmJ_s, ↓nmW_s, ↓nmY_s, ↓bI_s, ↓bJ_s, ↓bV_s, bI_s, bJ_s, bV_s, ↓reduceIte, eq_self, ne_10, uI_eq, uI_ne, uL_eq, uL_ne, cond_true, cond_false, ifz_f, ifz_t, not_true_eq_false, not_false_eq_true, ni41, cpy_0]
  | succ m ih =>
    intro n j I L h1 h2
    obtain ⟨n, rfl⟩ : ∃ k, n = k + 1 := ⟨n - 1, by omega⟩
    rw [F_X12_copy_r55_r58_3]
    simp (disch := omega) only [lt_t, lt_f, le_t, le_f, eq_t, eq_f, c0lt, c0le, c0eq, c0ge, c0gt, c0qe, c1lt, c1le, c1eq, c1ge, c1gt, c1qe, m_le, m_lt, m_ngt, m_nge, m_ne, m_en, nI_add, nI_1, nI_1', nsub, nsub1, pk_mul, nI_clamp, cl0, cl1, gd_in, gd_in0, gd_in1, gd_k0, gd_k1, gd_kb, gd_t, ↓nmI_s, ↓nmJ_s, ↓nmW_s, ↓nmY_s, ↓bI_s, ↓bJ_s, ↓bV_s, bI_s, bJ_s, bV_s, ↓reduceIte, eq_self, ne_10, uI_eq, uI_ne, uL_eq, uL_ne, cond_true, cond_false, ifz_f, ifz_t, not_true_eq_false, not_false_eq_true, ni41]
    rw [ih n (j + 1) _ L (by omega) (by omega), ← cpy_step (Or.inl (by decide))]
    rfl
theorem cp_55_58 {N s d : Nat} {I : PI} {L : PL} (hN : 20000 ≤ N) (hs : s + 41 ≤ 41) (hd : d + 41 ≤ 41) : f_X12_copy_r55_r58 N (nI s) (nI d) I L = some (none, cpy I 55 s 58 d 41, L) := by
  unfold f_X12_copy_r55_r58
  exact lp_55_58 hs hd 41 N 0 I L rfl (by omega)
theorem lp_58_55 {N s d : Nat} (hs : s + 41 ≤ 41) (hd : d + 41 ≤ 41) : ∀ (m n j : Nat) (I : PI) (L : PL), j + m = 41 → m < n → F_X12_copy_r58_r55_3 N n (nI s) (nI d) (nI j) I L = some (none, cpy I 58 (s + j) 55 (d + j) m, L) := by
  intro m
  induction m with
  | zero =>
    intro n j I L h1 h2
    obtain ⟨n, rfl⟩ : ∃ k, n = k + 1 := ⟨n - 1, by omega⟩
    rw [F_X12_copy_r58_r55_3]
    simp (disch := omega) only [lt_t, lt_f, le_t, le_f, eq_t, eq_f, c0lt, c0le, c0eq, c0ge, c0gt, c0qe, c1lt, c1le, c1eq, c1ge, c1gt, c1qe, m_le, m_lt, m_ngt, m_nge, m_ne, m_en, nI_add, nI_1, nI_1', nsub, nsub1, pk_mul, nI_clamp, cl0, cl1, gd_in, gd_in0, gd_in1, gd_k0, gd_k1, gd_kb, gd_t, ↓nmI_s, ↓nmJ_s, ↓nmW_s, ↓nmY_s, ↓bI_s, ↓bJ_s, ↓bV_s, bI_s, bJ_s, bV_s, ↓reduceIte, eq_self, ne_10, uI_eq, uI_ne, uL_eq, uL_ne, cond_true, cond_false, ifz_f, ifz_t, not_true_eq_false, not_false_eq_true, ni41, cpy_0]
  | succ m ih =>
    intro n j I L h1 h2
    obtain ⟨n, rfl⟩ : ∃ k, n = k + 1 := ⟨n - 1, by omega⟩
    rw [F_X12_copy_r58_r55_3]
    simp (disch := omega) only [lt_t, lt_f, le_t, le_f, eq_t, eq_f, c0lt, c0le, c0eq, c0ge, c0gt, c0qe, c1lt, c1le, c1eq, c1ge, c1gt, c1qe, m_le, m_lt, m_ngt, m_nge, m_ne, m_en, nI_add, nI_1, nI_1', nsub, nsub1, pk_mul, nI_clamp, cl0, cl1, gd_in, gd_in0, gd_in1, gd_k0, gd_k1, gd_kb, gd_t, ↓nmI_s, ↓nmJ_s, ↓nmW_s, ↓nmY_s, ↓bI_s, ↓bJ_s, ↓bV_s, bI_s, bJ_s, bV_s, ↓reduceIte, eq_self, ne_10, uI_eq, uI_ne, uL_eq, uL_ne, cond_true, cond_false, ifz_f, ifz_t, not_true_eq_false, not_false_eq_true, ni41]
    rw [ih n (j + 1) _ L (by omega) (by omega), ← cpy_step (Or.inl (by decide))]
    rfl
theorem cp_58_55 {N s d : Nat} {I : PI} {L : PL} (hN : 20000 ≤ N) (hs : s + 41 ≤ 41) (hd : d + 41 ≤ 41) : f_X12_copy_r58_r55 N (nI s) (nI d) I L = some (none, cpy I 58 s 55 d 41, L) := by
  unfold f_X12_copy_r58_r55
  exact lp_58_55 hs hd 41 N 0 I L rfl (by omega)
theorem resize2_s {N p n : Nat} {I : PI} {L : PL} (hp : p < 31) (hn : n ≤ 40) (h1 : I 2 4 = nI p) : f_X2_resize N (nI n) I L = some (none, uI I 31 p (nI n), L) := by
  unfold f_X2_resize
  simp (disch := omega) only [lt_t, lt_f, le_t, le_f, eq_t, eq_f, c0lt, c0le, c0eq, c0ge, c0gt, c0qe, c1lt, c1le, c1eq, c1ge, c1gt, c1qe, m_le, m_lt, m_ngt, m_nge, m_ne, m_en, nI_add, nI_1, nI_1', nsub, nsub1, pk_mul, nI_clamp, cl0, cl1, gd_in, gd_in0, gd_in1, gd_k0, gd_k1, gd_kb, gd_t, ↓nmI_s, ↓nmJ_s, ↓nmW_s, ↓nmY_s, ↓bI_s, ↓bJ_s, ↓bV_s, bI_s, bJ_s, bV_s, ↓reduceIte, eq_self, ne_10, uI_eq, uI_ne, uL_eq, uL_ne, cond_true, cond_false, ifz_f, ifz_t, not_true_eq_false, not_false_eq_true, ni31, ni40, h1]
theorem write2_s {N p n j : Nat} {v : Int32} {I : PI} {L : PL} (hp : p < 31) (hn : n ≤ 40) (hj : j < n) (h1 : I 2 4 = nI p) (h2 : I 31 p = nI n) : f_X2_write N (nI j) v I L = some (none, uI I 30 (40 * p + j) v, L) := by
  unfold f_X2_write
  simp (disch := omega) only [lt_t, lt_f, le_t, le_f, eq_t, eq_f, c0lt, c0le, c0eq, c0ge, c0gt, c0qe, c1lt, c1le, c1eq, c1ge, c1gt, c1qe, m_le, m_lt, m_ngt, m_nge, m_ne, m_en, nI_add, nI_1, nI_1', nsub, nsub1, pk_mul, nI_clamp, cl0, cl1, gd_in, gd_in0, gd_in1, gd_k0, gd_k1, gd_kb, gd_t, ↓nmI_s, ↓nmJ_s, ↓nmW_s, ↓nmY_s, ↓bI_s, ↓bJ_s, ↓bV_s, bI_s, bJ_s, bV_s, ↓reduceIte, eq_self, ne_10, uI_eq, uI_ne, uL_eq, uL_ne, cond_true, cond_false, ifz_f, ifz_t, not_true_eq_false, not_false_eq_true, size2_s hp h1 h2, ni40, h1, Nat.mul_comm p 40]
theorem startLp {N p q n : Nat} (hp : p < 31) (hq : q < 31) (hpq : p ≠ q) (hn : n ≤ 40) : ∀ (m k j : Nat) (I : PI) (L : PL), j + m = n → m < k → I 2 4 = nI q → I 31 q = nI n → F_X2_startAct_40 N k (nI p) (nI n) (nI j) I L = F_X2_startAct_73 N (cpy I 30 (40 * p + j) 30 (40 * q + j) m) L := by
  intro m
  induction m with
  | zero =>
    intro k j I L h1 h2 h3 h4
    obtain ⟨k, rfl⟩ : ∃ i, k = i + 1 := ⟨k - 1, by omega⟩
    rw [F_X2_startAct_40]
    simp (disch := omega) only [lt_t, lt_f, le_t, le_f, eq_t, eq_f, c0lt, c0le, c0eq, c0ge, c0gt, c0qe, c1lt, c1le, c1eq, c1ge, c1gt, c1qe, m_le, m_lt, m_ngt, m_nge, m_ne, m_en, nI_add, nI_1, nI_1', nsub, nsub1, pk_mul, nI_clamp, cl0, cl1, gd_in, gd_in0, gd_in1, gd_k0, gd_k1, gd_kb, gd_t, ↓nmI_s, ↓nmJ_s, ↓nmW_s, ↓nmY_s, ↓bI_s, ↓bJ_s, ↓bV_s, bI_s, bJ_s, bV_s, ↓reduceIte, eq_self, ne_10, uI_eq, uI_ne, uL_eq, uL_ne, cond_true, cond_false, ifz_f, ifz_t, not_true_eq_false, not_false_eq_true, cpy_0]
  | succ m ih =>
    intro k j I L h1 h2 h3 h4
    obtain ⟨k, rfl⟩ : ∃ i, k = i + 1 := ⟨k - 1, by omega⟩
    rw [F_X2_startAct_40]
    simp (disch := omega) only [lt_t, lt_f, le_t, le_f, eq_t, eq_f, c0lt, c0le, c0eq, c0ge, c0gt, c0qe, c1lt, c1le, c1eq, c1ge, c1gt, c1qe, m_le, m_lt, m_ngt, m_nge, m_ne, m_en, nI_add, nI_1, nI_1', nsub, nsub1, pk_mul, nI_clamp, cl0, cl1, gd_in, gd_in0, gd_in1, gd_k0, gd_k1, gd_kb, gd_t, ↓nmI_s, ↓nmJ_s, ↓nmW_s, ↓nmY_s, ↓bI_s, ↓bJ_s, ↓bV_s, bI_s, bJ_s, bV_s, ↓reduceIte, eq_self, ne_10, uI_eq, uI_ne, uL_eq, uL_ne, cond_true, cond_false, ifz_f, ifz_t, not_true_eq_false, not_false_eq_true, ni40, write2_s hq hn (by omega : j < n) h3 h4]
    rw [ih k (j + 1) _ L (by omega) (by omega) (by rw [uI_ne (by omega)]; exact h3) (by rw [uI_ne (by omega)]; exact h4), Nat.mul_comm p 40]
    rw [show 40 * p + (j + 1) = 40 * p + j + 1 from rfl, show 40 * q + (j + 1) = 40 * q + j + 1 from rfl, cpy_step (by omega)]
/-- what a change of the class's ring leaves as it was; r: the place of the state now -/
def dA (r a k : Nat) : Prop := (a = 2 ∧ 4 ≤ k ∧ k ≤ 6) ∨ (a = 31 ∧ k = r) ∨ (a = 30 ∧ 40 * r ≤ k ∧ k < 40 * r + 40)
theorem start30_s {N p q n u : Nat} {I : PI} {L : PL} (hN : 20000 ≤ N) (hp : p < 31) (hq : q < 31) (hpq : p ≠ q) (hn : n ≤ 40) (hu : u ≤ 30) (h3 : I 2 5 = nI u) : ∃ J, F_X2_startAct_30 N (nI p) (nI n) (nI q) I L = some (none, J, L) ∧ J 2 4 = nI q ∧ J 31 q = nI n ∧ J 2 5 = nI (min (u + 1) 30) ∧ J 2 6 = nI 0 ∧ (∀ k, k < n → J 30 (40 * q + k) = I 30 (40 * p + k)) ∧ Kp (dA q) I J := by
  have e := startLp (N := N) hp hq hpq hn n N 0 (uI (uI I 2 4 (nI q)) 31 q (nI n)) L (by omega) (by omega) (by simp (disch := omega) only [lt_t, lt_f, le_t, le_f, eq_t, eq_f, c0lt, c0le, c0eq, c0ge, c0gt, c0qe, c1lt, c1le, c1eq, c1ge, c1gt, c1qe, m_le, m_lt, m_ngt, m_nge, m_ne, m_en, nI_add, nI_1, nI_1', nsub, nsub1, pk_mul, nI_clamp, cl0, cl1, gd_in, gd_in0, gd_in1, gd_k0, gd_k1, gd_kb, gd_t, ↓nmI_s, ↓nmJ_s, ↓nmW_s, ↓nmY_s, ↓bI_s, ↓bJ_s, ↓bV_s, bI_s, bJ_s, bV_s, ↓reduceIte, eq_self, ne_10, uI_eq, uI_ne, uL_eq, uL_ne, cond_true, cond_false, ifz_f, ifz_t, not_true_eq_false, not_false_eq_true]) (by simp (disch := omega) only [lt_t, lt_f, le_t, le_f, eq_t, eq_f, c0lt, c0le, c0eq, c0ge, c0gt, c0qe, c1lt, c1le, c1eq, c1ge, c1gt, c1qe, m_le, m_lt, m_ngt, m_nge, m_ne, m_en, nI_add, nI_1, nI_1', nsub, nsub1, pk_mul, nI_clamp, cl0, cl1, gd_in, gd_in0, gd_in1, gd_k0, gd_k1, gd_kb, gd_t, ↓nmI_s, ↓nmJ_s, ↓nmW_s, ↓nmY_s, ↓bI_s, ↓bJ_s, ↓bV_s, bI_s, bJ_s, bV_s, ↓reduceIte, eq_self, ne_10, uI_eq, uI_ne, uL_eq, uL_ne, cond_true, cond_false, ifz_f, ifz_t, not_true_eq_false, not_false_eq_true])
  refine ⟨?J, ?_, ?_, ?_, ?_, ?_, ?_, ?_⟩
  rotate_left
  · unfold F_X2_startAct_30
    rw [nmW_s, resize2_s hq hn uI_eq, bV_s]
    refine e.trans ?_
    unfold F_X2_startAct_73
    simp (disch := omega) only [lt_t, lt_f, le_t, le_f, eq_t, eq_f, c0lt, c0le, c0eq, c0ge, c0gt, c0qe, c1lt, c1le, c1eq, c1ge, c1gt, c1qe, m_le, m_lt, m_ngt, m_nge, m_ne, m_en, nI_add, nI_1, nI_1', nsub, nsub1, pk_mul, nI_clamp, cl0, cl1, gd_in, gd_in0, gd_in1, gd_k0, gd_k1, gd_kb, gd_t, ↓nmI_s, ↓nmJ_s, ↓nmW_s, ↓nmY_s, ↓bI_s, ↓bJ_s, ↓bV_s, bI_s, bJ_s, bV_s, ↓reduceIte, eq_self, ne_10, uI_eq, uI_ne, uL_eq, uL_ne, cond_true, cond_false, ifz_f, ifz_t, not_true_eq_false, not_false_eq_true, ni30]
    rfl
  · rw [uI_ne (by omega), uI_ne (by omega), cpy_out (by omega), uI_ne (by omega), uI_eq]
  · rw [uI_ne (by omega), uI_ne (by omega), cpy_out (by omega), uI_eq]
  · rw [uI_ne (by omega), uI_eq, cpy_out (by omega), uI_ne (by omega), uI_ne (by omega), h3, nI_1, jmin_n (by omega) (by omega)]
  · rw [uI_eq]; rfl
  · intro k hk
    rw [uI_ne (by omega), uI_ne (by omega), Nat.add_zero, Nat.add_zero, cpy_at hk, uI_ne (by omega), uI_ne (by omega)]
  · exact ((((Kp.rf.up (by unfold dA; omega)).up (by unfold dA; omega)).tr (cpy_kp (fun k g1 g2 => by unfold dA; omega))).up (by unfold dA; omega)).up (by unfold dA; omega)
theorem start_s {N p n u : Nat} {I : PI} {L : PL} (hN : 20000 ≤ N) (hp : p < 31) (hn : n ≤ 40) (hu : u ≤ 30) (h1 : I 2 4 = nI p) (h2 : I 31 p = nI n) (h3 : I 2 5 = nI u) : ∃ J, f_X2_startAct N I L = some (none, J, L) ∧ J 2 4 = nI ((p + 1) % 31) ∧ J 31 ((p + 1) % 31) = nI n ∧ J 2 5 = nI (min (u + 1) 30) ∧ J 2 6 = nI 0 ∧ (∀ k, k < n → J 30 (40 * ((p + 1) % 31) + k) = I 30 (40 * p + k)) ∧ Kp (dA ((p + 1) % 31)) I J := by
  obtain ⟨J, e, r⟩ := start30_s (q := (p + 1) % 31) (L := L) hN hp (Nat.mod_lt _ (by decide)) (by omega) hn hu h3
  refine ⟨J, ?_, r⟩
  unfold f_X2_startAct
  rw [nmI_s, size2_s hp h1 h2, bI_s, h1]
  by_cases h : 30 ≤ p
  · have hp30 : p = 30 := by omega
    subst hp30
    rw [show (30 : Int32) = nI 30 from rfl, if_pos (nI_le (by omega) (by omega))]
    exact e
  · rw [show (30 : Int32) = nI 30 from rfl, if_neg (nI_ge (by omega) (by omega)), nI_1]
    rw [show (p + 1) % 31 = p + 1 by omega] at e
    exact e
theorem put54_s {N u : Nat} {I : PI} {L : PL} (hN : 20000 ≤ N) (hu : u < 30) (h : I 12 43 = nI u) : F_X12_putBy_54 N I L = some (none, uI (cpy I 55 0 56 (41 * u) 41) 12 43 (nI (u + 1)), L) := by
  unfold F_X12_putBy_54
  have e : (41 : Int32) * nI u = nI (41 * u) := pk_mul 41 u
  have e0 := cp_55_56 (s := 0) (d := 41 * u) (I := I) (L := L) hN (by omega) (by omega)
  rw [h, e]
  refine (congrArg (fun o => bV o _) e0).trans ?_
  rw [bV_s, cpy_out (by omega), h, nI_1, nmW_s]
theorem put11_s {N : Nat} (hN : 20000 ≤ N) : ∀ (m n j : Nat) (I : PI) (L : PL), j + m = 29 → m < n → I 12 43 = nI 30 → ∃ J, F_X12_putBy_11 N n (nI j) I L = F_X12_putBy_54 N J L ∧ J 12 43 = nI 29 ∧ (∀ k, 41 * j ≤ k → k < 41 * 29 → J 56 k = I 56 (k + 41)) ∧ Kp (fun a k => (a = 12 ∧ k = 43) ∨ (a = 56 ∧ 41 * j ≤ k ∧ k < 41 * 29)) I J := by
  intro m
  induction m with
  | zero =>
    intro n j I L h1 h2 h3
    obtain ⟨n, rfl⟩ : ∃ k, n = k + 1 := ⟨n - 1, by omega⟩
    refine ⟨uI I 12 43 (nI 29), ?_, uI_eq, fun k h4 h5 => by omega, Kp.rf.up (Or.inl ⟨rfl, rfl⟩)⟩
    rw [F_X12_putBy_11]
    simp (disch := omega) only [lt_t, lt_f, le_t, le_f, eq_t, eq_f, c0lt, c0le, c0eq, c0ge, c0gt, c0qe, c1lt, c1le, c1eq, c1ge, c1gt, c1qe, m_le, m_lt, m_ngt, m_nge, m_ne, m_en, nI_add, nI_1, nI_1', nsub, nsub1, pk_mul, nI_clamp, cl0, cl1, gd_in, gd_in0, gd_in1, gd_k0, gd_k1, gd_kb, gd_t, ↓nmI_s, ↓nmJ_s, ↓nmW_s, ↓nmY_s, ↓bI_s, ↓bJ_s, ↓bV_s, bI_s, bJ_s, bV_s, ↓reduceIte, eq_self, ne_10, uI_eq, uI_ne, uL_eq, uL_ne, cond_true, cond_false, ifz_f, ifz_t, not_true_eq_false, not_false_eq_true, ni29, h3]
  | succ m ih =>
    intro n j I L h1 h2 h3
    obtain ⟨n, rfl⟩ : ∃ k, n = k + 1 := ⟨n - 1, by omega⟩
    obtain ⟨J, e, g1, g2, g3⟩ := ih n (j + 1) (cpy I 56 (41 * (j + 1)) 56 (41 * j) 41) L (by omega) (by omega) (by rw [cpy_out (by omega)]; exact h3)
    refine ⟨J, ?_, g1, fun k h4 h5 => ?_, ?_⟩
    · rw [F_X12_putBy_11, ← e]
      simp (disch := omega) only [lt_t, lt_f, le_t, le_f, eq_t, eq_f, c0lt, c0le, c0eq, c0ge, c0gt, c0qe, c1lt, c1le, c1eq, c1ge, c1gt, c1qe, m_le, m_lt, m_ngt, m_nge, m_ne, m_en, nI_add, nI_1, nI_1', nsub, nsub1, pk_mul, nI_clamp, cl0, cl1, gd_in, gd_in0, gd_in1, gd_k0, gd_k1, gd_kb, gd_t, ↓nmI_s, ↓nmJ_s, ↓nmW_s, ↓nmY_s, ↓bI_s, ↓bJ_s, ↓bV_s, bI_s, bJ_s, bV_s, ↓reduceIte, eq_self, ne_10, uI_eq, uI_ne, uL_eq, uL_ne, cond_true, cond_false, ifz_f, ifz_t, not_true_eq_false, not_false_eq_true, ni29, ni41, cp_56_56]
    · by_cases h6 : 41 * (j + 1) ≤ k
      · rw [g2 k h6 h5, cpy_out (by omega)]
      · rw [g3 56 k (by omega), cpy_in (by omega) (by omega)]
        congr 1
        omega
    · refine Kp.tr (J := cpy I 56 (41 * (j + 1)) 56 (41 * j) 41) (cpy_kp (fun k h4 h5 => by omega)) (g3.mono (fun a k q => by omega))
/-- the model's stack of states: the state of now on top, the lowest gone when there were 30 -/
def Up (I J : PI) (u : Nat) : Prop := (u < 30 → (∀ k, k < 41 * u → J 56 k = I 56 k) ∧ ∀ k, k < 41 → J 56 (41 * u + k) = I 55 k) ∧ (u = 30 → (∀ k, k < 41 * 29 → J 56 k = I 56 (k + 41)) ∧ ∀ k, k < 41 → J 56 (41 * 29 + k) = I 55 k)
def dP (a k : Nat) : Prop := (a = 12 ∧ (k = 43 ∨ k = 44)) ∨ a = 56
theorem put_s {N u : Nat} {I : PI} {L : PL} (hN : 20000 ≤ N) (hu : u ≤ 30) (h : I 12 43 = nI u) : ∃ J, f_X12_putBy N I L = some (none, J, L) ∧ J 12 43 = nI (min (u + 1) 30) ∧ Up I J u ∧ Kp (fun a k => (a = 12 ∧ k = 43) ∨ a = 56) I J := by
  unfold f_X12_putBy
  by_cases h1 : u = 30
  · subst h1
    obtain ⟨J, e, g1, g2, g3⟩ := put11_s hN 29 N 0 I L rfl (by omega) h
    refine ⟨uI (cpy J 55 0 56 (41 * 29) 41) 12 43 (nI (29 + 1)), ?_, ?_, ⟨fun q => absurd q (by omega), fun _ => ⟨fun k hk => ?_, fun k hk => ?_⟩⟩, ?_⟩
    · rw [show (30 : Int32) = nI 30 from rfl, if_pos h]
      exact Eq.trans e (put54_s hN (by omega) g1)
    · rw [uI_eq]; rfl
    · rw [uI_ne (by omega), cpy_out (by omega), g2 k (by omega) (by omega)]
    · rw [uI_ne (by omega), cpy_at hk, g3 55 _ (by omega), Nat.zero_add]
    · exact ((g3.mono (fun a k q => by omega)).tr (cpy_kp (fun k _ _ => Or.inr rfl))).up (Or.inl ⟨rfl, rfl⟩)
  · have e30 : (30 : Int32) = nI 30 := rfl
    refine ⟨uI (cpy I 55 0 56 (41 * u) 41) 12 43 (nI (u + 1)), ?_, ?_, ⟨fun _ => ⟨fun k hk => ?_, fun k hk => ?_⟩, fun q => absurd q h1⟩, ?_⟩
    · rw [h, e30, if_neg (fun q => h1 ((nI_eq (by omega) (by omega)).mp q))]
      exact put54_s hN (by omega) h
    · rw [uI_eq, Nat.min_eq_left (by omega)]
    · rw [uI_ne (by omega), cpy_out (by omega)]
    · rw [uI_ne (by omega), cpy_at hk, Nat.zero_add]
    · exact (cpy_kp (fun k _ _ => Or.inr rfl)).up (Or.inl ⟨rfl, rfl⟩)
theorem act_s {N u : Nat} {I : PI} {L : PL} (hN : 20000 ≤ N) (hu : u ≤ 30) (h : I 12 43 = nI u) : ∃ J, f_X12_act N I L = some (none, J, L) ∧ J 12 43 = nI (min (u + 1) 30) ∧ J 12 44 = nI 0 ∧ Up I J u ∧ Kp dP I J := by
  obtain ⟨J, e, g1, g2, g3⟩ := put_s (L := L) hN hu h
  refine ⟨uI J 12 44 (nI 0), ?_, ?_, uI_eq, ⟨fun q => ⟨fun k hk => ?_, fun k hk => ?_⟩, fun q => ⟨fun k hk => ?_, fun k hk => ?_⟩⟩, ?_⟩
  · unfold f_X12_act
    rw [e, bV_s, nmW_s]; rfl
  · rw [uI_ne (by omega)]; exact g1
  · rw [uI_ne (by omega)]; exact (g2.1 q).1 k hk
  · rw [uI_ne (by omega)]; exact (g2.1 q).2 k hk
  · rw [uI_ne (by omega)]; exact (g2.2 q).1 k hk
  · rw [uI_ne (by omega)]; exact (g2.2 q).2 k hk
  · exact (g3.mono (fun a k q => by unfold dP; omega)).up (by unfold dP; omega)
theorem StEq.mv {I J : PI} {r A B off off' : Nat} (h1 : J 31 r = I 31 r) (h2 : ∀ k, k < 40 → J 30 (40 * r + k) = I 30 (40 * r + k)) (h3 : ∀ k, k < 41 → J B (off' + k) = I A (off + k)) (s : StEq I r A off) : StEq J r B off' := by
  obtain ⟨n, g1, g2, g3, g4⟩ := s
  refine ⟨n, g1, h1.trans g2, ?_, fun k hk => ?_⟩
  · have := h3 0 (by omega)
    rw [Nat.add_zero, Nat.add_zero] at this
    exact this.trans g3
  · rw [h2 k (by omega), Nat.add_assoc, h3 (1 + k) (by omega), ← Nat.add_assoc]
    exact g4 k hk
/-- an act in both: the state of before lies on both stacks, the redo stacks are empty -/
theorem act_Z {I J : PI} {p u g : Nat} (hp : p < 31) (hug : u + g ≤ 30) (s1 : StEq I p 55 0) (s2 : ∀ j, j < u → StEq I ((p + 30 - j) % 31) 56 (41 * (u - 1 - j))) (s4 : (I 2 3 = -1 ∧ I 12 45 = 0) ∨ (I 12 45 = 1 ∧ ∃ n : Nat, n ≤ 40 ∧ I 2 3 = nI n ∧ I 58 0 = nI n ∧ ∀ k, k < n → I 32 k = I 58 (1 + k) ∧ ∃ v : Nat, v ≤ 999 ∧ I 32 k = nI v)) (c1 : J 2 4 = nI ((p + 1) % 31)) (c2 : J 2 5 = nI (min (u + 1) 30)) (c3 : J 2 6 = nI 0) (c4 : J 12 43 = nI (min (u + 1) 30)) (c5 : J 12 44 = nI 0) (c6 : Up I J u) (c7 : ∀ a k, a ≠ 55 → ¬ dA ((p + 1) % 31) a k → ¬ dP a k → J a k = I a k) (c8 : StEq J ((p + 1) % 31) 55 0) : RZ J := by
  have m1 : ∀ r, r < 31 → r ≠ (p + 1) % 31 → J 31 r = I 31 r := fun r hr hn => c7 31 r (by omega) (by unfold dA; omega) (by unfold dP; omega)
  have m2 : ∀ r, r < 31 → r ≠ (p + 1) % 31 → ∀ k, k < 40 → J 30 (40 * r + k) = I 30 (40 * r + k) := fun r hr hn k hk => c7 30 _ (by omega) (by unfold dA; omega) (by unfold dP; omega)
  refine ⟨(p + 1) % 31, min (u + 1) 30, 0, Nat.mod_lt _ (by decide), by omega, c1, c2, c4, c3, c5, c8, fun j hj => ?_, fun j hj => absurd hj (by omega), ?_⟩
  · by_cases hu : u = 30
    · obtain ⟨c9, c10⟩ := c6.2 hu
      subst hu
      match j with
      | 0 =>
        rw [show ((p + 1) % 31 + 30 - 0) % 31 = p by omega]
        exact s1.mv (m1 p hp (by omega)) (m2 p hp (by omega)) (fun k hk => by rw [Nat.zero_add]; exact c10 k hk)
      | j + 1 =>
        have hj' : j < 29 := by omega
        rw [show ((p + 1) % 31 + 30 - (j + 1)) % 31 = (p + 30 - j) % 31 by omega]
        refine (s2 j (by omega)).mv (m1 _ (Nat.mod_lt _ (by decide)) (by omega)) (m2 _ (Nat.mod_lt _ (by decide)) (by omega)) (fun k hk => ?_)
        rw [c9 _ (by omega)]
        congr 1
        omega
    · obtain ⟨c9, c10⟩ := c6.1 (by omega)
      match j with
      | 0 =>
        rw [show ((p + 1) % 31 + 30 - 0) % 31 = p by omega]
        exact s1.mv (m1 p hp (by omega)) (m2 p hp (by omega)) (fun k hk => by rw [Nat.zero_add, show min (u + 1) 30 - 1 - 0 = u by omega]; exact c10 k hk)
      | j + 1 =>
        have hj' : j < u := by omega
        rw [show ((p + 1) % 31 + 30 - (j + 1)) % 31 = (p + 30 - j) % 31 by omega]
        refine (s2 j (by omega)).mv (m1 _ (Nat.mod_lt _ (by decide)) (by omega)) (m2 _ (Nat.mod_lt _ (by decide)) (by omega)) (fun k hk => ?_)
        rw [c9 _ (by omega)]
        congr 1
        omega
  · rw [c7 2 3 (by omega) (by unfold dA; omega) (by unfold dP; omega), c7 12 45 (by omega) (by unfold dA; omega) (by unfold dP; omega), c7 58 0 (by omega) (by unfold dA; omega) (by unfold dP; omega)]
    rcases s4 with s4 | ⟨g1, n, g2, g3, g4, g5⟩
    · exact Or.inl s4
    · refine Or.inr ⟨g1, n, g2, g3, g4, fun k hk => ?_⟩
      rw [c7 32 k (by omega) (by unfold dA; omega) (by unfold dP; omega), c7 58 (1 + k) (by omega) (by unfold dA; omega) (by unfold dP; omega)]
      exact g5 k hk
