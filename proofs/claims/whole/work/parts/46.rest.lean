/-! rest -/
theorem has8_s {N m : Nat} {a : Int32} {I : PI} {L : PL} (hm : m ≤ 6) (h : I 8 6 = nI m) : f_X8_has N a I L = some (some (.int (bif hz a m then 1 else 0)), I, L) := by
  unfold f_X8_has
  rw [k0, k1, gd_t, gd_t, h]
  cases hw : hz a m with
  | true =>
    have h3 := (has_iff (a := a) (n := m) (by omega)).mpr ((hz_iff (by omega)).mp hw)
    rw [if_neg h3.1, if_neg h3.2]; rfl
  | false =>
    by_cases h3 : a < 0
    · rw [if_pos h3]; rfl
    · rw [if_neg h3]
      by_cases h4 : nI m ≤ a
      · rw [if_pos h4]; rfl
      · have h5 := (hz_iff (a := a) (m := m) (by omega)).mpr ((has_iff (by omega)).mp ⟨h3, h4⟩)
        rw [hw] at h5
        cases h5
theorem isSet_s {N m : Nat} {a : Int32} {I : PI} {L : PL} (h : I 12 22 = nI m) : f_X12_isSet N a I L = some (some (.int (bif hz a m then 1 else 0)), I, L) := by
  unfold f_X12_isSet
  rw [h, in_hz, bI_s, kb, gd_t]
theorem len8_s {N j n : Nat} {I : PI} {L : PL} (hj : j < 7) (h : I 26 j = nI n) : f_X8_lengthOf N (nI j) I L = some (some (.int (nI n)), I, L) := by
  unfold f_X8_lengthOf
  simp (disch := omega) only [lt_t, lt_f, le_t, le_f, eq_t, eq_f, c0lt, c0le, c0eq, c0ge, c0gt, c0qe, c1lt, c1le, c1eq, c1ge, c1gt, c1qe, m_le, m_lt, m_ngt, m_nge, m_ne, m_en, nI_add, nI_1, nI_1', nsub, nsub1, pk_mul, nI_clamp, cl0, cl1, gd_in, gd_in0, gd_in1, gd_k0, gd_k1, gd_kb, gd_t, ↓nmI_s, ↓nmJ_s, ↓nmW_s, ↓nmY_s, ↓bI_s, ↓bJ_s, ↓bV_s, bI_s, bJ_s, bV_s, ↓reduceIte, eq_self, ne_10, uI_eq, uI_ne, uL_eq, uL_ne, cond_true, cond_false, ifz_f, ifz_t, not_true_eq_false, not_false_eq_true, ni7, h]
theorem num8_s {N m j n k : Nat} {I : PI} {L : PL} (hm : m ≤ 6) (h1 : I 8 6 = nI m) (hj : j < m) (h : I 26 j = nI n) (hn : n ≤ 8) (hk : k < n) : f_X8_number N (nI j) (nI k) I L = some (some (.int (I 25 (j * 8 + k))), I, L) := by
  unfold f_X8_number
  simp (disch := omega) only [lt_t, lt_f, le_t, le_f, eq_t, eq_f, c0lt, c0le, c0eq, c0ge, c0gt, c0qe, c1lt, c1le, c1eq, c1ge, c1gt, c1qe, m_le, m_lt, m_ngt, m_nge, m_ne, m_en, nI_add, nI_1, nI_1', nsub, nsub1, pk_mul, nI_clamp, cl0, cl1, gd_in, gd_in0, gd_in1, gd_k0, gd_k1, gd_kb, gd_t, ↓nmI_s, ↓nmJ_s, ↓nmW_s, ↓nmY_s, ↓bI_s, ↓bJ_s, ↓bV_s, bI_s, bJ_s, bV_s, ↓reduceIte, eq_self, ne_10, uI_eq, uI_ne, uL_eq, uL_ne, cond_true, cond_false, ifz_f, ifz_t, not_true_eq_false, not_false_eq_true, has8_s hm h1, ni7, ni8, h, hz_t hj (by omega : m < 2 ^ 31)]
theorem num8_o {N m j n k : Nat} {I : PI} {L : PL} (hm : m ≤ 6) (h1 : I 8 6 = nI m) (hj : j < m) (h : I 26 j = nI n) (hn : n ≤ 8) (hk : n ≤ k) (hk2 : k < 2 ^ 31) : f_X8_number N (nI j) (nI k) I L = some (some (.int (-1)), I, L) := by
  unfold f_X8_number
  simp (disch := omega) only [lt_t, lt_f, le_t, le_f, eq_t, eq_f, c0lt, c0le, c0eq, c0ge, c0gt, c0qe, c1lt, c1le, c1eq, c1ge, c1gt, c1qe, m_le, m_lt, m_ngt, m_nge, m_ne, m_en, nI_add, nI_1, nI_1', nsub, nsub1, pk_mul, nI_clamp, cl0, cl1, gd_in, gd_in0, gd_in1, gd_k0, gd_k1, gd_kb, gd_t, ↓nmI_s, ↓nmJ_s, ↓nmW_s, ↓nmY_s, ↓bI_s, ↓bJ_s, ↓bV_s, bI_s, bJ_s, bV_s, ↓reduceIte, eq_self, ne_10, uI_eq, uI_ne, uL_eq, uL_ne, cond_true, cond_false, ifz_f, ifz_t, not_true_eq_false, not_false_eq_true, has8_s hm h1, ni7, ni8, h, hz_t hj (by omega : m < 2 ^ 31)]
theorem wi_m (n : Nat) (hn : 1 ≤ n) (hs : n < 2 ^ 31) (a : Int32) : (a < -1 ∧ wi a (-1) (nI (n - 1)) = false) ∨ (a = -1 ∧ wi a (-1) (nI (n - 1)) = true) ∨ (∃ k, k < n ∧ a = nI k ∧ wi a (-1) (nI (n - 1)) = true) ∨ (∃ k, n ≤ k ∧ k < 2 ^ 31 ∧ a = nI k ∧ wi a (-1) (nI (n - 1)) = false) := by
  by_cases h1 : a < -1
  · refine Or.inl ⟨h1, ?_⟩
    unfold wi
    rw [decide_eq_false (i32_nle.mpr h1)]; rfl
  · by_cases h2 : a = -1
    · refine Or.inr (Or.inl ⟨h2, ?_⟩)
      subst h2
      unfold wi
      rw [decide_eq_true (i32_nlt.mp h1), decide_eq_true (by rw [m_le (by omega)]; trivial)]; rfl
    · have h3 : ¬ a < 0 := by
        intro q
        apply h2
        rw [Int32.lt_iff_toInt_lt, m_toInt] at h1
        rw [Int32.lt_iff_toInt_lt, Int32.toInt_zero] at q
        apply Int32.toInt_inj.mp
        rw [m_toInt]
        omega
      obtain ⟨k, hk, rfl⟩ := nI_of h3
      by_cases h4 : k < n
      · refine Or.inr (Or.inr (Or.inl ⟨k, h4, rfl, ?_⟩))
        unfold wi
        rw [decide_eq_true (i32_nlt.mp h1), decide_eq_true (nI_le (by omega) (by omega))]; rfl
      · refine Or.inr (Or.inr (Or.inr ⟨k, by omega, hk, rfl, ?_⟩))
        unfold wi
        rw [decide_eq_true (i32_nlt.mp h1), decide_eq_false (nI_ge (by omega) (by omega))]; rfl
theorem case_rest {X : PI → Prop} (N : Nat) (a1 a2 : Int32) : CaseI (Inv X) (f_X11_rest N a1 a2) (f_X12_rest N a1 a2) := by
  intro I L hI
  have hI0 := hI
  obtain ⟨-, -, -, ⟨m, r1, r2, r3, r4⟩, -⟩ := hI
  cases hw : hz a1 m with
  | false =>
    refine ⟨-1, I, L, I, L, ?_, ?_, hI0⟩
    · unfold f_X11_rest
      simp (disch := omega) only [lt_t, lt_f, le_t, le_f, eq_t, eq_f, c0lt, c0le, c0eq, c0ge, c0gt, c0qe, c1lt, c1le, c1eq, c1ge, c1gt, c1qe, m_le, m_lt, m_ngt, m_nge, m_ne, m_en, nI_add, nI_1, nI_1', nsub, nsub1, pk_mul, nI_clamp, cl0, cl1, gd_in, gd_in0, gd_in1, gd_k0, gd_k1, gd_kb, gd_t, ↓nmI_s, ↓nmJ_s, ↓nmW_s, ↓nmY_s, ↓bI_s, ↓bJ_s, ↓bV_s, bI_s, bJ_s, bV_s, ↓reduceIte, eq_self, ne_10, uI_eq, uI_ne, uL_eq, uL_ne, cond_true, cond_false, ifz_f, ifz_t, not_true_eq_false, not_false_eq_true, has8_s r1 r2, hw]
    · unfold f_X12_rest F_X12_rest_24
      simp (disch := omega) only [lt_t, lt_f, le_t, le_f, eq_t, eq_f, c0lt, c0le, c0eq, c0ge, c0gt, c0qe, c1lt, c1le, c1eq, c1ge, c1gt, c1qe, m_le, m_lt, m_ngt, m_nge, m_ne, m_en, nI_add, nI_1, nI_1', nsub, nsub1, pk_mul, nI_clamp, cl0, cl1, gd_in, gd_in0, gd_in1, gd_k0, gd_k1, gd_kb, gd_t, ↓nmI_s, ↓nmJ_s, ↓nmW_s, ↓nmY_s, ↓bI_s, ↓bJ_s, ↓bV_s, bI_s, bJ_s, bV_s, ↓reduceIte, eq_self, ne_10, uI_eq, uI_ne, uL_eq, uL_ne, cond_true, cond_false, ifz_f, ifz_t, not_true_eq_false, not_false_eq_true, isSet_s r3, hw]
  | true =>
    obtain ⟨j, hj, rfl⟩ := (hz_iff (by omega)).mp hw
    obtain ⟨n, g1, g2, g3, g4, g5⟩ := r4 j hj
    rcases wi_m n g1 (by omega) a2 with ⟨h1, h2⟩ | ⟨rfl, h2⟩ | ⟨k, h1, rfl, h2⟩ | ⟨k, h1, h3, rfl, h2⟩
    · refine ⟨-1, I, L, I, L, ?_, ?_, hI0⟩
      · have h3 := i32_nle.mpr h1
        unfold f_X11_rest
        simp (disch := omega) only [lt_t, lt_f, le_t, le_f, eq_t, eq_f, c0lt, c0le, c0eq, c0ge, c0gt, c0qe, c1lt, c1le, c1eq, c1ge, c1gt, c1qe, m_le, m_lt, m_ngt, m_nge, m_ne, m_en, nI_add, nI_1, nI_1', nsub, nsub1, pk_mul, nI_clamp, cl0, cl1, gd_in, gd_in0, gd_in1, gd_k0, gd_k1, gd_kb, gd_t, ↓nmI_s, ↓nmJ_s, ↓nmW_s, ↓nmY_s, ↓bI_s, ↓bJ_s, ↓bV_s, bI_s, bJ_s, bV_s, ↓reduceIte, eq_self, ne_10, uI_eq, uI_ne, uL_eq, uL_ne, cond_true, cond_false, ifz_f, ifz_t, not_true_eq_false, not_false_eq_true, has8_s r1 r2, hw, h3]
      · unfold f_X12_rest F_X12_rest_24
        simp (disch := omega) only [lt_t, lt_f, le_t, le_f, eq_t, eq_f, c0lt, c0le, c0eq, c0ge, c0gt, c0qe, c1lt, c1le, c1eq, c1ge, c1gt, c1qe, m_le, m_lt, m_ngt, m_nge, m_ne, m_en, nI_add, nI_1, nI_1', nsub, nsub1, pk_mul, nI_clamp, cl0, cl1, gd_in, gd_in0, gd_in1, gd_k0, gd_k1, gd_kb, gd_t, ↓nmI_s, ↓nmJ_s, ↓nmW_s, ↓nmY_s, ↓bI_s, ↓bJ_s, ↓bV_s, bI_s, bJ_s, bV_s, ↓reduceIte, eq_self, ne_10, uI_eq, uI_ne, uL_eq, uL_ne, cond_true, cond_false, ifz_f, ifz_t, not_true_eq_false, not_false_eq_true, isSet_s r3, hw, g4, in_s, h2]
    · refine ⟨nI n, I, L, I, L, ?_, ?_, hI0⟩
      · have h3 : (-1 : Int32) ≤ -1 := by decide
        unfold f_X11_rest
        simp (disch := omega) only [lt_t, lt_f, le_t, le_f, eq_t, eq_f, c0lt, c0le, c0eq, c0ge, c0gt, c0qe, c1lt, c1le, c1eq, c1ge, c1gt, c1qe, m_le, m_lt, m_ngt, m_nge, m_ne, m_en, nI_add, nI_1, nI_1', nsub, nsub1, pk_mul, nI_clamp, cl0, cl1, gd_in, gd_in0, gd_in1, gd_k0, gd_k1, gd_kb, gd_t, ↓nmI_s, ↓nmJ_s, ↓nmW_s, ↓nmY_s, ↓bI_s, ↓bJ_s, ↓bV_s, bI_s, bJ_s, bV_s, ↓reduceIte, eq_self, ne_10, uI_eq, uI_ne, uL_eq, uL_ne, cond_true, cond_false, ifz_f, ifz_t, not_true_eq_false, not_false_eq_true, has8_s r1 r2, hw, h3, len8_s (by omega : j < 7) g3]
      · unfold f_X12_rest F_X12_rest_24
        simp (disch := omega) only [lt_t, lt_f, le_t, le_f, eq_t, eq_f, c0lt, c0le, c0eq, c0ge, c0gt, c0qe, c1lt, c1le, c1eq, c1ge, c1gt, c1qe, m_le, m_lt, m_ngt, m_nge, m_ne, m_en, nI_add, nI_1, nI_1', nsub, nsub1, pk_mul, nI_clamp, cl0, cl1, gd_in, gd_in0, gd_in1, gd_k0, gd_k1, gd_kb, gd_t, ↓nmI_s, ↓nmJ_s, ↓nmW_s, ↓nmY_s, ↓bI_s, ↓bJ_s, ↓bV_s, bI_s, bJ_s, bV_s, ↓reduceIte, eq_self, ne_10, uI_eq, uI_ne, uL_eq, uL_ne, cond_true, cond_false, ifz_f, ifz_t, not_true_eq_false, not_false_eq_true, isSet_s r3, hw, g4, in_s, h2]
    · refine ⟨I 25 (8 * j + k), I, L, I, L, ?_, ?_, hI0⟩
      · unfold f_X11_rest
        simp (disch := omega) only [lt_t, lt_f, le_t, le_f, eq_t, eq_f, c0lt, c0le, c0eq, c0ge, c0gt, c0qe, c1lt, c1le, c1eq, c1ge, c1gt, c1qe, m_le, m_lt, m_ngt, m_nge, m_ne, m_en, nI_add, nI_1, nI_1', nsub, nsub1, pk_mul, nI_clamp, cl0, cl1, gd_in, gd_in0, gd_in1, gd_k0, gd_k1, gd_kb, gd_t, ↓nmI_s, ↓nmJ_s, ↓nmW_s, ↓nmY_s, ↓bI_s, ↓bJ_s, ↓bV_s, bI_s, bJ_s, bV_s, ↓reduceIte, eq_self, ne_10, uI_eq, uI_ne, uL_eq, uL_ne, cond_true, cond_false, ifz_f, ifz_t, not_true_eq_false, not_false_eq_true, has8_s r1 r2, hw, num8_s r1 r2 hj g3 g2 h1, Nat.mul_comm j 8]
      · unfold f_X12_rest F_X12_rest_24
        obtain ⟨p, p1, p2, p3, p4⟩ := g5 k h1
        simp (disch := omega) only [lt_t, lt_f, le_t, le_f, eq_t, eq_f, c0lt, c0le, c0eq, c0ge, c0gt, c0qe, c1lt, c1le, c1eq, c1ge, c1gt, c1qe, m_le, m_lt, m_ngt, m_nge, m_ne, m_en, nI_add, nI_1, nI_1', nsub, nsub1, pk_mul, nI_clamp, cl0, cl1, gd_in, gd_in0, gd_in1, gd_k0, gd_k1, gd_kb, gd_t, ↓nmI_s, ↓nmJ_s, ↓nmW_s, ↓nmY_s, ↓bI_s, ↓bJ_s, ↓bV_s, bI_s, bJ_s, bV_s, ↓reduceIte, eq_self, ne_10, uI_eq, uI_ne, uL_eq, uL_ne, cond_true, cond_false, ifz_f, ifz_t, not_true_eq_false, not_false_eq_true, isSet_s r3, hw, g4, in_s, h2, ni8, p3, p4]
    · refine ⟨-1, I, L, I, L, ?_, ?_, hI0⟩
      · unfold f_X11_rest
        simp (disch := omega) only [lt_t, lt_f, le_t, le_f, eq_t, eq_f, c0lt, c0le, c0eq, c0ge, c0gt, c0qe, c1lt, c1le, c1eq, c1ge, c1gt, c1qe, m_le, m_lt, m_ngt, m_nge, m_ne, m_en, nI_add, nI_1, nI_1', nsub, nsub1, pk_mul, nI_clamp, cl0, cl1, gd_in, gd_in0, gd_in1, gd_k0, gd_k1, gd_kb, gd_t, ↓nmI_s, ↓nmJ_s, ↓nmW_s, ↓nmY_s, ↓bI_s, ↓bJ_s, ↓bV_s, bI_s, bJ_s, bV_s, ↓reduceIte, eq_self, ne_10, uI_eq, uI_ne, uL_eq, uL_ne, cond_true, cond_false, ifz_f, ifz_t, not_true_eq_false, not_false_eq_true, has8_s r1 r2, hw, num8_o r1 r2 hj g3 g2 h1 h3]
      · unfold f_X12_rest F_X12_rest_24
        simp (disch := omega) only [lt_t, lt_f, le_t, le_f, eq_t, eq_f, c0lt, c0le, c0eq, c0ge, c0gt, c0qe, c1lt, c1le, c1eq, c1ge, c1gt, c1qe, m_le, m_lt, m_ngt, m_nge, m_ne, m_en, nI_add, nI_1, nI_1', nsub, nsub1, pk_mul, nI_clamp, cl0, cl1, gd_in, gd_in0, gd_in1, gd_k0, gd_k1, gd_kb, gd_t, ↓nmI_s, ↓nmJ_s, ↓nmW_s, ↓nmY_s, ↓bI_s, ↓bJ_s, ↓bV_s, bI_s, bJ_s, bV_s, ↓reduceIte, eq_self, ne_10, uI_eq, uI_ne, uL_eq, uL_ne, cond_true, cond_false, ifz_f, ifz_t, not_true_eq_false, not_false_eq_true, isSet_s r3, hw, g4, in_s, h2]
