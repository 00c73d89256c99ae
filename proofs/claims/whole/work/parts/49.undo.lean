/-! undo, image, back -/
theorem case_undo {X : PI → Prop} (hX : Xok X) {N : Nat} (hN : 20000 ≤ N) (a1 : Int32) (ha : a1 = 0 ∨ a1 = 1) : CaseI (Inv X) (f_X11_undo N a1) (f_X12_undo N a1) := by
  intro I L hI
  have hI0 := hI
  obtain ⟨-, -, -, -, -, -, ⟨p, u, g, z1, z2, z3, z4, z5, z6, z7, zs, z8, z9, z10⟩, -⟩ := hI
  have zs0 := zs
  rcases ha with rfl | rfl
  · by_cases hu : u = 0
    · subst hu
      refine ⟨-1, I, L, I, L, ?_, ?_, hI0⟩
      · unfold f_X11_undo f_X2_goBack
        simp (disch := omega) only [lt_t, lt_f, le_t, le_f, eq_t, eq_f, c0lt, c0le, c0eq, c0ge, c0gt, c0qe, c1lt, c1le, c1eq, c1ge, c1gt, c1qe, m_le, m_lt, m_ngt, m_nge, m_ne, m_en, nI_add, nI_1, nI_1', nsub, nsub1, pk_mul, nI_clamp, cl0, cl1, gd_in, gd_in0, gd_in1, gd_k0, gd_k1, gd_kb, gd_t, ↓nmI_s, ↓nmJ_s, ↓nmW_s, ↓nmY_s, ↓bI_s, ↓bJ_s, ↓bV_s, bI_s, bJ_s, bV_s, ↓reduceIte, eq_self, ne_10, uI_eq, uI_ne, uL_eq, uL_ne, cond_true, cond_false, ifz_f, ifz_t, not_true_eq_false, not_false_eq_true, z4]
      · unfold f_X12_undo
        simp (disch := omega) only [lt_t, lt_f, le_t, le_f, eq_t, eq_f, c0lt, c0le, c0eq, c0ge, c0gt, c0qe, c1lt, c1le, c1eq, c1ge, c1gt, c1qe, m_le, m_lt, m_ngt, m_nge, m_ne, m_en, nI_add, nI_1, nI_1', nsub, nsub1, pk_mul, nI_clamp, cl0, cl1, gd_in, gd_in0, gd_in1, gd_k0, gd_k1, gd_kb, gd_t, ↓nmI_s, ↓nmJ_s, ↓nmW_s, ↓nmY_s, ↓bI_s, ↓bJ_s, ↓bV_s, bI_s, bJ_s, bV_s, ↓reduceIte, eq_self, ne_10, uI_eq, uI_ne, uL_eq, uL_ne, cond_true, cond_false, ifz_f, ifz_t, not_true_eq_false, not_false_eq_true, z5]
    · have hp' : (p + 30) % 31 < 31 := Nat.mod_lt _ (by decide)
      obtain ⟨n, s1, s2, s3, s4⟩ := z8 0 (by omega)
      rw [Nat.sub_zero] at s2 s3
      have hS : (if nI p ≤ 0 then F_X2_goBack_28 N 30 I L else F_X2_goBack_28 N (nI p - 1) I L) = F_X2_goBack_28 N (nI ((p + 30) % 31)) I L := by
        by_cases h : p = 0
        · subst h
          simp (disch := omega) only [lt_t, lt_f, le_t, le_f, eq_t, eq_f, c0lt, c0le, c0eq, c0ge, c0gt, c0qe, c1lt, c1le, c1eq, c1ge, c1gt, c1qe, m_le, m_lt, m_ngt, m_nge, m_ne, m_en, nI_add, nI_1, nI_1', nsub, nsub1, pk_mul, nI_clamp, cl0, cl1, gd_in, gd_in0, gd_in1, gd_k0, gd_k1, gd_kb, gd_t, ↓nmI_s, ↓nmJ_s, ↓nmW_s, ↓nmY_s, ↓bI_s, ↓bJ_s, ↓bV_s, bI_s, bJ_s, bV_s, ↓reduceIte, eq_self, ne_10, uI_eq, uI_ne, uL_eq, uL_ne, cond_true, cond_false, ifz_f, ifz_t, not_true_eq_false, not_false_eq_true, ni30]
        · rw [show (p + 30) % 31 = p - 1 by omega]
          simp (disch := omega) only [lt_t, lt_f, le_t, le_f, eq_t, eq_f, c0lt, c0le, c0eq, c0ge, c0gt, c0qe, c1lt, c1le, c1eq, c1ge, c1gt, c1qe, m_le, m_lt, m_ngt, m_nge, m_ne, m_en, nI_add, nI_1, nI_1', nsub, nsub1, pk_mul, nI_clamp, cl0, cl1, gd_in, gd_in0, gd_in1, gd_k0, gd_k1, gd_kb, gd_t, ↓nmI_s, ↓nmJ_s, ↓nmW_s, ↓nmY_s, ↓bI_s, ↓bJ_s, ↓bV_s, bI_s, bJ_s, bV_s, ↓reduceIte, eq_self, ne_10, uI_eq, uI_ne, uL_eq, uL_ne, cond_true, cond_false, ifz_f, ifz_t, not_true_eq_false, not_false_eq_true]
      obtain ⟨I1, hI1⟩ : ∃ J : PI, J = uI (uI (uI I 2 4 (nI ((p + 30) % 31))) 2 5 (nI (u - 1))) 2 6 (nI (g + 1)) := ⟨_, rfl⟩
      have d1 : I1 2 4 = nI ((p + 30) % 31) := by rw [hI1, uI_ne (by omega), uI_ne (by omega), uI_eq]
      have k1 : Kp (fun a k => a = 2 ∧ 4 ≤ k ∧ k ≤ 6) I I1 := hI1 ▸ ((Kp.rf.up (by omega)).up (by omega)).up (by omega)
      have d2 : I1 31 ((p + 30) % 31) = nI n := (k1 31 _ (by omega)).trans s2
      have f43 : I1 12 43 = nI u := (k1 12 43 (by omega)).trans z5
      have f44 : I1 12 44 = nI g := (k1 12 44 (by omega)).trans z7
      obtain ⟨I2, hI2⟩ : ∃ J : PI, J = cpy (uI (uI (cpy I1 55 0 57 (41 * g) 41) 12 44 (nI (g + 1))) 12 43 (nI (u - 1))) 56 (41 * (u - 1)) 55 0 41 := ⟨_, rfl⟩
      have k2 : Kp (fun a k => (a = 57 ∧ 41 * g ≤ k ∧ k < 41 * g + 41) ∨ (a = 12 ∧ (k = 43 ∨ k = 44)) ∨ a = 55) I1 I2 := hI2 ▸ (((cpy_kp (fun k _ _ => by omega)).up (by omega)).up (by omega)).tr (cpy_kp (fun k _ _ => by omega))
      have r55 : ∀ k, k < 41 → I2 55 (0 + k) = I 56 (41 * (u - 1) + k) := fun k hk => by rw [hI2, cpy_at hk, uI_ne (by omega), uI_ne (by omega), cpy_out (by omega), k1 _ _ (by omega)]
      have r57 : ∀ k, k < 41 → I2 57 (41 * g + k) = I 55 (0 + k) := fun k hk => by rw [hI2, cpy_out (by omega), uI_ne (by omega), uI_ne (by omega), cpy_at hk, k1 _ _ (by omega)]
      have q43 : I2 12 43 = nI (u - 1) := by rw [hI2, cpy_out (by omega), uI_eq]
      have q44 : I2 12 44 = nI (g + 1) := by rw [hI2, cpy_out (by omega), uI_ne (by omega), uI_eq]
      have m1 : ∀ r, I2 31 r = I 31 r := fun r => (k2 _ _ (by omega)).trans (k1 _ _ (by omega))
      have m2 : ∀ r k, k < 40 → I2 30 (40 * r + k) = I 30 (40 * r + k) := fun r k _ => (k2 _ _ (by omega)).trans (k1 _ _ (by omega))
      have e55 : I2 55 0 = nI n := (r55 0 (by omega)).trans s3
      refine ⟨nI n, I1, L, I2, L, ?_, ?_, ?_⟩
      · unfold f_X11_undo f_X2_goBack F_X2_goBack_28
        have hS' := hS
        unfold F_X2_goBack_28 at hS'
        rw [if_pos rfl, z4, z3, if_neg (by simp (disch := omega) only [lt_t, lt_f, le_t, le_f, eq_t, eq_f, c0lt, c0le, c0eq, c0ge, c0gt, c0qe, c1lt, c1le, c1eq, c1ge, c1gt, c1qe, m_le, m_lt, m_ngt, m_nge, m_ne, m_en, nI_add, nI_1, nI_1', nsub, nsub1, pk_mul, nI_clamp, cl0, cl1, gd_in, gd_in0, gd_in1, gd_k0, gd_k1, gd_kb, gd_t, ↓nmI_s, ↓nmJ_s, ↓nmW_s, ↓nmY_s, ↓bI_s, ↓bJ_s, ↓bV_s, bI_s, bJ_s, bV_s, ↓reduceIte, eq_self, ne_10, uI_eq, uI_ne, uL_eq, uL_ne, cond_true, cond_false, ifz_f, ifz_t, not_true_eq_false, not_false_eq_true]), hS']
        simp (disch := omega) only [lt_t, lt_f, le_t, le_f, eq_t, eq_f, c0lt, c0le, c0eq, c0ge, c0gt, c0qe, c1lt, c1le, c1eq, c1ge, c1gt, c1qe, m_le, m_lt, m_ngt, m_nge, m_ne, m_en, nI_add, nI_1, nI_1', nsub, nsub1, pk_mul, nI_clamp, cl0, cl1, gd_in, gd_in0, gd_in1, gd_k0, gd_k1, gd_kb, gd_t, ↓nmI_s, ↓nmJ_s, ↓nmW_s, ↓nmY_s, ↓bI_s, ↓bJ_s, ↓bV_s, bI_s, bJ_s, bV_s, ↓reduceIte, eq_self, ne_10, uI_eq, uI_ne, uL_eq, uL_ne, cond_true, cond_false, ifz_f, ifz_t, not_true_eq_false, not_false_eq_true, z4, z6, ← hI1, size2_s hp' d1 d2]
      · unfold f_X12_undo F_X12_undo_23 F_X12_undo_121
        have e1 := cp_55_57 (s := 0) (d := 41 * g) (I := I1) (L := L) hN (by omega) (by omega)
        have e2 := fun I L => cp_56_55 (s := 41 * (u - 1)) (d := 0) (I := I) (L := L) hN (by omega) (by omega)
        have e0 : (0 : Int32) = nI 0 := rfl
        have e41 : ∀ a, (41 : Int32) * nI a = nI (41 * a) := fun a => pk_mul 41 a
        rw [f43, f44, if_pos rfl, if_neg (by simp (disch := omega) only [lt_t, lt_f, le_t, le_f, eq_t, eq_f, c0lt, c0le, c0eq, c0ge, c0gt, c0qe, c1lt, c1le, c1eq, c1ge, c1gt, c1qe, m_le, m_lt, m_ngt, m_nge, m_ne, m_en, nI_add, nI_1, nI_1', nsub, nsub1, pk_mul, nI_clamp, cl0, cl1, gd_in, gd_in0, gd_in1, gd_k0, gd_k1, gd_kb, gd_t, ↓nmI_s, ↓nmJ_s, ↓nmW_s, ↓nmY_s, ↓bI_s, ↓bJ_s, ↓bV_s, bI_s, bJ_s, bV_s, ↓reduceIte, eq_self, ne_10, uI_eq, uI_ne, uL_eq, uL_ne, cond_true, cond_false, ifz_f, ifz_t, not_true_eq_false, not_false_eq_true]), if_pos rfl, e41]
        rw [e0] at *
        rw [e1, bV_s]
        have t1 : (cpy I1 55 0 57 (41 * g) 41) 12 44 = nI g := by rw [cpy_out (by omega)]; exact f44
        have t2 : (uI (cpy I1 55 0 57 (41 * g) 41) 12 44 (nI (g + 1))) 12 43 = nI u := by rw [uI_ne (by omega), cpy_out (by omega)]; exact f43
        rw [t1, nI_1, nmW_s, t2, nsub1 (by omega), nmW_s, uI_eq, e41, e2, bV_s, ← hI2]
        simp (disch := omega) only [lt_t, lt_f, le_t, le_f, eq_t, eq_f, c0lt, c0le, c0eq, c0ge, c0gt, c0qe, c1lt, c1le, c1eq, c1ge, c1gt, c1qe, m_le, m_lt, m_ngt, m_nge, m_ne, m_en, nI_add, nI_1, nI_1', nsub, nsub1, pk_mul, nI_clamp, cl0, cl1, gd_in, gd_in0, gd_in1, gd_k0, gd_k1, gd_kb, gd_t, ↓nmI_s, ↓nmJ_s, ↓nmW_s, ↓nmY_s, ↓bI_s, ↓bJ_s, ↓bV_s, bI_s, bJ_s, bV_s, ↓reduceIte, eq_self, ne_10, uI_eq, uI_ne, uL_eq, uL_ne, cond_true, cond_false, ifz_f, ifz_t, not_true_eq_false, not_false_eq_true, e55]
      · refine Inv.mkZ hX ((k1.mono (fun a k q => by unfold dZ; omega)).tr (k2.mono (fun a k q => by unfold dZ; omega))) ⟨(p + 30) % 31, u - 1, g + 1, hp', by omega, ?_, ?_, q43, ?_, q44, ?_, fun j hj => ?_, fun j hj => ?_, ?_⟩ hI0
        · rw [k2 2 4 (by omega)]; exact d1
        · rw [k2 2 5 (by omega), hI1, uI_ne (by omega), uI_eq]
        · rw [k2 2 6 (by omega), hI1, uI_eq]
        · have := z8 0 (by omega)
          rw [show p + 30 - 0 = p + 30 from rfl, show u - 1 - 0 = u - 1 from rfl] at this
          exact this.mv (m1 _) (m2 _) r55
        · rw [show ((p + 30) % 31 + 30 - j) % 31 = (p + 30 - (j + 1)) % 31 by omega]
          refine (z8 (j + 1) (by omega)).mv (m1 _) (m2 _) (fun k hk => ?_)
          rw [k2 56 _ (by omega), k1 56 _ (by omega)]
          congr 1
          omega
        · match j with
          | 0 =>
            rw [show ((p + 30) % 31 + 1 + 0) % 31 = p by omega]
            exact zs0.mv (m1 _) (m2 _) r57
          | j + 1 =>
            rw [show ((p + 30) % 31 + 1 + (j + 1)) % 31 = (p + 1 + j) % 31 by omega]
            refine (z9 j (by omega)).mv (m1 _) (m2 _) (fun k hk => ?_)
            rw [k2 57 _ (by omega), k1 57 _ (by omega)]
            congr 1
            omega
        · rw [k2 2 3 (by omega), k1 2 3 (by omega), k2 12 45 (by omega), k1 12 45 (by omega), k2 58 0 (by omega), k1 58 0 (by omega)]
          rcases z10 with z10 | ⟨g1, n, g2, g3, g4, g5⟩
          · exact Or.inl z10
          · refine Or.inr ⟨g1, n, g2, g3, g4, fun k hk => ?_⟩
            rw [k2 32 k (by omega), k1 32 k (by omega), k2 58 _ (by omega), k1 58 _ (by omega)]
            exact g5 k hk
  · have h10 : ¬ (1 : Int32) = 0 := ne_10
    by_cases hg : g = 0
    · subst hg
      refine ⟨-1, I, L, I, L, ?_, ?_, hI0⟩
      · unfold f_X11_undo f_X2_goOn
        simp (disch := omega) only [lt_t, lt_f, le_t, le_f, eq_t, eq_f, c0lt, c0le, c0eq, c0ge, c0gt, c0qe, c1lt, c1le, c1eq, c1ge, c1gt, c1qe, m_le, m_lt, m_ngt, m_nge, m_ne, m_en, nI_add, nI_1, nI_1', nsub, nsub1, pk_mul, nI_clamp, cl0, cl1, gd_in, gd_in0, gd_in1, gd_k0, gd_k1, gd_kb, gd_t, ↓nmI_s, ↓nmJ_s, ↓nmW_s, ↓nmY_s, ↓bI_s, ↓bJ_s, ↓bV_s, bI_s, bJ_s, bV_s, ↓reduceIte, eq_self, ne_10, uI_eq, uI_ne, uL_eq, uL_ne, cond_true, cond_false, ifz_f, ifz_t, not_true_eq_false, not_false_eq_true, z6]
      · unfold f_X12_undo
        simp (disch := omega) only [lt_t, lt_f, le_t, le_f, eq_t, eq_f, c0lt, c0le, c0eq, c0ge, c0gt, c0qe, c1lt, c1le, c1eq, c1ge, c1gt, c1qe, m_le, m_lt, m_ngt, m_nge, m_ne, m_en, nI_add, nI_1, nI_1', nsub, nsub1, pk_mul, nI_clamp, cl0, cl1, gd_in, gd_in0, gd_in1, gd_k0, gd_k1, gd_kb, gd_t, ↓nmI_s, ↓nmJ_s, ↓nmW_s, ↓nmY_s, ↓bI_s, ↓bJ_s, ↓bV_s, bI_s, bJ_s, bV_s, ↓reduceIte, eq_self, ne_10, uI_eq, uI_ne, uL_eq, uL_ne, cond_true, cond_false, ifz_f, ifz_t, not_true_eq_false, not_false_eq_true, z7]
    · have hp' : (p + 1) % 31 < 31 := Nat.mod_lt _ (by decide)
      obtain ⟨n, s1, s2, s3, s4⟩ := z9 0 (by omega)
      rw [Nat.add_zero] at s2
      rw [Nat.sub_zero] at s3
      have hS : (if 30 ≤ nI p then F_X2_goOn_29 N 0 I L else F_X2_goOn_29 N (nI p + 1) I L) = F_X2_goOn_29 N (nI ((p + 1) % 31)) I L := by
        by_cases h : p = 30
        · subst h
          simp (disch := omega) only [lt_t, lt_f, le_t, le_f, eq_t, eq_f, c0lt, c0le, c0eq, c0ge, c0gt, c0qe, c1lt, c1le, c1eq, c1ge, c1gt, c1qe, m_le, m_lt, m_ngt, m_nge, m_ne, m_en, nI_add, nI_1, nI_1', nsub, nsub1, pk_mul, nI_clamp, cl0, cl1, gd_in, gd_in0, gd_in1, gd_k0, gd_k1, gd_kb, gd_t, ↓nmI_s, ↓nmJ_s, ↓nmW_s, ↓nmY_s, ↓bI_s, ↓bJ_s, ↓bV_s, bI_s, bJ_s, bV_s, ↓reduceIte, eq_self, ne_10, uI_eq, uI_ne, uL_eq, uL_ne, cond_true, cond_false, ifz_f, ifz_t, not_true_eq_false, not_false_eq_true, ni30]
          rfl
        · rw [show (p + 1) % 31 = p + 1 by omega]
          simp (disch := omega) only [lt_t, lt_f, le_t, le_f, eq_t, eq_f, c0lt, c0le, c0eq, c0ge, c0gt, c0qe, c1lt, c1le, c1eq, c1ge, c1gt, c1qe, m_le, m_lt, m_ngt, m_nge, m_ne, m_en, nI_add, nI_1, nI_1', nsub, nsub1, pk_mul, nI_clamp, cl0, cl1, gd_in, gd_in0, gd_in1, gd_k0, gd_k1, gd_kb, gd_t, ↓nmI_s, ↓nmJ_s, ↓nmW_s, ↓nmY_s, ↓bI_s, ↓bJ_s, ↓bV_s, bI_s, bJ_s, bV_s, ↓reduceIte, eq_self, ne_10, uI_eq, uI_ne, uL_eq, uL_ne, cond_true, cond_false, ifz_f, ifz_t, not_true_eq_false, not_false_eq_true, ni30]
      obtain ⟨I1, hI1⟩ : ∃ J : PI, J = uI (uI (uI I 2 4 (nI ((p + 1) % 31))) 2 5 (nI (u + 1))) 2 6 (nI (g - 1)) := ⟨_, rfl⟩
      have d1 : I1 2 4 = nI ((p + 1) % 31) := by rw [hI1, uI_ne (by omega), uI_ne (by omega), uI_eq]
      have k1 : Kp (fun a k => a = 2 ∧ 4 ≤ k ∧ k ≤ 6) I I1 := hI1 ▸ ((Kp.rf.up (by omega)).up (by omega)).up (by omega)
      have d2 : I1 31 ((p + 1) % 31) = nI n := (k1 31 _ (by omega)).trans s2
      have f43 : I1 12 43 = nI u := (k1 12 43 (by omega)).trans z5
      have f44 : I1 12 44 = nI g := (k1 12 44 (by omega)).trans z7
      obtain ⟨J, e1, b1, b2, k3⟩ := put_s (L := L) hN (by omega) f43
      obtain ⟨b3, b4⟩ := b2.1 (by omega)
      rw [Nat.min_eq_left (by omega)] at b1
      obtain ⟨I2, hI2⟩ : ∃ J' : PI, J' = cpy (uI J 12 44 (nI (g - 1))) 57 (41 * (g - 1)) 55 0 41 := ⟨_, rfl⟩
      have k2 : Kp (fun a k => (a = 12 ∧ (k = 43 ∨ k = 44)) ∨ a = 55 ∨ a = 56) I1 I2 := hI2 ▸ ((k3.mono (fun a k q => by omega)).up (by omega)).tr (cpy_kp (fun k _ _ => by omega))
      have r55 : ∀ k, k < 41 → I2 55 (0 + k) = I 57 (41 * (g - 1) + k) := fun k hk => by rw [hI2, cpy_at hk, uI_ne (by omega), k3 57 _ (by omega), k1 _ _ (by omega)]
      have r56 : ∀ k, k < 41 → I2 56 (41 * u + k) = I 55 (0 + k) := fun k hk => by rw [hI2, cpy_out (by omega), uI_ne (by omega), b4 k hk, k1 _ _ (by omega), Nat.zero_add]
      have l56 : ∀ k, k < 41 * u → I2 56 k = I 56 k := fun k hk => by rw [hI2, cpy_out (by omega), uI_ne (by omega), b3 k hk, k1 _ _ (by omega)]
      have q43 : I2 12 43 = nI (u + 1) := by rw [hI2, cpy_out (by omega), uI_ne (by omega)]; exact b1
      have q44 : I2 12 44 = nI (g - 1) := by rw [hI2, cpy_out (by omega), uI_eq]
      have m1 : ∀ r, I2 31 r = I 31 r := fun r => (k2 _ _ (by omega)).trans (k1 _ _ (by omega))
      have m2 : ∀ r k, k < 40 → I2 30 (40 * r + k) = I 30 (40 * r + k) := fun r k _ => (k2 _ _ (by omega)).trans (k1 _ _ (by omega))
      have e55 : I2 55 0 = nI n := (r55 0 (by omega)).trans s3
      have j44 : J 12 44 = nI g := (k3 12 44 (by omega)).trans f44
      refine ⟨nI n, I1, L, I2, L, ?_, ?_, ?_⟩
      · unfold f_X11_undo f_X2_goOn F_X2_goOn_29
        have hS' := hS
        unfold F_X2_goOn_29 at hS'
        rw [if_neg h10, z6, z3, if_neg (by simp (disch := omega) only [lt_t, lt_f, le_t, le_f, eq_t, eq_f, c0lt, c0le, c0eq, c0ge, c0gt, c0qe, c1lt, c1le, c1eq, c1ge, c1gt, c1qe, m_le, m_lt, m_ngt, m_nge, m_ne, m_en, nI_add, nI_1, nI_1', nsub, nsub1, pk_mul, nI_clamp, cl0, cl1, gd_in, gd_in0, gd_in1, gd_k0, gd_k1, gd_kb, gd_t, ↓nmI_s, ↓nmJ_s, ↓nmW_s, ↓nmY_s, ↓bI_s, ↓bJ_s, ↓bV_s, bI_s, bJ_s, bV_s, ↓reduceIte, eq_self, ne_10, uI_eq, uI_ne, uL_eq, uL_ne, cond_true, cond_false, ifz_f, ifz_t, not_true_eq_false, not_false_eq_true]), hS']
        simp (disch := omega) only [lt_t, lt_f, le_t, le_f, eq_t, eq_f, c0lt, c0le, c0eq, c0ge, c0gt, c0qe, c1lt, c1le, c1eq, c1ge, c1gt, c1qe, m_le, m_lt, m_ngt, m_nge, m_ne, m_en, nI_add, nI_1, nI_1', nsub, nsub1, pk_mul, nI_clamp, cl0, cl1, gd_in, gd_in0, gd_in1, gd_k0, gd_k1, gd_kb, gd_t, ↓nmI_s, ↓nmJ_s, ↓nmW_s, ↓nmY_s, ↓bI_s, ↓bJ_s, ↓bV_s, bI_s, bJ_s, bV_s, ↓reduceIte, eq_self, ne_10, uI_eq, uI_ne, uL_eq, uL_ne, cond_true, cond_false, ifz_f, ifz_t, not_true_eq_false, not_false_eq_true, z4, z6, ← hI1, size2_s hp' d1 d2]
      · unfold f_X12_undo F_X12_undo_23 F_X12_undo_121
        have e2 := fun I L => cp_57_55 (s := 41 * (g - 1)) (d := 0) (I := I) (L := L) hN (by omega) (by omega)
        have e0 : (0 : Int32) = nI 0 := rfl
        have e41 : ∀ a, (41 : Int32) * nI a = nI (41 * a) := fun a => pk_mul 41 a
        rw [if_neg h10, if_neg h10, f44, if_neg (by simp (disch := omega) only [lt_t, lt_f, le_t, le_f, eq_t, eq_f, c0lt, c0le, c0eq, c0ge, c0gt, c0qe, c1lt, c1le, c1eq, c1ge, c1gt, c1qe, m_le, m_lt, m_ngt, m_nge, m_ne, m_en, nI_add, nI_1, nI_1', nsub, nsub1, pk_mul, nI_clamp, cl0, cl1, gd_in, gd_in0, gd_in1, gd_k0, gd_k1, gd_kb, gd_t, ↓nmI_s, ↓nmJ_s, ↓nmW_s, ↓nmY_s, ↓bI_s, ↓bJ_s, ↓bV_s, bI_s, bJ_s, bV_s, ↓reduceIte, eq_self, ne_10, uI_eq, uI_ne, uL_eq, uL_ne, cond_true, cond_false, ifz_f, ifz_t, not_true_eq_false, not_false_eq_true]), e1, bV_s, j44, nsub1 (by omega), nmW_s, uI_eq, e41]
        rw [e0, e2, bV_s, ← hI2]
        simp (disch := omega) only [lt_t, lt_f, le_t, le_f, eq_t, eq_f, c0lt, c0le, c0eq, c0ge, c0gt, c0qe, c1lt, c1le, c1eq, c1ge, c1gt, c1qe, m_le, m_lt, m_ngt, m_nge, m_ne, m_en, nI_add, nI_1, nI_1', nsub, nsub1, pk_mul, nI_clamp, cl0, cl1, gd_in, gd_in0, gd_in1, gd_k0, gd_k1, gd_kb, gd_t, ↓nmI_s, ↓nmJ_s, ↓nmW_s, ↓nmY_s, ↓bI_s, ↓bJ_s, ↓bV_s, bI_s, bJ_s, bV_s, ↓reduceIte, eq_self, ne_10, uI_eq, uI_ne, uL_eq, uL_ne, cond_true, cond_false, ifz_f, ifz_t, not_true_eq_false, not_false_eq_true, e55]
      · refine Inv.mkZ hX ((k1.mono (fun a k q => by unfold dZ; omega)).tr (k2.mono (fun a k q => by unfold dZ; omega))) ⟨(p + 1) % 31, u + 1, g - 1, hp', by omega, ?_, ?_, q43, ?_, q44, ?_, fun j hj => ?_, fun j hj => ?_, ?_⟩ hI0
        · rw [k2 2 4 (by omega)]; exact d1
        · rw [k2 2 5 (by omega), hI1, uI_ne (by omega), uI_eq]
        · rw [k2 2 6 (by omega), hI1, uI_eq]
        · have := z9 0 (by omega)
          rw [Nat.sub_zero, Nat.add_zero] at this
          exact this.mv (m1 _) (m2 _) r55
        · match j with
          | 0 =>
            rw [show ((p + 1) % 31 + 30 - 0) % 31 = p by omega]
            exact zs0.mv (m1 _) (m2 _) r56
          | j + 1 =>
            rw [show ((p + 1) % 31 + 30 - (j + 1)) % 31 = (p + 30 - j) % 31 by omega]
            refine (z8 j (by omega)).mv (m1 _) (m2 _) (fun k hk => ?_)
            rw [l56 _ (by omega)]
            congr 1
            omega
        · rw [show ((p + 1) % 31 + 1 + j) % 31 = (p + 1 + (j + 1)) % 31 by omega]
          refine (z9 (j + 1) (by omega)).mv (m1 _) (m2 _) (fun k hk => ?_)
          rw [k2 57 _ (by omega), k1 57 _ (by omega)]
          congr 1
          omega
        · rw [k2 2 3 (by omega), k1 2 3 (by omega), k2 12 45 (by omega), k1 12 45 (by omega), k2 58 0 (by omega), k1 58 0 (by omega)]
          rcases z10 with z10 | ⟨g1, n, g2, g3, g4, g5⟩
          · exact Or.inl z10
          · refine Or.inr ⟨g1, n, g2, g3, g4, fun k hk => ?_⟩
            rw [k2 32 k (by omega), k1 32 k (by omega), k2 58 _ (by omega), k1 58 _ (by omega)]
            exact g5 k hk
