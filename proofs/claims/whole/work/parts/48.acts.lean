/-! cell, change, undo, image, back -/
theorem isVal_s {N : Nat} {a : Int32} {I : PI} {L : PL} : f_X2_isValue N a I L = some (some (.int (bif wi a 0 999 then 1 else 0)), I, L) := within_s (N := N)
theorem isLev_s {N : Nat} {a : Int32} {I : PI} {L : PL} : f_X12_isLevel N a I L = some (some (.int (bif wi a 0 999 then 1 else 0)), I, L) := by
  unfold f_X12_isLevel
  rw [in_s, bI_s, kb, gd_t]
theorem act_Zg {X : PI → Prop} (hX : Xok X) {I I1 J I2 : PI} {L L' : PL} {p u g : Nat} (hI : Inv X I L) (hp : p < 31) (hug : u + g ≤ 30) (s1 : StEq I p 55 0) (s2 : ∀ j, j < u → StEq I ((p + 30 - j) % 31) 56 (41 * (u - 1 - j))) (s4 : (I 2 3 = -1 ∧ I 12 45 = 0) ∨ (I 12 45 = 1 ∧ ∃ n : Nat, n ≤ 40 ∧ I 2 3 = nI n ∧ I 58 0 = nI n ∧ ∀ k, k < n → I 32 k = I 58 (1 + k) ∧ ∃ v : Nat, v ≤ 999 ∧ I 32 k = nI v)) (k1 : Kp (dA ((p + 1) % 31)) I I1) (c1 : I1 2 4 = nI ((p + 1) % 31)) (c2 : I1 2 5 = nI (min (u + 1) 30)) (c3 : I1 2 6 = nI 0) (c4 : J 12 43 = nI (min (u + 1) 30)) (c5 : J 12 44 = nI 0) (c6 : Up I1 J u) (k2 : Kp dP I1 J) (k3 : Kp (fun a _ => a = 55) J I2) (c8 : StEq I2 ((p + 1) % 31) 55 0) : Inv X I2 L' := by
  have hp' : (p + 1) % 31 < 31 := Nat.mod_lt _ (by decide)
  have kz : Kp dZ I I2 := ((k1.mono (fun a k q => by unfold dA at q; unfold dZ; omega)).tr (k2.mono (fun a k q => by unfold dP at q; unfold dZ; omega))).tr (k3.mono (fun a k q => by unfold dZ; omega))
  have c7 : ∀ a k, a ≠ 55 → ¬ dA ((p + 1) % 31) a k → ¬ dP a k → I2 a k = I a k := fun a k h1 h2 h3 => (k3 a k h1).trans ((k2 a k h3).trans (k1 a k h2))
  have e56 : ∀ k, I1 56 k = I 56 k := fun k => k1 56 k (by unfold dA; omega)
  have e55 : ∀ k, I1 55 k = I 55 k := fun k => k1 55 k (by unfold dA; omega)
  have c6' : Up I I2 u := by
    refine ⟨fun q => ⟨fun k hk => ?_, fun k hk => ?_⟩, fun q => ⟨fun k hk => ?_, fun k hk => ?_⟩⟩
    · rw [k3 56 _ (by omega), (c6.1 q).1 k hk, e56]
    · rw [k3 56 _ (by omega), (c6.1 q).2 k hk, e55]
    · rw [k3 56 _ (by omega), (c6.2 q).1 k hk, e56]
    · rw [k3 56 _ (by omega), (c6.2 q).2 k hk, e55]
  refine Inv.mkZ hX kz (act_Z hp hug s1 s2 s4 ?_ ?_ ?_ ?_ ?_ c6' c7 c8) hI
  · rw [k3 2 4 (by omega), k2 2 4 (by unfold dP; omega), c1]
  · rw [k3 2 5 (by omega), k2 2 5 (by unfold dP; omega), c2]
  · rw [k3 2 6 (by omega), k2 2 6 (by unfold dP; omega), c3]
  · rw [k3 12 43 (by omega), c4]
  · rw [k3 12 44 (by omega), c5]
theorem case_cell {X : PI → Prop} (hX : Xok X) {N : Nat} (hN : 20000 ≤ N) (a1 : Int32) : CaseI (Inv X) (f_X11_cell N a1) (f_X12_cell N a1) := by
  intro I L hI
  have hI0 := hI
  obtain ⟨-, -, -, -, -, -, ⟨p, u, g, z1, z2, z3, z4, z5, z6, z7, zs, z8, z9, z10⟩, -⟩ := hI
  have zs0 := zs
  obtain ⟨n, s1, s2, s3, s4⟩ := zs
  cases hw : wi a1 0 999 with
  | false =>
    refine ⟨-1, I, L, I, L, ?_, ?_, hI0⟩
    · unfold f_X11_cell
      simp (disch := omega) only [lt_t, lt_f, le_t, le_f, eq_t, eq_f, c0lt, c0le, c0eq, c0ge, c0gt, c0qe, c1lt, c1le, c1eq, c1ge, c1gt, c1qe, m_le, m_lt, m_ngt, m_nge, m_ne, m_en, nI_add, nI_1, nI_1', nsub, nsub1, pk_mul, nI_clamp, cl0, cl1, gd_in, gd_in0, gd_in1, gd_k0, gd_k1, gd_kb, gd_t, ↓nmI_s, ↓nmJ_s, ↓nmW_s, ↓nmY_s, ↓bI_s, ↓bJ_s, ↓bV_s, bI_s, bJ_s, bV_s, ↓reduceIte, eq_self, ne_10, uI_eq, uI_ne, uL_eq, uL_ne, cond_true, cond_false, ifz_f, ifz_t, not_true_eq_false, not_false_eq_true, isVal_s, hw]
    · unfold f_X12_cell
      simp (disch := omega) only [lt_t, lt_f, le_t, le_f, eq_t, eq_f, c0lt, c0le, c0eq, c0ge, c0gt, c0qe, c1lt, c1le, c1eq, c1ge, c1gt, c1qe, m_le, m_lt, m_ngt, m_nge, m_ne, m_en, nI_add, nI_1, nI_1', nsub, nsub1, pk_mul, nI_clamp, cl0, cl1, gd_in, gd_in0, gd_in1, gd_k0, gd_k1, gd_kb, gd_t, ↓nmI_s, ↓nmJ_s, ↓nmW_s, ↓nmY_s, ↓bI_s, ↓bJ_s, ↓bV_s, bI_s, bJ_s, bV_s, ↓reduceIte, eq_self, ne_10, uI_eq, uI_ne, uL_eq, uL_ne, cond_true, cond_false, ifz_f, ifz_t, not_true_eq_false, not_false_eq_true, isLev_s, hw]
  | true =>
    by_cases h40 : n = 40
    · subst h40
      refine ⟨-1, I, L, I, L, ?_, ?_, hI0⟩
      · unfold f_X11_cell
        simp (disch := omega) only [lt_t, lt_f, le_t, le_f, eq_t, eq_f, c0lt, c0le, c0eq, c0ge, c0gt, c0qe, c1lt, c1le, c1eq, c1ge, c1gt, c1qe, m_le, m_lt, m_ngt, m_nge, m_ne, m_en, nI_add, nI_1, nI_1', nsub, nsub1, pk_mul, nI_clamp, cl0, cl1, gd_in, gd_in0, gd_in1, gd_k0, gd_k1, gd_kb, gd_t, ↓nmI_s, ↓nmJ_s, ↓nmW_s, ↓nmY_s, ↓bI_s, ↓bJ_s, ↓bV_s, bI_s, bJ_s, bV_s, ↓reduceIte, eq_self, ne_10, uI_eq, uI_ne, uL_eq, uL_ne, cond_true, cond_false, ifz_f, ifz_t, not_true_eq_false, not_false_eq_true, isVal_s, hw, size2_s z1 z3 s2, ni40]
      · unfold f_X12_cell
        simp (disch := omega) only [lt_t, lt_f, le_t, le_f, eq_t, eq_f, c0lt, c0le, c0eq, c0ge, c0gt, c0qe, c1lt, c1le, c1eq, c1ge, c1gt, c1qe, m_le, m_lt, m_ngt, m_nge, m_ne, m_en, nI_add, nI_1, nI_1', nsub, nsub1, pk_mul, nI_clamp, cl0, cl1, gd_in, gd_in0, gd_in1, gd_k0, gd_k1, gd_kb, gd_t, ↓nmI_s, ↓nmJ_s, ↓nmW_s, ↓nmY_s, ↓bI_s, ↓bJ_s, ↓bV_s, bI_s, bJ_s, bV_s, ↓reduceIte, eq_self, ne_10, uI_eq, uI_ne, uL_eq, uL_ne, cond_true, cond_false, ifz_f, ifz_t, not_true_eq_false, not_false_eq_true, isLev_s, hw, ni40, s3]
    · have hp' : (p + 1) % 31 < 31 := Nat.mod_lt _ (by decide)
      obtain ⟨v, hv, rfl⟩ := wi_nat (n := 999) rfl (by omega) hw
      obtain ⟨I1, e1, c1, c2, c3, c4, c5, k1⟩ := start_s (L := L) hN z1 s1 (by omega) z3 s2 z4
      obtain ⟨J1, hJ1⟩ : ∃ J : PI, J = uI (uI I1 31 ((p + 1) % 31) (nI (n + 1))) 30 (40 * ((p + 1) % 31) + n) (nI v) := ⟨_, rfl⟩
      have kJ : Kp (dA ((p + 1) % 31)) I J1 := hJ1 ▸ (k1.up (by unfold dA; omega)).up (by unfold dA; omega)
      have d1 : J1 2 4 = nI ((p + 1) % 31) := by rw [hJ1, uI_ne (by omega), uI_ne (by omega)]; exact c1
      have d2 : J1 31 ((p + 1) % 31) = nI (n + 1) := by rw [hJ1, uI_ne (by omega), uI_eq]
      have d3 : J1 12 43 = nI u := (kJ 12 43 (by unfold dA; omega)).trans z5
      obtain ⟨J, e2, b1, b2, b3, k2⟩ := act_s (L := L) hN (by omega) d3
      have b0 : J 55 0 = nI n := (k2 55 0 (by unfold dP; omega)).trans ((kJ 55 0 (by unfold dA; omega)).trans s3)
      refine ⟨nI (n + 1), J1, L, uI (uI J 55 0 (nI (n + 1))) 55 (n + 1) (nI v), L, ?_, ?_, ?_⟩
      · unfold f_X11_cell f_X2_add F_X2_add_28
        have r1 : f_X2_resize N (nI (n + 1)) I1 L = _ := resize2_s hp' (by omega) c1
        have r2 : f_X2_write N (nI n) (nI v) (uI I1 31 ((p + 1) % 31) (nI (n + 1))) L = some (none, J1, L) := hJ1 ▸ write2_s (n := n + 1) hp' (by omega) (by omega) (by rw [uI_ne (by omega)]; exact c1) uI_eq
        simp (disch := omega) only [lt_t, lt_f, le_t, le_f, eq_t, eq_f, c0lt, c0le, c0eq, c0ge, c0gt, c0qe, c1lt, c1le, c1eq, c1ge, c1gt, c1qe, m_le, m_lt, m_ngt, m_nge, m_ne, m_en, nI_add, nI_1, nI_1', nsub, nsub1, pk_mul, nI_clamp, cl0, cl1, gd_in, gd_in0, gd_in1, gd_k0, gd_k1, gd_kb, gd_t, ↓nmI_s, ↓nmJ_s, ↓nmW_s, ↓nmY_s, ↓bI_s, ↓bJ_s, ↓bV_s, bI_s, bJ_s, bV_s, ↓reduceIte, eq_self, ne_10, uI_eq, uI_ne, uL_eq, uL_ne, cond_true, cond_false, ifz_f, ifz_t, not_true_eq_false, not_false_eq_true, isVal_s, hw, size2_s z1 z3 s2, ni40, e1, r1, r2, size2_s hp' d1 d2]
      · unfold f_X12_cell
        have b55 : J1 55 0 = nI n := (kJ 55 0 (by unfold dA; omega)).trans s3
        simp (disch := omega) only [lt_t, lt_f, le_t, le_f, eq_t, eq_f, c0lt, c0le, c0eq, c0ge, c0gt, c0qe, c1lt, c1le, c1eq, c1ge, c1gt, c1qe, m_le, m_lt, m_ngt, m_nge, m_ne, m_en, nI_add, nI_1, nI_1', nsub, nsub1, pk_mul, nI_clamp, cl0, cl1, gd_in, gd_in0, gd_in1, gd_k0, gd_k1, gd_kb, gd_t, ↓nmI_s, ↓nmJ_s, ↓nmW_s, ↓nmY_s, ↓bI_s, ↓bJ_s, ↓bV_s, bI_s, bJ_s, bV_s, ↓reduceIte, eq_self, ne_10, uI_eq, uI_ne, uL_eq, uL_ne, cond_true, cond_false, ifz_f, ifz_t, not_true_eq_false, not_false_eq_true, isLev_s, hw, ni40, b55, e2, b0]
      · refine act_Zg hX hI0 z1 z2 zs0 z8 z10 kJ d1 ?_ ?_ b1 b2 b3 k2 (((Kp.rf (F := fun a _ => a = 55)).up rfl).up rfl) ⟨n + 1, by omega, ?_, ?_, fun k hk => ?_⟩
        · rw [hJ1, uI_ne (by omega), uI_ne (by omega)]; exact c3
        · rw [hJ1, uI_ne (by omega), uI_ne (by omega)]; exact c4
        · rw [uI_ne (by omega), uI_ne (by omega), k2 31 _ (by unfold dP; omega)]; exact d2
        · rw [uI_ne (by omega), uI_eq]
        · rw [uI_ne (a := 30) (by omega), uI_ne (a := 30) (by omega), k2 30 _ (by unfold dP; omega)]
          by_cases hkn : k = n
          · subst hkn
            rw [show 0 + 1 + k = k + 1 by omega, uI_eq]
            exact ⟨hJ1 ▸ uI_eq, v, hv, hJ1 ▸ uI_eq⟩
          · have e3 : J1 30 (40 * ((p + 1) % 31) + k) = I 30 (40 * p + k) := by
              rw [hJ1, uI_ne (by omega), uI_ne (by omega)]; exact c5 k (by omega)
            rw [e3, uI_ne (by omega), uI_ne (by omega), k2 55 _ (by unfold dP; omega), kJ 55 _ (by unfold dA; omega)]
            exact s4 k (by omega)
theorem case_change {X : PI → Prop} (hX : Xok X) {N : Nat} (hN : 20000 ≤ N) (a1 a2 : Int32) : CaseI (Inv X) (f_X11_change N a1 a2) (f_X12_change N a1 a2) := by
  intro I L hI
  have hI0 := hI
  obtain ⟨-, -, -, -, -, -, ⟨p, u, g, z1, z2, z3, z4, z5, z6, z7, zs, z8, z9, z10⟩, -⟩ := hI
  have zs0 := zs
  obtain ⟨n, s1, s2, s3, s4⟩ := zs
  have hh : ∀ I L, I 2 4 = nI p → I 31 p = nI n → f_X2_has N a1 I L = some (some (.int (bif hz a1 n then 1 else 0)), I, L) := fun I L h1 h2 => has2_s z1 s1 h1 h2
  have hc : ∀ I L, I 55 0 = nI n → f_X12_isCell N a1 I L = some (some (.int (bif hz a1 n then 1 else 0)), I, L) := fun I L h1 => isCell_s h1
  cases hq : hz a1 n with
  | false =>
    refine ⟨0, I, L, I, L, ?_, ?_, hI0⟩
    · unfold f_X11_change
      simp (disch := omega) only [lt_t, lt_f, le_t, le_f, eq_t, eq_f, c0lt, c0le, c0eq, c0ge, c0gt, c0qe, c1lt, c1le, c1eq, c1ge, c1gt, c1qe, m_le, m_lt, m_ngt, m_nge, m_ne, m_en, nI_add, nI_1, nI_1', nsub, nsub1, pk_mul, nI_clamp, cl0, cl1, gd_in, gd_in0, gd_in1, gd_k0, gd_k1, gd_kb, gd_t, ↓nmI_s, ↓nmJ_s, ↓nmW_s, ↓nmY_s, ↓bI_s, ↓bJ_s, ↓bV_s, bI_s, bJ_s, bV_s, ↓reduceIte, eq_self, ne_10, uI_eq, uI_ne, uL_eq, uL_ne, cond_true, cond_false, ifz_f, ifz_t, not_true_eq_false, not_false_eq_true, hh I L z3 s2, hq]
    · unfold f_X12_change
      simp (disch := omega) only [lt_t, lt_f, le_t, le_f, eq_t, eq_f, c0lt, c0le, c0eq, c0ge, c0gt, c0qe, c1lt, c1le, c1eq, c1ge, c1gt, c1qe, m_le, m_lt, m_ngt, m_nge, m_ne, m_en, nI_add, nI_1, nI_1', nsub, nsub1, pk_mul, nI_clamp, cl0, cl1, gd_in, gd_in0, gd_in1, gd_k0, gd_k1, gd_kb, gd_t, ↓nmI_s, ↓nmJ_s, ↓nmW_s, ↓nmY_s, ↓bI_s, ↓bJ_s, ↓bV_s, bI_s, bJ_s, bV_s, ↓reduceIte, eq_self, ne_10, uI_eq, uI_ne, uL_eq, uL_ne, cond_true, cond_false, ifz_f, ifz_t, not_true_eq_false, not_false_eq_true, hc I L s3, hq]
  | true =>
    cases hw : wi a2 0 999 with
    | false =>
      refine ⟨0, I, L, I, L, ?_, ?_, hI0⟩
      · unfold f_X11_change
        simp (disch := omega) only [lt_t, lt_f, le_t, le_f, eq_t, eq_f, c0lt, c0le, c0eq, c0ge, c0gt, c0qe, c1lt, c1le, c1eq, c1ge, c1gt, c1qe, m_le, m_lt, m_ngt, m_nge, m_ne, m_en, nI_add, nI_1, nI_1', nsub, nsub1, pk_mul, nI_clamp, cl0, cl1, gd_in, gd_in0, gd_in1, gd_k0, gd_k1, gd_kb, gd_t, ↓nmI_s, ↓nmJ_s, ↓nmW_s, ↓nmY_s, ↓bI_s, ↓bJ_s, ↓bV_s, bI_s, bJ_s, bV_s, ↓reduceIte, eq_self, ne_10, uI_eq, uI_ne, uL_eq, uL_ne, cond_true, cond_false, ifz_f, ifz_t, not_true_eq_false, not_false_eq_true, hh I L z3 s2, hq, isVal_s, hw]
      · unfold f_X12_change
        simp (disch := omega) only [lt_t, lt_f, le_t, le_f, eq_t, eq_f, c0lt, c0le, c0eq, c0ge, c0gt, c0qe, c1lt, c1le, c1eq, c1ge, c1gt, c1qe, m_le, m_lt, m_ngt, m_nge, m_ne, m_en, nI_add, nI_1, nI_1', nsub, nsub1, pk_mul, nI_clamp, cl0, cl1, gd_in, gd_in0, gd_in1, gd_k0, gd_k1, gd_kb, gd_t, ↓nmI_s, ↓nmJ_s, ↓nmW_s, ↓nmY_s, ↓bI_s, ↓bJ_s, ↓bV_s, bI_s, bJ_s, bV_s, ↓reduceIte, eq_self, ne_10, uI_eq, uI_ne, uL_eq, uL_ne, cond_true, cond_false, ifz_f, ifz_t, not_true_eq_false, not_false_eq_true, hc I L s3, hq, isLev_s, hw]
    | true =>
      have hp' : (p + 1) % 31 < 31 := Nat.mod_lt _ (by decide)
      obtain ⟨v, hv, rfl⟩ := wi_nat (n := 999) rfl (by omega) hw
      obtain ⟨j, hj, rfl⟩ := (hz_iff (by omega)).mp hq
      obtain ⟨I1, e1, c1, c2, c3, c4, c5, k1⟩ := start_s (L := L) hN z1 s1 (by omega) z3 s2 z4
      obtain ⟨J1, hJ1⟩ : ∃ J : PI, J = uI I1 30 (40 * ((p + 1) % 31) + j) (nI v) := ⟨_, rfl⟩
      have kJ : Kp (dA ((p + 1) % 31)) I J1 := hJ1 ▸ k1.up (by unfold dA; omega)
      have d1 : J1 2 4 = nI ((p + 1) % 31) := by rw [hJ1, uI_ne (by omega)]; exact c1
      have d2 : J1 31 ((p + 1) % 31) = nI n := by rw [hJ1, uI_ne (by omega)]; exact c2
      have d3 : J1 12 43 = nI u := (kJ 12 43 (by unfold dA; omega)).trans z5
      obtain ⟨J, e2, b1, b2, b3, k2⟩ := act_s (L := L) hN (by omega) d3
      have b0 : J 55 0 = nI n := (k2 55 0 (by unfold dP; omega)).trans ((kJ 55 0 (by unfold dA; omega)).trans s3)
      refine ⟨1, J1, L, uI J 55 (j + 1) (nI v), L, ?_, ?_, ?_⟩
      · unfold f_X11_change f_X2_put
        have r2 : f_X2_write N (nI j) (nI v) I1 L = some (none, J1, L) := hJ1 ▸ write2_s hp' s1 hj c1 c2
        simp (disch := omega) only [lt_t, lt_f, le_t, le_f, eq_t, eq_f, c0lt, c0le, c0eq, c0ge, c0gt, c0qe, c1lt, c1le, c1eq, c1ge, c1gt, c1qe, m_le, m_lt, m_ngt, m_nge, m_ne, m_en, nI_add, nI_1, nI_1', nsub, nsub1, pk_mul, nI_clamp, cl0, cl1, gd_in, gd_in0, gd_in1, gd_k0, gd_k1, gd_kb, gd_t, ↓nmI_s, ↓nmJ_s, ↓nmW_s, ↓nmY_s, ↓bI_s, ↓bJ_s, ↓bV_s, bI_s, bJ_s, bV_s, ↓reduceIte, eq_self, ne_10, uI_eq, uI_ne, uL_eq, uL_ne, cond_true, cond_false, ifz_f, ifz_t, not_true_eq_false, not_false_eq_true, hh I L z3 s2, hq, isVal_s, hw, e1, r2]
      · unfold f_X12_change
        have b55 : J1 55 0 = nI n := (kJ 55 0 (by unfold dA; omega)).trans s3
        simp (disch := omega) only [lt_t, lt_f, le_t, le_f, eq_t, eq_f, c0lt, c0le, c0eq, c0ge, c0gt, c0qe, c1lt, c1le, c1eq, c1ge, c1gt, c1qe, m_le, m_lt, m_ngt, m_nge, m_ne, m_en, nI_add, nI_1, nI_1', nsub, nsub1, pk_mul, nI_clamp, cl0, cl1, gd_in, gd_in0, gd_in1, gd_k0, gd_k1, gd_kb, gd_t, ↓nmI_s, ↓nmJ_s, ↓nmW_s, ↓nmY_s, ↓bI_s, ↓bJ_s, ↓bV_s, bI_s, bJ_s, bV_s, ↓reduceIte, eq_self, ne_10, uI_eq, uI_ne, uL_eq, uL_ne, cond_true, cond_false, ifz_f, ifz_t, not_true_eq_false, not_false_eq_true, hc J1 L b55, hq, isLev_s, hw, e2]
      · refine act_Zg hX hI0 z1 z2 zs0 z8 z10 kJ d1 ?_ ?_ b1 b2 b3 k2 ((Kp.rf (F := fun a _ => a = 55)).up rfl) ⟨n, by omega, ?_, ?_, fun k hk => ?_⟩
        · rw [hJ1, uI_ne (by omega)]; exact c3
        · rw [hJ1, uI_ne (by omega)]; exact c4
        · rw [uI_ne (by omega), k2 31 _ (by unfold dP; omega)]; exact d2
        · rw [uI_ne (by omega)]; exact b0
        · rw [uI_ne (a := 30) (by omega), k2 30 _ (by unfold dP; omega)]
          by_cases hkn : k = j
          · subst hkn
            rw [show 0 + 1 + k = k + 1 by omega, uI_eq]
            exact ⟨hJ1 ▸ uI_eq, v, hv, hJ1 ▸ uI_eq⟩
          · have e3 : J1 30 (40 * ((p + 1) % 31) + k) = I 30 (40 * p + k) := by
              rw [hJ1, uI_ne (by omega)]; exact c5 k (by omega)
            rw [e3, uI_ne (by omega), k2 55 _ (by unfold dP; omega), kJ 55 _ (by unfold dA; omega)]
            exact s4 k (by omega)
