/-! image, back, draw -/
theorem keepLp {N p n : Nat} (hp : p < 31) (hn : n ≤ 40) : ∀ (m k j : Nat) (I : PI) (L : PL), j + m = n → m < k → I 2 3 = nI n → I 2 4 = nI p → I 31 p = nI n → F_X2_keepImage_10 N k (nI j) I L = some (some (.int (nI n)), cpy I 30 (40 * p + j) 32 j m, L) := by
  intro m
  induction m with
  | zero =>
    intro k j I L h1 h2 h3 h4 h5
    obtain ⟨k, rfl⟩ : ∃ i, k = i + 1 := ⟨k - 1, by omega⟩
    rw [F_X2_keepImage_10]
    simp (disch := omega) only [lt_t, lt_f, le_t, le_f, eq_t, eq_f, c0lt, c0le, c0eq, c0ge, c0gt, c0qe, c1lt, c1le, c1eq, c1ge, c1gt, c1qe, m_le, m_lt, m_ngt, m_nge, m_ne, m_en, nI_add, nI_1, nI_1', nsub, nsub1, pk_mul, nI_clamp, cl0, cl1, gd_in, gd_in0, gd_in1, gd_k0, gd_k1, gd_kb, gd_t, ↓nmI_s, ↓nmJ_s, ↓nmW_s, ↓nmY_s, ↓bI_s, ↓bJ_s, ↓bV_s, bI_s, bJ_s, bV_s, ↓reduceIte, eq_self, ne_10, uI_eq, uI_ne, uL_eq, uL_ne, cond_true, cond_false, ifz_f, ifz_t, not_true_eq_false, not_false_eq_true, cpy_0, h3]
  | succ m ih =>
    intro k j I L h1 h2 h3 h4 h5
    obtain ⟨k, rfl⟩ : ∃ i, k = i + 1 := ⟨k - 1, by omega⟩
    rw [F_X2_keepImage_10]
    simp (disch := omega) only [lt_t, lt_f, le_t, le_f, eq_t, eq_f, c0lt, c0le, c0eq, c0ge, c0gt, c0qe, c1lt, c1le, c1eq, c1ge, c1gt, c1qe, m_le, m_lt, m_ngt, m_nge, m_ne, m_en, nI_add, nI_1, nI_1', nsub, nsub1, pk_mul, nI_clamp, cl0, cl1, gd_in, gd_in0, gd_in1, gd_k0, gd_k1, gd_kb, gd_t, ↓nmI_s, ↓nmJ_s, ↓nmW_s, ↓nmY_s, ↓bI_s, ↓bJ_s, ↓bV_s, bI_s, bJ_s, bV_s, ↓reduceIte, eq_self, ne_10, uI_eq, uI_ne, uL_eq, uL_ne, cond_true, cond_false, ifz_f, ifz_t, not_true_eq_false, not_false_eq_true, ni40, h3, value2_s hp hn (by omega : j < n) h4 h5]
    rw [ih k (j + 1) _ L (by omega) (by omega) (by rw [uI_ne (by omega)]; exact h3) (by rw [uI_ne (by omega)]; exact h4) (by rw [uI_ne (by omega)]; exact h5), ← cpy_step (Or.inl (by decide))]
    rfl
theorem case_image {X : PI → Prop} (hX : Xok X) {N : Nat} (hN : 20000 ≤ N) : CaseI (Inv X) (f_X11_image N) (f_X12_image N) := by
  intro I L hI
  have hI0 := hI
  obtain ⟨-, -, -, -, -, -, ⟨p, u, g, z1, z2, z3, z4, z5, z6, z7, zs, z8, z9, z10⟩, -⟩ := hI
  have zs0 := zs
  obtain ⟨n, s1, s2, s3, s4⟩ := zs
  obtain ⟨I1, hI1⟩ : ∃ J : PI, J = cpy (uI I 2 3 (nI n)) 30 (40 * p + 0) 32 0 n := ⟨_, rfl⟩
  have k1 : Kp (fun a k => (a = 2 ∧ k = 3) ∨ a = 32) I I1 := hI1 ▸ (Kp.rf.up (by omega)).tr (cpy_kp (fun k _ _ => by omega))
  obtain ⟨I2, hI2⟩ : ∃ J : PI, J = uI (cpy I1 55 0 58 0 41) 12 45 1 := ⟨_, rfl⟩
  have k2 : Kp (fun a k => (a = 12 ∧ k = 45) ∨ a = 58) I1 I2 := hI2 ▸ (cpy_kp (fun k _ _ => by omega)).up (by omega)
  have r23 : I2 2 3 = nI n := by rw [k2 2 3 (by omega), hI1, cpy_out (by omega), uI_eq]
  have r58 : ∀ k, k < 41 → I2 58 (0 + k) = I 55 (0 + k) := fun k hk => by rw [hI2, uI_ne (by omega), cpy_at hk, k1 _ _ (by omega)]
  have r32 : ∀ k, k < n → I2 32 (0 + k) = I 30 (40 * p + k) := fun k hk => by rw [k2 32 _ (by omega), hI1, cpy_at hk, uI_ne (by omega), Nat.add_zero]
  refine ⟨nI n, I1, L, I2, L, ?_, ?_, ?_⟩
  · unfold f_X11_image f_X2_keepImage
    have e := keepLp (N := N) z1 s1 n N 0 (uI I 2 3 (nI n)) L (by omega) (by omega) uI_eq (by rw [uI_ne (by omega)]; exact z3) (by rw [uI_ne (by omega)]; exact s2)
    rw [size2_s z1 z3 s2, bI_s, nmW_s, show (0 : Int32) = nI 0 from rfl, e, bI_s, ← hI1]
  · unfold f_X12_image
    have e := cp_55_58 (s := 0) (d := 0) (I := I1) (L := L) hN (by omega) (by omega)
    have e3 : I2 55 0 = nI n := by rw [k2 55 0 (by omega), k1 55 0 (by omega), s3]
    rw [show (0 : Int32) = nI 0 from rfl, e, bV_s, nmW_s, ← hI2]
    simp (disch := omega) only [lt_t, lt_f, le_t, le_f, eq_t, eq_f, c0lt, c0le, c0eq, c0ge, c0gt, c0qe, c1lt, c1le, c1eq, c1ge, c1gt, c1qe, m_le, m_lt, m_ngt, m_nge, m_ne, m_en, nI_add, nI_1, nI_1', nsub, nsub1, pk_mul, nI_clamp, cl0, cl1, gd_in, gd_in0, gd_in1, gd_k0, gd_k1, gd_kb, gd_t, ↓nmI_s, ↓nmJ_s, ↓nmW_s, ↓nmY_s, ↓bI_s, ↓bJ_s, ↓bV_s, bI_s, bJ_s, bV_s, ↓reduceIte, eq_self, ne_10, uI_eq, uI_ne, uL_eq, uL_ne, cond_true, cond_false, ifz_f, ifz_t, not_true_eq_false, not_false_eq_true, e3]
  · have m1 : ∀ r, I2 31 r = I 31 r := fun r => (k2 _ _ (by omega)).trans (k1 _ _ (by omega))
    have m2 : ∀ r k, k < 40 → I2 30 (40 * r + k) = I 30 (40 * r + k) := fun r k _ => (k2 _ _ (by omega)).trans (k1 _ _ (by omega))
    have m3 : ∀ A k, A = 55 ∨ A = 56 ∨ A = 57 → I2 A k = I A k := fun A k h => (k2 _ _ (by omega)).trans (k1 _ _ (by omega))
    refine Inv.mkZ hX ((k1.mono (fun a k q => by unfold dZ; omega)).tr (k2.mono (fun a k q => by unfold dZ; omega))) ⟨p, u, g, z1, z2, ?_, ?_, ?_, ?_, ?_, ?_, fun j hj => ?_, fun j hj => ?_, Or.inr ⟨?_, n, s1, r23, ?_, fun k hk => ?_⟩⟩ hI0
    · rw [k2 _ _ (by omega), k1 _ _ (by omega), z3]
    · rw [k2 _ _ (by omega), k1 _ _ (by omega), z4]
    · rw [k2 _ _ (by omega), k1 _ _ (by omega), z5]
    · rw [k2 _ _ (by omega), k1 _ _ (by omega), z6]
    · rw [k2 _ _ (by omega), k1 _ _ (by omega), z7]
    · exact zs0.mv (m1 _) (m2 _) (fun k _ => m3 _ _ (by omega))
    · exact (z8 j hj).mv (m1 _) (m2 _) (fun k _ => m3 _ _ (by omega))
    · exact (z9 j hj).mv (m1 _) (m2 _) (fun k _ => m3 _ _ (by omega))
    · rw [hI2, uI_eq]
    · exact (r58 0 (by omega)).trans s3
    · have e1 := r32 k hk
      rw [Nat.zero_add] at e1
      have e2 := r58 (1 + k) (by omega)
      rw [Nat.zero_add] at e2
      obtain ⟨q1, v, q2, q3⟩ := s4 k hk
      rw [e1, e2, q1, show 0 + 1 + k = 1 + k by omega]
      exact ⟨rfl, v, q2, by rw [← q3, q1, show 0 + 1 + k = 1 + k by omega]⟩
theorem putBackLp {N p n : Nat} (hp : p < 31) (hn : n ≤ 40) : ∀ (m k j : Nat) (I : PI) (L : PL), j + m = n → m < k → I 2 3 = nI n → I 2 4 = nI p → I 31 p = nI n → F_X2_putImageBack_24 N k (nI j) I L = some (some (.int (nI n)), cpy I 32 j 30 (40 * p + j) m, L) := by
  intro m
  induction m with
  | zero =>
    intro k j I L h1 h2 h3 h4 h5
    obtain ⟨k, rfl⟩ : ∃ i, k = i + 1 := ⟨k - 1, by omega⟩
    rw [F_X2_putImageBack_24]
    simp (disch := omega) only [lt_t, lt_f, le_t, le_f, eq_t, eq_f, c0lt, c0le, c0eq, c0ge, c0gt, c0qe, c1lt, c1le, c1eq, c1ge, c1gt, c1qe, m_le, m_lt, m_ngt, m_nge, m_ne, m_en, nI_add, nI_1, nI_1', nsub, nsub1, pk_mul, nI_clamp, cl0, cl1, gd_in, gd_in0, gd_in1, gd_k0, gd_k1, gd_kb, gd_t, ↓nmI_s, ↓nmJ_s, ↓nmW_s, ↓nmY_s, ↓bI_s, ↓bJ_s, ↓bV_s, bI_s, bJ_s, bV_s, ↓reduceIte, eq_self, ne_10, uI_eq, uI_ne, uL_eq, uL_ne, cond_true, cond_false, ifz_f, ifz_t, not_true_eq_false, not_false_eq_true, cpy_0, h3]
  | succ m ih =>
    intro k j I L h1 h2 h3 h4 h5
    obtain ⟨k, rfl⟩ : ∃ i, k = i + 1 := ⟨k - 1, by omega⟩
    rw [F_X2_putImageBack_24]
    simp (disch := omega) only [lt_t, lt_f, le_t, le_f, eq_t, eq_f, c0lt, c0le, c0eq, c0ge, c0gt, c0qe, c1lt, c1le, c1eq, c1ge, c1gt, c1qe, m_le, m_lt, m_ngt, m_nge, m_ne, m_en, nI_add, nI_1, nI_1', nsub, nsub1, pk_mul, nI_clamp, cl0, cl1, gd_in, gd_in0, gd_in1, gd_k0, gd_k1, gd_kb, gd_t, ↓nmI_s, ↓nmJ_s, ↓nmW_s, ↓nmY_s, ↓bI_s, ↓bJ_s, ↓bV_s, bI_s, bJ_s, bV_s, ↓reduceIte, eq_self, ne_10, uI_eq, uI_ne, uL_eq, uL_ne, cond_true, cond_false, ifz_f, ifz_t, not_true_eq_false, not_false_eq_true, ni40, h3, write2_s hp hn (by omega : j < n) h4 h5]
    rw [ih k (j + 1) _ L (by omega) (by omega) (by rw [uI_ne (by omega)]; exact h3) (by rw [uI_ne (by omega)]; exact h4) (by rw [uI_ne (by omega)]; exact h5), ← cpy_step (Or.inl (by decide))]
    rfl
theorem case_back {X : PI → Prop} (hX : Xok X) {N : Nat} (hN : 20000 ≤ N) : CaseI (Inv X) (f_X11_back N) (f_X12_back N) := by
  intro I L hI
  have hI0 := hI
  obtain ⟨-, -, -, -, -, -, ⟨p, u, g, z1, z2, z3, z4, z5, z6, z7, zs, z8, z9, z10⟩, -⟩ := hI
  have zs0 := zs
  obtain ⟨n, s1, s2, s3, s4⟩ := zs
  have z10' := z10
  rcases z10 with ⟨q1, q2⟩ | ⟨g1, n', g2, g3, g4, g5⟩
  · refine ⟨-1, I, L, I, L, ?_, ?_, hI0⟩
    · unfold f_X11_back f_X2_putImageBack
      rw [if_pos q1, bI_s]
    · unfold f_X12_back
      rw [if_pos q2]
  · have hp' : (p + 1) % 31 < 31 := Nat.mod_lt _ (by decide)
    obtain ⟨I1, e1, c1, c2, c3, c4, c5, k1⟩ := start_s (L := L) hN z1 s1 (by omega) z3 s2 z4
    have c6 : I1 2 3 = nI n' := (k1 2 3 (by unfold dA; omega)).trans g3
    obtain ⟨J1, hJ1⟩ : ∃ J : PI, J = cpy (uI I1 31 ((p + 1) % 31) (nI n')) 32 0 30 (40 * ((p + 1) % 31) + 0) n' := ⟨_, rfl⟩
    have kJ : Kp (dA ((p + 1) % 31)) I J1 := hJ1 ▸ (k1.up (by unfold dA; omega)).tr (cpy_kp (fun k _ _ => by unfold dA; omega))
    have d1 : J1 2 4 = nI ((p + 1) % 31) := by rw [hJ1, cpy_out (by omega), uI_ne (by omega)]; exact c1
    have d2 : J1 31 ((p + 1) % 31) = nI n' := by rw [hJ1, cpy_out (by omega), uI_eq]
    have d3 : J1 12 43 = nI u := (kJ 12 43 (by unfold dA; omega)).trans z5
    obtain ⟨J, e2, b1, b2, b3, k2⟩ := act_s (L := L) hN (by omega) d3
    have m58 : ∀ k, J 58 k = I 58 k := fun k => (k2 58 k (by unfold dP; omega)).trans (kJ 58 k (by unfold dA; omega))
    refine ⟨nI n', J1, L, cpy J 58 0 55 0 41, L, ?_, ?_, ?_⟩
    · unfold f_X11_back f_X2_putImageBack
      have r1 : f_X2_resize N (nI n') I1 L = _ := resize2_s hp' (by omega) c1
      have e := putBackLp (N := N) hp' g2 n' N 0 (uI I1 31 ((p + 1) % 31) (nI n')) L (by omega) (by omega) (by rw [uI_ne (by omega)]; exact c6) (by rw [uI_ne (by omega)]; exact c1) uI_eq
      rw [g3, if_neg (m_ne' (by omega)), e1, bV_s, c6, r1, bV_s, show (0 : Int32) = nI 0 from rfl, e, bI_s, ← hJ1]
    · unfold f_X12_back
      have e := cp_58_55 (s := 0) (d := 0) (I := J) (L := L) hN (by omega) (by omega)
      have e3 : (cpy J 58 0 55 0 41) 55 0 = nI n' := by rw [cpy_in (by omega) (by omega), Nat.sub_self, m58]; exact g4
      have e4 : J1 12 45 = 1 := (kJ 12 45 (by unfold dA; omega)).trans g1
      rw [e4, if_neg ne_10, e2, bV_s, show (0 : Int32) = nI 0 from rfl, e, bV_s]
      simp (disch := omega) only [lt_t, lt_f, le_t, le_f, eq_t, eq_f, c0lt, c0le, c0eq, c0ge, c0gt, c0qe, c1lt, c1le, c1eq, c1ge, c1gt, c1qe, m_le, m_lt, m_ngt, m_nge, m_ne, m_en, nI_add, nI_1, nI_1', nsub, nsub1, pk_mul, nI_clamp, cl0, cl1, gd_in, gd_in0, gd_in1, gd_k0, gd_k1, gd_kb, gd_t, ↓nmI_s, ↓nmJ_s, ↓nmW_s, ↓nmY_s, ↓bI_s, ↓bJ_s, ↓bV_s, bI_s, bJ_s, bV_s, ↓reduceIte, eq_self, ne_10, uI_eq, uI_ne, uL_eq, uL_ne, cond_true, cond_false, ifz_f, ifz_t, not_true_eq_false, not_false_eq_true, e3]
    · refine act_Zg hX hI0 z1 z2 zs0 z8 z10' kJ d1 ?_ ?_ b1 b2 b3 k2 (cpy_kp (fun k _ _ => rfl)) ⟨n', by omega, ?_, ?_, fun k hk => ?_⟩
      · rw [hJ1, cpy_out (by omega), uI_ne (by omega)]; exact c3
      · rw [hJ1, cpy_out (by omega), uI_ne (by omega)]; exact c4
      · rw [cpy_out (by omega), k2 31 _ (by unfold dP; omega)]; exact d2
      · rw [cpy_in (by omega) (by omega), Nat.sub_self, m58]; exact g4
      · obtain ⟨q1, v, q2, q3⟩ := g5 k hk
        have e5 : J1 30 (40 * ((p + 1) % 31) + k) = I 32 k := by
          rw [hJ1, cpy_in (by omega) (by omega), uI_ne (by omega), k1 32 _ (by unfold dA; omega)]
          congr 1
          omega
        rw [cpy_out (a := 30) (by omega), k2 30 _ (by unfold dP; omega), e5, cpy_in (by omega) (by omega), m58, q1]
        refine ⟨?_, v, q2, q1 ▸ q3⟩
        congr 1
        omega
/-! the drawn numbers -/
def nxt (s : Int64) : Int64 := s * 6364136223846793005 + 1442695040888963407
def itF (f : Int64 → Int64) : Nat → Int64 → Int64
  | 0, s => f s
  | n + 1, s => itF f n (f s)
theorem itF_0 (f : Int64 → Int64) (s : Int64) : itF f 0 s = f s := by rw [itF]
theorem itF_s (f : Int64 → Int64) (n : Nat) (s : Int64) : itF f (n + 1) s = itF f n (f s) := by rw [itF]
theorem nxt_s (s : Int64) : s * 6364136223846793005 + 1442695040888963407 = nxt s := by rw [nxt]
def dvn (m : Nat) (x : Int64) : Nat := (x.toUInt64 >>> 33).toNat % m
theorem sh33 (x : Int64) : jlushr x 33 = lN (x.toUInt64 >>> 33).toNat ∧ (x.toUInt64 >>> 33).toNat < 2 ^ 31 := by
  constructor
  · unfold jlushr
    rw [show ((33 : Int32).toInt64.toUInt64 &&& Int64.toUInt64 63) = 33 by decide +kernel]
    apply Int64.toBitVec_inj.mp
    show (x.toUInt64 >>> 33).toBitVec = BitVec.ofNat 64 (x.toUInt64 >>> 33).toBitVec.toNat
    rw [BitVec.ofNat_toNat, BitVec.setWidth_eq]
  · rw [UInt64.toNat_shiftRight, Nat.shiftRight_eq_div_pow]
    have h1 := x.toUInt64.toNat_lt
    have h2 : (33 : UInt64).toNat % 64 = 33 := by decide
    rw [h2]
    omega
theorem dv_s (x : Int64) {m : Nat} (h0 : 0 < m) (hm : m < 2 ^ 31) : Int64.toInt32 (jlrem (jlushr x 33) (Int32.toInt64 (nI m))) = nI (dvn m x) := by
  obtain ⟨h1, h2⟩ := sh33 x
  unfold jlrem dvn
  rw [h1, nI_l hm, pk_lRem (by omega) h0 (by omega), lN_i]
theorem gd_m {m : Nat} (h0 : 0 < m) (hm : m < 2 ^ 31) {o : RES} : gd (decide (¬ (Int32.toInt64 (nI m)) = 0)) o = o := by
  have h : ¬ Int32.toInt64 (nI m) = 0 := by
    rw [nI_l hm]
    intro q
    have := (lN_eq (b := 0) hm (by omega)).mp q
    omega
  rw [decide_eq_true h, gd_t]
def fil (I : PI) (B d : Nat) (f : Nat → Nat) (n : Nat) : PI := fun a k => if a = B ∧ d ≤ k ∧ k < d + n then nI (f (k - d)) else I a k
theorem fil_in {I : PI} {B d n k : Nat} {f : Nat → Nat} (h1 : d ≤ k) (h2 : k < d + n) : fil I B d f n B k = nI (f (k - d)) := if_pos ⟨rfl, h1, h2⟩
theorem fil_at {I : PI} {B d n k : Nat} {f : Nat → Nat} (h2 : k < n) : fil I B d f n B (d + k) = nI (f k) := by rw [fil_in (by omega) (by omega), Nat.add_sub_cancel_left]
theorem fil_out {I : PI} {B d n a k : Nat} {f : Nat → Nat} (h : ¬ (a = B ∧ d ≤ k ∧ k < d + n)) : fil I B d f n a k = I a k := if_neg h
theorem fil_0 {I : PI} {B d : Nat} {f : Nat → Nat} : fil I B d f 0 = I := by
  funext a k
  exact fil_out (by omega)
theorem fil_step {I : PI} {B d n : Nat} {f : Nat → Nat} : fil (uI I B d (nI (f 0))) B (d + 1) (fun i => f (i + 1)) n = fil I B d f (n + 1) := by
  funext a k
  by_cases h1 : a = B ∧ d + 1 ≤ k ∧ k < d + 1 + n
  · obtain ⟨rfl, h2, h3⟩ := h1
    rw [fil_in h2 h3, fil_in (by omega) (by omega), show k - d = k - (d + 1) + 1 by omega]
  · rw [fil_out h1]
    by_cases h2 : a = B ∧ k = d
    · obtain ⟨rfl, rfl⟩ := h2
      rw [uI_eq, fil_in (by omega) (by omega), Nat.sub_self]
    · rw [uI_ne h2, fil_out (by omega)]
theorem fil_kp {I : PI} {B d n : Nat} {f : Nat → Nat} {F : Nat → Nat → Prop} (h : ∀ k, d ≤ k → k < d + n → F B k) : Kp F I (fil I B d f n) := fun a k hn => fil_out (fun q => hn (by rw [q.1]; exact h k q.2.1 q.2.2))
theorem drawCLp {N p n m : Nat} (hp : p < 31) (hn : n ≤ 40) (h0 : 0 < m) (hm : m < 2 ^ 31) : ∀ (r k j : Nat) (s : Int64) (I : PI) (L : PL), j + r = n → r < k → I 2 4 = nI p → I 31 p = nI n → F_X2_drawAll_30 N k (nI n) (nI m) s (nI j) I L = some (none, fil I 30 (40 * p + j) (fun i => dvn m (itF nxt i s)) r, L) := by
  intro r
  induction r with
  | zero =>
    intro k j s I L h1 h2 h3 h4
    obtain ⟨k, rfl⟩ : ∃ i, k = i + 1 := ⟨k - 1, by omega⟩
    rw [F_X2_drawAll_30, fil_0]
    simp (disch := omega) only [lt_t, lt_f, le_t, le_f, eq_t, eq_f, c0lt, c0le, c0eq, c0ge, c0gt, c0qe, c1lt, c1le, c1eq, c1ge, c1gt, c1qe, m_le, m_lt, m_ngt, m_nge, m_ne, m_en, nI_add, nI_1, nI_1', nsub, nsub1, pk_mul, nI_clamp, cl0, cl1, gd_in, gd_in0, gd_in1, gd_k0, gd_k1, gd_kb, gd_t, ↓nmI_s, ↓nmJ_s, ↓nmW_s, ↓nmY_s, ↓bI_s, ↓bJ_s, ↓bV_s, bI_s, bJ_s, bV_s, ↓reduceIte, eq_self, ne_10, uI_eq, uI_ne, uL_eq, uL_ne, cond_true, cond_false, ifz_f, ifz_t, not_true_eq_false, not_false_eq_true]
  | succ r ih =>
    intro k j s I L h1 h2 h3 h4
    obtain ⟨k, rfl⟩ : ∃ i, k = i + 1 := ⟨k - 1, by omega⟩
    rw [F_X2_drawAll_30, if_neg (nI_ge (by omega) (by omega)), nmJ_s, nxt_s, gd_m h0 hm, dv_s _ h0 hm, write2_s hp hn (by omega : j < n) h3 h4, bV_s, nI_1]
    rw [ih k (j + 1) _ _ L (by omega) (by omega) (by rw [uI_ne (by omega)]; exact h3) (by rw [uI_ne (by omega)]; exact h4), ← fil_step]
    simp only [itF_0, itF_s, Nat.add_assoc]
theorem drawMLp {N n m : Nat} (hn : n ≤ 40) (h0 : 0 < m) (hm : m < 2 ^ 31) (a3 : Int64) : ∀ (r k j : Nat) (s : Int64) (I : PI) (L : PL), j + r = n → r < k → F_X12_draw_40 N k (nI n) (nI m) s (nI (j + 1)) I L = some (some (.int 1), fil I 55 (j + 1) (fun i => dvn m (itF nxt i s)) r, L) := by
  intro r
  induction r with
  | zero =>
    intro k j s I L h1 h2
    obtain ⟨k, rfl⟩ : ∃ i, k = i + 1 := ⟨k - 1, by omega⟩
    rw [F_X12_draw_40, fil_0]
    simp (disch := omega) only [lt_t, lt_f, le_t, le_f, eq_t, eq_f, c0lt, c0le, c0eq, c0ge, c0gt, c0qe, c1lt, c1le, c1eq, c1ge, c1gt, c1qe, m_le, m_lt, m_ngt, m_nge, m_ne, m_en, nI_add, nI_1, nI_1', nsub, nsub1, pk_mul, nI_clamp, cl0, cl1, gd_in, gd_in0, gd_in1, gd_k0, gd_k1, gd_kb, gd_t, ↓nmI_s, ↓nmJ_s, ↓nmW_s, ↓nmY_s, ↓bI_s, ↓bJ_s, ↓bV_s, bI_s, bJ_s, bV_s, ↓reduceIte, eq_self, ne_10, uI_eq, uI_ne, uL_eq, uL_ne, cond_true, cond_false, ifz_f, ifz_t, not_true_eq_false, not_false_eq_true]
  | succ r ih =>
    intro k j s I L h1 h2
    obtain ⟨k, rfl⟩ : ∃ i, k = i + 1 := ⟨k - 1, by omega⟩
    rw [F_X12_draw_40, if_neg (nI_nlt (by omega) (by omega)), nmJ_s, nxt_s, gd_m h0 hm, gd_in (by omega) (by omega), dv_s _ h0 hm, nmW_s, nI_1, nI_clamp (by omega)]
    rw [ih k (j + 1) _ _ L (by omega) (by omega), ← fil_step]
    simp only [itF_0, itF_s, Nat.add_assoc]
theorem case_draw {X : PI → Prop} (hX : Xok X) {N : Nat} (hN : 20000 ≤ N) (a1 a2 : Int32) (a3 : Int64) : CaseI (Inv X) (f_X11_draw N a1 a2 a3) (f_X12_draw N a1 a2 a3) := by
  intro I L hI
  have hI0 := hI
  obtain ⟨-, -, -, -, -, -, ⟨p, u, g, z1, z2, z3, z4, z5, z6, z7, zs, z8, z9, z10⟩, -⟩ := hI
  have zs0 := zs
  obtain ⟨n, s1, s2, s3, s4⟩ := zs
  cases h1 : wi a1 1 40 with
  | false =>
    refine ⟨0, I, L, I, L, ?_, ?_, hI0⟩
    · unfold f_X11_draw
      simp (disch := omega) only [lt_t, lt_f, le_t, le_f, eq_t, eq_f, c0lt, c0le, c0eq, c0ge, c0gt, c0qe, c1lt, c1le, c1eq, c1ge, c1gt, c1qe, m_le, m_lt, m_ngt, m_nge, m_ne, m_en, nI_add, nI_1, nI_1', nsub, nsub1, pk_mul, nI_clamp, cl0, cl1, gd_in, gd_in0, gd_in1, gd_k0, gd_k1, gd_kb, gd_t, ↓nmI_s, ↓nmJ_s, ↓nmW_s, ↓nmY_s, ↓bI_s, ↓bJ_s, ↓bV_s, bI_s, bJ_s, bV_s, ↓reduceIte, eq_self, ne_10, uI_eq, uI_ne, uL_eq, uL_ne, cond_true, cond_false, ifz_f, ifz_t, not_true_eq_false, not_false_eq_true, within_s, h1]
    · unfold f_X12_draw
      simp (disch := omega) only [lt_t, lt_f, le_t, le_f, eq_t, eq_f, c0lt, c0le, c0eq, c0ge, c0gt, c0qe, c1lt, c1le, c1eq, c1ge, c1gt, c1qe, m_le, m_lt, m_ngt, m_nge, m_ne, m_en, nI_add, nI_1, nI_1', nsub, nsub1, pk_mul, nI_clamp, cl0, cl1, gd_in, gd_in0, gd_in1, gd_k0, gd_k1, gd_kb, gd_t, ↓nmI_s, ↓nmJ_s, ↓nmW_s, ↓nmY_s, ↓bI_s, ↓bJ_s, ↓bV_s, bI_s, bJ_s, bV_s, ↓reduceIte, eq_self, ne_10, uI_eq, uI_ne, uL_eq, uL_ne, cond_true, cond_false, ifz_f, ifz_t, not_true_eq_false, not_false_eq_true, in_s, h1]
  | true =>
    cases h2 : wi a2 1 1000 with
    | false =>
      refine ⟨0, I, L, I, L, ?_, ?_, hI0⟩
      · unfold f_X11_draw
        simp (disch := omega) only [lt_t, lt_f, le_t, le_f, eq_t, eq_f, c0lt, c0le, c0eq, c0ge, c0gt, c0qe, c1lt, c1le, c1eq, c1ge, c1gt, c1qe, m_le, m_lt, m_ngt, m_nge, m_ne, m_en, nI_add, nI_1, nI_1', nsub, nsub1, pk_mul, nI_clamp, cl0, cl1, gd_in, gd_in0, gd_in1, gd_k0, gd_k1, gd_kb, gd_t, ↓nmI_s, ↓nmJ_s, ↓nmW_s, ↓nmY_s, ↓bI_s, ↓bJ_s, ↓bV_s, bI_s, bJ_s, bV_s, ↓reduceIte, eq_self, ne_10, uI_eq, uI_ne, uL_eq, uL_ne, cond_true, cond_false, ifz_f, ifz_t, not_true_eq_false, not_false_eq_true, within_s, h1, h2]
      · unfold f_X12_draw
        simp (disch := omega) only [lt_t, lt_f, le_t, le_f, eq_t, eq_f, c0lt, c0le, c0eq, c0ge, c0gt, c0qe, c1lt, c1le, c1eq, c1ge, c1gt, c1qe, m_le, m_lt, m_ngt, m_nge, m_ne, m_en, nI_add, nI_1, nI_1', nsub, nsub1, pk_mul, nI_clamp, cl0, cl1, gd_in, gd_in0, gd_in1, gd_k0, gd_k1, gd_kb, gd_t, ↓nmI_s, ↓nmJ_s, ↓nmW_s, ↓nmY_s, ↓bI_s, ↓bJ_s, ↓bV_s, bI_s, bJ_s, bV_s, ↓reduceIte, eq_self, ne_10, uI_eq, uI_ne, uL_eq, uL_ne, cond_true, cond_false, ifz_f, ifz_t, not_true_eq_false, not_false_eq_true, in_s, h1, h2]
    | true =>
      have hp' : (p + 1) % 31 < 31 := Nat.mod_lt _ (by decide)
      obtain ⟨n', g1, g2, rfl⟩ := wi_nat2 (m := 1) (n := 40) rfl rfl (by omega) (by omega) h1
      obtain ⟨m, g3, g4, rfl⟩ := wi_nat2 (m := 1) (n := 1000) rfl rfl (by omega) (by omega) h2
      obtain ⟨I1, e1, c1, c2, c3, c4, c5, k1⟩ := start_s (L := L) hN z1 s1 (by omega) z3 s2 z4
      obtain ⟨J1, hJ1⟩ : ∃ J : PI, J = fil (uI I1 31 ((p + 1) % 31) (nI n')) 30 (40 * ((p + 1) % 31) + 0) (fun i => dvn m (itF nxt i a3)) n' := ⟨_, rfl⟩
      have kJ : Kp (dA ((p + 1) % 31)) I J1 := hJ1 ▸ (k1.up (by unfold dA; omega)).tr (fil_kp (fun k _ _ => by unfold dA; omega))
      have d1 : J1 2 4 = nI ((p + 1) % 31) := by rw [hJ1, fil_out (by omega), uI_ne (by omega)]; exact c1
      have d2 : J1 31 ((p + 1) % 31) = nI n' := by rw [hJ1, fil_out (by omega), uI_eq]
      have d3 : J1 12 43 = nI u := (kJ 12 43 (by unfold dA; omega)).trans z5
      obtain ⟨J, e2, b1, b2, b3, k2⟩ := act_s (L := L) hN (by omega) d3
      refine ⟨1, J1, L, fil (uI J 55 0 (nI n')) 55 (0 + 1) (fun i => dvn m (itF nxt i a3)) n', L, ?_, ?_, ?_⟩
      · unfold f_X11_draw f_X2_drawAll
        have r1 : f_X2_resize N (nI n') I1 L = _ := resize2_s hp' (by omega) c1
        have e := drawCLp (N := N) hp' g2 (by omega : 0 < m) (by omega) n' N 0 a3 (uI I1 31 ((p + 1) % 31) (nI n')) L (by omega) (by omega) (by rw [uI_ne (by omega)]; exact c1) uI_eq
        rw [within_s, bI_s, ifz_t h1, within_s, bI_s, ifz_t h2, if_neg (nI_pos (by omega)), show (40 : Int32) = nI 40 from rfl, if_neg (nI_nlt g2 (by omega)), if_pos (show (0 : Int32) < nI m from nI_lt (a := 0) (by omega) (by omega)), e1, bV_s, r1, bV_s, show F_X2_drawAll_30 N N (nI n') (nI m) a3 0 = F_X2_drawAll_30 N N (nI n') (nI m) a3 (nI 0) from rfl, e, bV_s, ← hJ1]
        simp (disch := omega) only [lt_t, lt_f, le_t, le_f, eq_t, eq_f, c0lt, c0le, c0eq, c0ge, c0gt, c0qe, c1lt, c1le, c1eq, c1ge, c1gt, c1qe, m_le, m_lt, m_ngt, m_nge, m_ne, m_en, nI_add, nI_1, nI_1', nsub, nsub1, pk_mul, nI_clamp, cl0, cl1, gd_in, gd_in0, gd_in1, gd_k0, gd_k1, gd_kb, gd_t, ↓nmI_s, ↓nmJ_s, ↓nmW_s, ↓nmY_s, ↓bI_s, ↓bJ_s, ↓bV_s, bI_s, bJ_s, bV_s, ↓reduceIte, eq_self, ne_10, uI_eq, uI_ne, uL_eq, uL_ne, cond_true, cond_false, ifz_f, ifz_t, not_true_eq_false, not_false_eq_true]
      · unfold f_X12_draw
        have e := drawMLp (N := N) g2 (by omega : 0 < m) (by omega) a3 n' N 0 a3 (uI J 55 0 (nI n')) L (by omega) (by omega)
        rw [in_s, bI_s, ifz_t h1, in_s, bI_s, ifz_t h2, e2, bV_s, gd_in0 (by omega) (by omega), nmW_s, cl0]
        exact e
      · refine act_Zg hX hI0 z1 z2 zs0 z8 z10 kJ d1 ?_ ?_ b1 b2 b3 k2 (((Kp.rf (F := fun a _ => a = 55)).up rfl).tr (fil_kp (fun k _ _ => rfl))) ⟨n', by omega, ?_, ?_, fun k hk => ?_⟩
        · rw [hJ1, fil_out (by omega), uI_ne (by omega)]; exact c3
        · rw [hJ1, fil_out (by omega), uI_ne (by omega)]; exact c4
        · rw [fil_out (by omega), uI_ne (by omega), k2 31 _ (by unfold dP; omega)]; exact d2
        · rw [fil_out (by omega), uI_eq]
        · have e5 : J1 30 (40 * ((p + 1) % 31) + k) = nI (dvn m (itF nxt k a3)) := by
            rw [hJ1, fil_in (by omega) (by omega), show 40 * ((p + 1) % 31) + k - (40 * ((p + 1) % 31) + 0) = k by omega]
          have e6 : dvn m (itF nxt k a3) < m := Nat.mod_lt _ (by omega)
          rw [fil_out (a := 30) (by omega), uI_ne (by omega), k2 30 _ (by unfold dP; omega), e5, fil_at hk]
          exact ⟨rfl, _, by omega, rfl⟩
