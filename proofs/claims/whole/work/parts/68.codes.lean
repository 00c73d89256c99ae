/-! codes: numbers with a sign, the codes in both, sign -/
def zI (z : Int) : Int32 := Int32.ofInt z
theorem zI_n (n : Nat) : nI n = zI n := Int32.ofInt_eq_ofNat.symm
theorem zI_toInt {z : Int} (h1 : -2147483648 ≤ z) (h2 : z < 2147483648) : (zI z).toInt = z := Int32.toInt_ofInt_of_le (by omega) (by omega)
theorem zI_add (a b : Int) : zI a + zI b = zI (a + b) := by
  apply Int32.toBitVec_inj.mp
  show BitVec.ofInt 32 a + BitVec.ofInt 32 b = BitVec.ofInt 32 (a + b)
  exact (BitVec.ofInt_add a b).symm
theorem zI_neg (a : Int) : -zI a = zI (-a) := Int32.neg_ofInt
theorem zI_sub (a b : Int) : zI a - zI b = zI (a - b) := by
  rw [Int32.sub_eq_add_neg, zI_neg, zI_add, Int.sub_eq_add_neg]
theorem zI_mul (a b : Int) : zI a * zI b = zI (a * b) := by
  apply Int32.toBitVec_inj.mp
  show BitVec.ofInt 32 a * BitVec.ofInt 32 b = BitVec.ofInt 32 (a * b)
  exact (BitVec.ofInt_mul a b).symm
theorem zI_nat {z : Int} (h : 0 ≤ z) : zI z = nI z.toNat := by
  rw [zI_n, Int.toNat_of_nonneg h]
theorem zI_lt {a b : Int} (h1 : -2147483648 ≤ a) (h2 : a < 2147483648) (h3 : -2147483648 ≤ b) (h4 : b < 2147483648) : zI a < zI b ↔ a < b := by
  rw [Int32.lt_iff_toInt_lt, zI_toInt h1 h2, zI_toInt h3 h4]
theorem zI_le {a b : Int} (h1 : -2147483648 ≤ a) (h2 : a < 2147483648) (h3 : -2147483648 ≤ b) (h4 : b < 2147483648) : zI a ≤ zI b ↔ a ≤ b := by
  rw [Int32.le_iff_toInt_le, zI_toInt h1 h2, zI_toInt h3 h4]
theorem zI_eq {a b : Int} (h1 : -2147483648 ≤ a) (h2 : a < 2147483648) (h3 : -2147483648 ≤ b) (h4 : b < 2147483648) : zI a = zI b ↔ a = b := by
  constructor
  · intro h
    have := congrArg Int32.toInt h
    rw [zI_toInt h1 h2, zI_toInt h3 h4] at this
    exact this
  · intro h; rw [h]
theorem hz_z {z : Int} {n : Nat} (h1 : -1000000 ≤ z) (h2 : z < 1000000) (hn : n < 2 ^ 20) : hz (zI z) n = decide (0 ≤ z ∧ z < n) := by
  by_cases h : 0 ≤ z ∧ z < n
  · rw [decide_eq_true h, zI_nat h.1]
    exact hz_t (by omega) (by omega)
  · rw [decide_eq_false h]
    by_cases h0 : 0 ≤ z
    · rw [zI_nat h0]
      exact hz_f (by omega) (by omega)
    · cases hw : hz (zI z) n with
      | false => rfl
      | true =>
        obtain ⟨j, q1, q2⟩ := (hz_iff (by omega)).mp hw
        rw [zI_n, zI_eq (by omega) (by omega) (by omega) (by omega)] at q2
        omega
/-- the codes: m of them, n c signs each -/
def CSet (I : PI) (m : Nat) (n : Nat → Nat) (S : Nat → Nat → Nat) : Prop := m ≤ 8 ∧ I 3 2 = nI m ∧ I 12 21 = nI m ∧ ∀ c, c < m → 1 ≤ n c ∧ n c ≤ 24 ∧ I 16 c = nI (n c) ∧ I 50 c = nI (n c) ∧ ∀ k, k < n c → S c k < 4 ∧ I 15 (24 * c + k) = nI (S c k) ∧ I 49 (24 * c + k) = nI (S c k)
theorem RC.set {I : PI} (r : RC I) : ∃ (m : Nat) (n : Nat → Nat) (S : Nat → Nat → Nat), CSet I m n S := by
  obtain ⟨m, h1, h2, h3, h4⟩ := r
  refine ⟨m, fun c => (I 16 c).toNatClampNeg, fun c k => (I 15 (24 * c + k)).toNatClampNeg, h1, h2, h3, fun c hc => ?_⟩
  obtain ⟨n, g1, g2, g3, g4, g5⟩ := h4 c hc
  have e : (I 16 c).toNatClampNeg = n := by rw [g3, nI_clamp (by omega)]
  show 1 ≤ (I 16 c).toNatClampNeg ∧ (I 16 c).toNatClampNeg ≤ 24 ∧ I 16 c = nI (I 16 c).toNatClampNeg ∧ I 50 c = nI (I 16 c).toNatClampNeg ∧ ∀ k, k < (I 16 c).toNatClampNeg → (I 15 (24 * c + k)).toNatClampNeg < 4 ∧ I 15 (24 * c + k) = nI (I 15 (24 * c + k)).toNatClampNeg ∧ I 49 (24 * c + k) = nI (I 15 (24 * c + k)).toNatClampNeg
  rw [e]
  refine ⟨g1, g2, g3, g4, fun k hk => ?_⟩
  obtain ⟨t, t1, t2, t3⟩ := g5 k hk
  have e2 : (I 15 (24 * c + k)).toNatClampNeg = t := by rw [t2, nI_clamp (by omega)]
  rw [e2]
  exact ⟨t1, t2, t3⟩
theorem CSet.rc {I : PI} {m : Nat} {n : Nat → Nat} {S : Nat → Nat → Nat} (r : CSet I m n S) : RC I := by
  obtain ⟨h1, h2, h3, h4⟩ := r
  refine ⟨m, h1, h2, h3, fun c hc => ?_⟩
  obtain ⟨g1, g2, g3, g4, g5⟩ := h4 c hc
  exact ⟨n c, g1, g2, g3, g4, fun k hk => ⟨S c k, g5 k hk⟩⟩
theorem CSet.cong {I J : PI} {m : Nat} {n : Nat → Nat} {S : Nat → Nat → Nat} (h : ∀ a k, dC a k → J a k = I a k) (r : CSet I m n S) : CSet J m n S := by
  obtain ⟨h1, h2, h3, h4⟩ := r
  refine ⟨h1, (h 3 2 (by unfold dC; omega)).trans h2, (h 12 21 (by unfold dC; omega)).trans h3, fun c hc => ?_⟩
  obtain ⟨g1, g2, g3, g4, g5⟩ := h4 c hc
  refine ⟨g1, g2, (h 16 c (by unfold dC; omega)).trans g3, (h 50 c (by unfold dC; omega)).trans g4, fun k hk => ?_⟩
  rw [h 15 _ (by unfold dC; omega), h 49 _ (by unfold dC; omega)]
  exact g5 k hk
section CODES
variable {N m c : Nat} {n : Nat → Nat} {S : Nat → Nat → Nat} {I : PI} {L : PL}
theorem CSet.has {a : Int32} (r : CSet I m n S) : f_X3_has N a I L = some (some (.int (bif hz a m then 1 else 0)), I, L) := by
  obtain ⟨h1, h2, h3, h4⟩ := r
  unfold f_X3_has
  rw [k0, k1, gd_t, gd_t, h2]
  cases hw : hz a m with
  | true =>
    have h3 := (has_iff (a := a) (n := m) (by omega)).mpr ((hz_iff (by omega)).mp hw)
    rw [if_neg h3.1, if_neg h3.2]; rfl
  | false =>
    by_cases h3 : a < 0
    · rw [if_pos h3]; rfl
    · rw [if_neg h3]
      by_cases h4 : nI m ≤ a
      · rw [if_pos h4]; rfl
      · have h5 := (hz_iff (a := a) (m := m) (by omega)).mpr ((has_iff (by omega)).mp ⟨h3, h4⟩)
        rw [hw] at h5
        cases h5
theorem CSet.is {a : Int32} (r : CSet I m n S) : f_X12_isCode N a I L = some (some (.int (bif hz a m then 1 else 0)), I, L) := by
  unfold f_X12_isCode
  rw [r.2.2.1, in_hz, bI_s, kb, gd_t]
theorem CSet.len (r : CSet I m n S) (hc : c < m) : f_X3_lengthOf N (nI c) I L = some (some (.int (nI (n c))), I, L) := by
  obtain ⟨h1, h2, h3, h4⟩ := r
  unfold f_X3_lengthOf
  rw [if_neg (nI_pos (by omega)), show (9 : Int32) = nI 9 from rfl, if_neg (nI_ge (by omega) (by omega)), gd_in (by omega) (by omega), nI_clamp (by omega), (h4 c hc).2.2.1]
theorem CSet.turn {k : Nat} (r : CSet I m n S) (hc : c < m) (hk : k < n c) : f_X3_turn N (nI c) (nI k) I L = some (some (.int (nI (S c k))), I, L) := by
  have hh : f_X3_has N (nI c) I L = _ := r.has
  obtain ⟨h1, h2, h3, h4⟩ := r
  obtain ⟨g1, g2, g3, g4, g5⟩ := h4 c hc
  have e : nI c * 24 + nI k = nI (24 * c + k) := by
    rw [show (24 : Int32) = nI 24 from rfl, pk_mul, nI_add, Nat.mul_comm]
  unfold f_X3_turn
  rw [hh, bI_s, ifz_t (hz_t hc (by omega)), if_neg (nI_pos (by omega)), gd_in (by omega) (by omega), nI_clamp (by omega), g3, if_neg (nI_ge hk (by omega)), e, gd_in (by omega) (by omega), nI_clamp (by omega), (g5 k hk).2.1]
theorem CSet.l50 (r : CSet I m n S) (hc : c < m) : I 50 c = nI (n c) := (r.2.2.2 c hc).2.2.2.1
end CODES
theorem case_sign {X : PI → Prop} (hX : Xok X) (N : Nat) (a1 a2 : Int32) : CaseS (Inv X) (f_X11_sign N a1 a2) (f_X12_sign N a1 a2) := by
  intro I L hI
  have hI0 := hI
  obtain ⟨-, -, hC, -⟩ := hI
  obtain ⟨m, n, S, r⟩ := hC.set
  have r' := r
  obtain ⟨h1, h2, h3, h4⟩ := r'
  have eC := f_X11_sign.eq_1 N a1 a2 I L
  have eM := fun L1 => f_X12_sign.eq_1 N a1 a2 I L1
  have hkp : ∀ v, Kp (fun a k => a = 12 ∧ k = 0) I (uI I 12 0 v) := fun v => Kp.rf.up ⟨rfl, rfl⟩
  have hk : ∀ (v : Int32) (L1 : PL), Inv X (uI I 12 0 v) L1 := fun v L1 => hI0.keep (L := L) hX (hkp v) (fun a k h => by unfold dT dS dR dD dE dZ dX dC; omega)
  have hbad : ∀ L1, F_X12_sign_29 N a1 a2 0 I L1 = some (some (.int 0), uI I 12 0 1, L1) := fun L1 => by
    unfold F_X12_sign_29 F_X12_sign_40
    rw [if_pos rfl, nmW_s, if_pos rfl]
  rw [r.has, bI_s] at eC
  cases hq : hz a1 m with
  | false =>
    rw [ifz_f hq] at eC
    refine ⟨.null, 0, I, uI I 12 0 1, L, eC, Or.inl ⟨rfl, uI_eq⟩, fun L1 _ => ⟨?_, hk 1 L1⟩⟩
    rw [eM, r.is, bI_s, ifz_f hq]
    unfold F_X12_sign_28
    exact hbad L1
  | true =>
    obtain ⟨c, hc, rfl⟩ := (hz_iff (by omega)).mp hq
    obtain ⟨g1, g2, g3, g4, g5⟩ := h4 c hc
    rw [ifz_t hq, r.len hc, bI_s, nsub1 g1, within_s, bI_s] at eC
    have eM1 : ∀ L1, f_X12_sign N (nI c) a2 I L1 = if (bif wi a2 (-1) (nI (n c - 1)) then (1 : Int32) else 0) = 0 then F_X12_sign_29 N (nI c) a2 0 I L1 else F_X12_sign_29 N (nI c) a2 1 I L1 := fun L1 => by
      rw [eM, r.is, bI_s, ifz_t hq, gd_in (by omega) (by omega), nI_clamp (by omega), g4, nsub1 g1, in_s, bI_s]
      rfl
    rcases wi_m (n c) g1 (by omega) a2 with ⟨q1, q2⟩ | ⟨rfl, q2⟩ | ⟨k, q1, rfl, q2⟩ | ⟨k, q1, q3, rfl, q2⟩
    · rw [ifz_f q2] at eC
      refine ⟨.null, 0, I, uI I 12 0 1, L, eC, Or.inl ⟨rfl, uI_eq⟩, fun L1 _ => ⟨?_, hk 1 L1⟩⟩
      rw [eM1, ifz_f q2]
      exact hbad L1
    · rw [ifz_t q2, if_pos rfl, r.len hc, bI_s] at eC
      refine ⟨.int (nI (n c)), nI (n c), I, uI I 12 0 0, L, eC, Or.inr ⟨rfl, uI_eq⟩, fun L1 _ => ⟨?_, hk 0 L1⟩⟩
      rw [eM1, ifz_t q2]
      unfold F_X12_sign_29 F_X12_sign_40
      rw [if_neg ne_10, nmW_s, if_neg ne_10, if_pos rfl, gd_in (by omega) (by omega), nI_clamp (by omega), uI_ne (by omega), g4]
    · rw [ifz_t q2, if_neg (m_ne' (by omega)), r.turn hc q1, bI_s] at eC
      refine ⟨.int (nI (S c k)), nI (S c k), I, uI I 12 0 0, L, eC, Or.inr ⟨rfl, uI_eq⟩, fun L1 _ => ⟨?_, hk 0 L1⟩⟩
      rw [eM1, ifz_t q2]
      unfold F_X12_sign_29 F_X12_sign_40
      rw [if_neg ne_10, nmW_s, if_neg ne_10, if_neg (m_ne' (by omega)), show (24 : Int32) = nI 24 from rfl, pk_mul, nI_add, gd_in (by omega) (by omega), nI_clamp (by omega), uI_ne (by omega), (g5 k q1).2.2]
    · rw [ifz_f q2] at eC
      refine ⟨.null, 0, I, uI I 12 0 1, L, eC, Or.inl ⟨rfl, uI_eq⟩, fun L1 _ => ⟨?_, hk 1 L1⟩⟩
      rw [eM1, ifz_f q2]
      exact hbad L1
