/-! read, set, rest -/
theorem ifz_f {α : Type} {b : Bool} {x y : α} (h : b = false) : (if (bif b then (1 : Int32) else 0) = 0 then x else y) = x := by subst h; exact if_pos rfl
theorem ifz_t {α : Type} {b : Bool} {x y : α} (h : b = true) : (if (bif b then (1 : Int32) else 0) = 0 then x else y) = y := by subst h; exact if_neg ne_10
theorem case_read {X : PI → Prop} (hX : Xok X) (N : Nat) (a1 a2 : Int32) : CaseI (Inv X) (f_X11_read N a1 a2) (f_X12_read N a1 a2) := by
  intro I L hI
  have hI0 := hI
  obtain ⟨-, -, -, -, hD, -⟩ := hI
  cases h1 : wi a1 0 7 with
  | false =>
    refine ⟨0, I, L, I, L, ?_, ?_, hI0⟩
    · unfold f_X11_read f_X8_putReading
      have h2 : a1 < 0 ∨ 8 ≤ a1 := by
        have h3 := wi_f h1
        rw [Int32.lt_iff_toInt_lt, Int32.le_iff_toInt_le]
        rw [Int32.le_iff_toInt_le, Int32.le_iff_toInt_le] at h3
        have e8 : (8 : Int32).toInt = 8 := by decide
        have e7 : (7 : Int32).toInt = 7 := by decide
        rw [Int32.toInt_zero] at h3 ⊢
        omega
      rw [k0]
      by_cases h4 : a1 < 0
      · rw [if_pos h4, gd_t, bI_s]; rfl
      · rw [if_neg h4, if_pos (h2.resolve_left h4), gd_t, bI_s]; rfl
    · unfold f_X12_read
      rw [in_s, bI_s, ifz_f h1, k0, gd_t]
  | true =>
    obtain ⟨j, hj, rfl⟩ := wi_nat (n := 7) rfl (by omega) h1
    have g1 : ¬ nI j < 0 := nI_pos (by omega)
    have g2 : ¬ (8 : Int32) ≤ nI j := nI_ge (b := 8) (by omega) (by omega)
    cases h2 : wi a2 (-1) 98 with
    | false =>
      refine ⟨0, I, L, I, L, ?_, ?_, hI0⟩
      · unfold f_X11_read f_X8_putReading
        rw [k0, if_neg g1, if_neg g2]
        by_cases h4 : a2 < (-1 : Int32)
        · rw [if_pos h4, gd_t, bI_s]; rfl
        · rw [if_neg h4]
          have h5 : ¬ a2 ≤ 98 := fun q => wi_f h2 ⟨i32_nlt.mp h4, q⟩
          rw [if_neg h5, gd_t, bI_s]; rfl
      · unfold f_X12_read
        rw [in_s, bI_s, ifz_t h1, in_s, bI_s, ifz_f h2, k0, gd_t]
    | true =>
      obtain ⟨q1, q2⟩ := wi_t h2
      refine ⟨1, uI I 27 j a2, L, uI (uI I 27 j a2) 54 j a2, L, ?_, ?_, ?_⟩
      · unfold f_X11_read f_X8_putReading
        rw [if_neg g1, if_neg g2, if_neg (i32_nlt.mpr q1), if_pos q2, inb_nI (by omega) (by omega), gd_t, nmW_s, k1, gd_t, bI_s, nI_clamp (by omega)]; rfl
      · unfold f_X12_read
        rw [in_s, bI_s, ifz_t h1, in_s, bI_s, ifz_t h2, inb_nI (by omega) (by omega), gd_t, nmW_s, k1, gd_t, nI_clamp (by omega)]
      · refine Inv.mkD hX ((Kp.rf.up (Or.inl rfl)).up (Or.inr rfl)) ?_ hI0
        intro k hk
        by_cases hkj : k = j
        · subst hkj
          rw [uI_eq, uI_ne (by omega), uI_eq]
          refine ⟨rfl, ?_⟩
          by_cases h6 : a2 = -1
          · exact Or.inl h6
          · right
            have h7 : ¬ a2 < 0 := by
              intro q
              apply h6
              rw [Int32.lt_iff_toInt_lt, Int32.toInt_zero] at q
              rw [Int32.le_iff_toInt_le] at q1
              have e1 : (-1 : Int32).toInt = -1 := by decide
              apply Int32.toInt_inj.mp
              omega
            obtain ⟨v, hv, rfl⟩ := nI_of h7
            exact ⟨v, by rw [show (98 : Int32) = nI 98 from rfl, nI_leI hv (by omega)] at q2; exact q2, rfl⟩
        · rw [uI_ne (by omega), uI_ne (by omega), uI_ne (by omega), uI_ne (by omega)]
          exact hD k hk
def setU (I : PI) (v1 v2 : Int32) (s0 : Int32) : PI := uI (uI (uI (uI (uI (uI I 12 32 s0) 12 33 (if v1 = 1 then v2 else I 12 33)) 12 34 (if v1 = 2 then v2 else I 12 34)) 12 35 (if v1 = 3 then v2 else I 12 35)) 12 36 (if v1 = 4 then v2 else I 12 36)) 12 37 (if v1 = 5 then v2 else I 12 37)
theorem set164_s {N : Nat} {v1 v2 s0 : Int32} {I : PI} {L : PL} : F_X12_set_164 N v1 v2 s0 I L = some (some (.int 1), uI (uI I 12 36 s0) 12 37 (if v1 = 5 then v2 else I 12 37), L) := by
  unfold F_X12_set_164
  rw [nmW_s, k1]
  by_cases h : v1 = 5
  · rw [if_pos h, if_pos h, nmW_s, gd_t]
  · rw [if_neg h, if_neg h, nmW_s, gd_t, uI_ne (by omega)]
theorem set147_s {N : Nat} {v1 v2 s0 : Int32} {I : PI} {L : PL} : F_X12_set_147 N v1 v2 s0 I L = some (some (.int 1), uI (uI (uI I 12 35 s0) 12 36 (if v1 = 4 then v2 else I 12 36)) 12 37 (if v1 = 5 then v2 else I 12 37), L) := by
  unfold F_X12_set_147
  rw [nmW_s]
  by_cases h : v1 = 4
  · rw [if_pos h, if_pos h, set164_s, uI_ne (by omega)]
  · rw [if_neg h, if_neg h, set164_s, uI_ne (by omega), uI_ne (by omega)]
theorem set130_s {N : Nat} {v1 v2 s0 : Int32} {I : PI} {L : PL} : F_X12_set_130 N v1 v2 s0 I L = some (some (.int 1), uI (uI (uI (uI I 12 34 s0) 12 35 (if v1 = 3 then v2 else I 12 35)) 12 36 (if v1 = 4 then v2 else I 12 36)) 12 37 (if v1 = 5 then v2 else I 12 37), L) := by
  unfold F_X12_set_130
  rw [nmW_s]
  by_cases h : v1 = 3
  · rw [if_pos h, if_pos h, set147_s, uI_ne (k := 36) (by omega), uI_ne (k := 37) (by omega)]
  · rw [if_neg h, if_neg h, set147_s, uI_ne (k := 35) (by omega), uI_ne (k := 36) (by omega), uI_ne (k := 37) (by omega)]
theorem set113_s {N : Nat} {v1 v2 s0 : Int32} {I : PI} {L : PL} : F_X12_set_113 N v1 v2 s0 I L = some (some (.int 1), uI (uI (uI (uI (uI I 12 33 s0) 12 34 (if v1 = 2 then v2 else I 12 34)) 12 35 (if v1 = 3 then v2 else I 12 35)) 12 36 (if v1 = 4 then v2 else I 12 36)) 12 37 (if v1 = 5 then v2 else I 12 37), L) := by
  unfold F_X12_set_113
  rw [nmW_s]
  by_cases h : v1 = 2
  · rw [if_pos h, if_pos h, set130_s, uI_ne (k := 35) (by omega), uI_ne (k := 36) (by omega), uI_ne (k := 37) (by omega)]
  · rw [if_neg h, if_neg h, set130_s, uI_ne (k := 34) (by omega), uI_ne (k := 35) (by omega), uI_ne (k := 36) (by omega), uI_ne (k := 37) (by omega)]
theorem set96_s {N : Nat} {v1 v2 s0 : Int32} {I : PI} {L : PL} : F_X12_set_96 N v1 v2 s0 I L = some (some (.int 1), setU I v1 v2 s0, L) := by
  unfold F_X12_set_96 setU
  rw [nmW_s]
  by_cases h : v1 = 1
  · rw [if_pos h, if_pos h, set113_s, uI_ne (k := 34) (by omega), uI_ne (k := 35) (by omega), uI_ne (k := 36) (by omega), uI_ne (k := 37) (by omega)]
  · rw [if_neg h, if_neg h, set113_s, uI_ne (k := 33) (by omega), uI_ne (k := 34) (by omega), uI_ne (k := 35) (by omega), uI_ne (k := 36) (by omega), uI_ne (k := 37) (by omega)]
theorem setU_at {I : PI} {v1 v2 s0 : Int32} {i : Nat} (hi : i < 6) (h0 : s0 = if v1 = 0 then v2 else I 12 32) : setU I v1 v2 s0 12 (32 + i) = if v1 = nI i then v2 else I 12 (32 + i) := by
  unfold setU
  match i, hi with
  | 0, _ => rw [uI_ne (by omega), uI_ne (by omega), uI_ne (by omega), uI_ne (by omega), uI_ne (by omega), uI_eq]; exact h0
  | 1, _ => rw [uI_ne (by omega), uI_ne (by omega), uI_ne (by omega), uI_ne (by omega), uI_eq]; rfl
  | 2, _ => rw [uI_ne (by omega), uI_ne (by omega), uI_ne (by omega), uI_eq]; rfl
  | 3, _ => rw [uI_ne (by omega), uI_ne (by omega), uI_eq]; rfl
  | 4, _ => rw [uI_ne (by omega), uI_eq]; rfl
  | 5, _ => rw [uI_eq]; rfl
  | i + 6, h => exact absurd h (by omega)
theorem setU_kp {I : PI} {v1 v2 s0 : Int32} : Kp dS I (setU I v1 v2 s0) := by
  unfold setU
  exact (((((Kp.rf.up (by unfold dS; omega)).up (by unfold dS; omega)).up (by unfold dS; omega)).up (by unfold dS; omega)).up (by unfold dS; omega)).up (by unfold dS; omega)
/-- the model's set, for a told sort -/
theorem setM_s {N : Nat} {j : Nat} (hj : j < 6) {a2 : Int32} {I : PI} {L : PL} : f_X12_set N (nI j) a2 I L = if (bif wi a2 (gLeast j) (gGreat j) then (1 : Int32) else 0) = 0 then some (some (.int 0), I, L) else some (some (.int 1), setU I (nI j) a2 (if nI j = 0 then a2 else I 12 32), L) := by
  have h5 : wi (nI j) 0 5 = true := by
    match j, hj with
    | 0, _ => decide +kernel
    | 1, _ => decide +kernel
    | 2, _ => decide +kernel
    | 3, _ => decide +kernel
    | 4, _ => decide +kernel
    | 5, _ => decide +kernel
    | j + 6, h => exact absurd h (by omega)
  have key : ∀ hi lo : Int32, F_X12_set_75 N (nI j) a2 hi lo a2 I L = if (bif wi a2 lo hi then (1 : Int32) else 0) = 0 then some (some (.int 0), I, L) else some (some (.int 1), setU I (nI j) a2 (if nI j = 0 then a2 else I 12 32), L) := by
    intro hi lo
    unfold F_X12_set_75
    rw [in_s, bI_s, k0, gd_t, set96_s, set96_s]
    by_cases h : (bif wi a2 lo hi then (1 : Int32) else 0) = 0
    · rw [if_pos h, if_pos h]
    · rw [if_neg h, if_neg h]
      by_cases h2 : nI j = 0
      · rw [if_pos h2, if_pos h2]
      · rw [if_neg h2, if_neg h2]
  unfold f_X12_set F_X12_set_25 F_X12_set_30 F_X12_set_49
  rw [in_s, bI_s, h5, cond_true, if_neg ne_10]
  simp only [key]
  match j, hj with
  | 0, _ => rfl
  | 1, _ => rfl
  | 2, _ => rfl
  | 3, _ => rfl
  | 4, _ => rfl
  | 5, _ => rfl
  | j + 6, h => exact absurd h (by omega)
theorem case_set {X : PI → Prop} (hX : Xok X) (N : Nat) (a1 a2 : Int32) : CaseI (Inv X) (f_X11_set N a1 a2) (f_X12_set N a1 a2) := by
  intro I L hI
  have hI0 := hI
  obtain ⟨-, hS, -⟩ := hI
  cases h1 : wi a1 0 5 with
  | false =>
    refine ⟨0, I, L, I, L, ?_, ?_, hI0⟩
    · unfold f_X11_set
      rw [within_s, bI_s, ifz_f h1, k0, gd_t]
    · unfold f_X12_set
      rw [in_s, bI_s, ifz_f h1, k0, gd_t]
  | true =>
    obtain ⟨j, hj, rfl⟩ := wi_nat (n := 5) rfl (by omega) h1
    have hj6 : j < 6 := by omega
    cases h2 : wi a2 (gLeast j) (gGreat j) with
    | false =>
      refine ⟨0, I, L, I, L, ?_, ?_, hI0⟩
      · unfold f_X11_set
        rw [within_s, bI_s, ifz_t h1, inb_nI hj6 (by omega), gd_t, gd_t, nI_clamp (by omega), within_s, bI_s, ifz_f h2, k0, gd_t]
      · rw [setM_s hj6, ifz_f h2]
    | true =>
      refine ⟨1, uI I 13 j a2, L, setU (uI I 13 j a2) (nI j) a2 (if nI j = 0 then a2 else (uI I 13 j a2) 12 32), L, ?_, ?_, ?_⟩
      · unfold f_X11_set
        rw [within_s, bI_s, ifz_t h1, inb_nI hj6 (by omega), gd_t, gd_t, nI_clamp (by omega), within_s, bI_s, ifz_t h2, gd_t, nmW_s, k1, gd_t]
      · rw [setM_s hj6, ifz_t h2]
      · refine Inv.mkS hX ((Kp.rf.up (Or.inl rfl)).tr setU_kp) ?_ hI0
        intro i hi
        rw [setU_at hi rfl]
        have e1 : setU (uI I 13 j a2) (nI j) a2 (if nI j = 0 then a2 else (uI I 13 j a2) 12 32) 13 i = uI I 13 j a2 13 i := by
          unfold setU
          rw [uI_ne (by omega), uI_ne (by omega), uI_ne (by omega), uI_ne (by omega), uI_ne (by omega), uI_ne (by omega)]
        rw [e1, uI_ne (a := 12) (by omega)]
        by_cases hij : i = j
        · subst hij
          rw [uI_eq, if_pos rfl]
          refine ⟨rfl, ?_⟩
          have e2 : gLeast i = nI (loS i) ∧ gGreat i = nI (hiS i) ∧ loS i < 2 ^ 31 ∧ hiS i < 2 ^ 31 := by
            match i, hi with
            | 0, _ => decide +kernel
            | 1, _ => decide +kernel
            | 2, _ => decide +kernel
            | 3, _ => decide +kernel
            | 4, _ => decide +kernel
            | 5, _ => decide +kernel
            | i + 6, h => exact absurd h (by omega)
          obtain ⟨v, q1, q2, q3⟩ := wi_nat2 e2.1 e2.2.1 e2.2.2.1 e2.2.2.2 h2
          exact ⟨v, q1, q2, q3⟩
        · rw [uI_ne (by omega), if_neg (fun q => hij ((nI_eq (by omega) (by omega)).mp q).symm)]
          exact hS i hi
