/-! ghosts -/
section GHOSTS
variable {N j n : Nat} {P : Nat → Nat} {I : PI} {L : PL}
theorem ghostLp {x y v : Nat} (hx : x ≤ 999) (hy : y ≤ 999) (hv : v ≤ 999) (r : RSet I j n P) : ∀ (t k l i : Nat), i + t = n → t < k → t < l → ∃ q : Bool, F_X8_isGhost_3 N k (nI j) (nI x) (nI y) (nI v) (nI i) I L = some (some (.int (bif q then 1 else 0)), I, L) ∧ F_X12_isGhost_3 N l (nI j) (nI x) (nI y) (nI v) (nI i) I L = some (some (.int (bif (q && !decide (v = x) && !decide (v = y)) then 1 else 0)), I, L) := by
  have r' := r
  obtain ⟨⟨q, q1, q2, q3, q4⟩, h1, h2, h3, h4, h5⟩ := r'
  intro t
  induction t with
  | zero =>
    intro k l i hi hk hl
    obtain ⟨k, rfl⟩ : ∃ q, k = q + 1 := ⟨k - 1, by omega⟩
    obtain ⟨l, rfl⟩ : ∃ q, l = q + 1 := ⟨l - 1, by omega⟩
    refine ⟨true, ?_, ?_⟩
    · rw [F_X8_isGhost_3, r.len, bI_s, if_pos (nI_le (by omega) (by omega)), k1, gd_t]; rfl
    · rw [F_X12_isGhost_3, gd_in (by omega) (by omega), nI_clamp (by omega), h4, if_pos (nI_le (by omega) (by omega)), k0, k1, gd_t, gd_t]
      by_cases e1 : v = x
      · rw [if_pos (by rw [e1]), decide_eq_true e1]; rfl
      · rw [if_neg (fun q => e1 ((nI_eq (by omega) (by omega)).mp q)), decide_eq_false e1]
        by_cases e2 : v = y
        · rw [if_pos (by rw [e2]), decide_eq_true e2]; rfl
        · rw [if_neg (fun q => e2 ((nI_eq (by omega) (by omega)).mp q)), decide_eq_false e2]; rfl
  | succ t ih =>
    intro k l i hi hk hl
    obtain ⟨k, rfl⟩ : ∃ q, k = q + 1 := ⟨k - 1, by omega⟩
    obtain ⟨l, rfl⟩ : ∃ q, l = q + 1 := ⟨l - 1, by omega⟩
    obtain ⟨p1, p2, -, p4⟩ := h5 i (by omega)
    have m1 : v % P i < P i := Nat.mod_lt _ (by omega)
    have m2 : x % P i < P i := Nat.mod_lt _ (by omega)
    have m3 : y % P i < P i := Nat.mod_lt _ (by omega)
    have e8 : (8 : Int32) * nI j + nI i = nI (8 * j + i) := by rw [show (8 : Int32) = nI 8 from rfl, pk_mul, nI_add]
    obtain ⟨q', f1, f2⟩ := ih k l (i + 1) (by omega) (by omega) (by omega)
    rw [F_X8_isGhost_3, r.len, bI_s, if_neg (nI_ge (by omega) (by omega)), r.num (by omega : i < n), bI_s, rem8_s (by omega) (by omega) (by omega), bI_s, rem8_s (by omega) (by omega) (by omega), bI_s, rem8_s (by omega) (by omega) (by omega), bI_s, nI_1]
    rw [F_X12_isGhost_3, gd_in (by omega) (by omega), nI_clamp (by omega), h4, if_neg (nI_ge (by omega) (by omega)), e8, gd_in (by omega) (by omega), nI_clamp (by omega), p4, nmI_s, gd_ne (by omega) (by omega), gd_ne (by omega) (by omega), gd_ne (by omega) (by omega), gd_ne (by omega) (by omega), jirem_n (by omega) (by omega) (by omega), jirem_n (by omega) (by omega) (by omega), jirem_n (by omega) (by omega) (by omega), nI_1]
    by_cases e1 : nI (v % P i) = nI (x % P i)
    · rw [if_pos e1, if_pos e1]
      exact ⟨q', f1, f2⟩
    · rw [if_neg e1, if_neg e1]
      by_cases e2 : nI (v % P i) = nI (y % P i)
      · rw [if_pos e2, if_pos e2]
        exact ⟨q', f1, f2⟩
      · rw [if_neg e2, if_neg e2, k0, gd_t]
        exact ⟨false, rfl, rfl⟩
theorem ghostsLp {x y a : Nat} (hN : 20000 ≤ N) (hx : x ≤ 999) (hy : y ≤ 999) (ha : a ≤ 999) (r : RSet I j n P) : ∀ (t k l i c : Nat), i + t = a + 1 → t < k → t < l → ∃ q : Int32, F_X8_ghostsOf_6 N k (nI j) (nI x) (nI y) (nI a) (nI c) (nI i) I L = some (some (.int q), I, L) ∧ F_X12_ghosts_50 N l (nI j) (nI x) (nI y) (nI a) (nI c) (nI i) I L = some (some (.int q), I, L) := by
  have h2 := r.2.2.1
  intro t
  induction t with
  | zero =>
    intro k l i c hi hk hl
    obtain ⟨k, rfl⟩ : ∃ q, k = q + 1 := ⟨k - 1, by omega⟩
    obtain ⟨l, rfl⟩ : ∃ q, l = q + 1 := ⟨l - 1, by omega⟩
    refine ⟨nI c, ?_, ?_⟩
    · rw [F_X8_ghostsOf_6, if_pos (nI_lt (by omega) (by omega))]
    · rw [F_X12_ghosts_50, if_pos (nI_lt (by omega) (by omega))]
  | succ t ih =>
    intro k l i c hi hk hl
    obtain ⟨k, rfl⟩ : ∃ q, k = q + 1 := ⟨k - 1, by omega⟩
    obtain ⟨l, rfl⟩ : ∃ q, l = q + 1 := ⟨l - 1, by omega⟩
    obtain ⟨q, f1, f2⟩ := ghostLp (N := N) (L := L) (v := i) hx hy (by omega) r n N N 0 (by omega) (by omega) (by omega)
    have g1 : f_X8_isGhost N (nI j) (nI x) (nI y) (nI i) I L = some (some (.int (bif q then 1 else 0)), I, L) := by unfold f_X8_isGhost; exact f1
    have g2 : f_X12_isGhost N (nI j) (nI x) (nI y) (nI i) I L = some (some (.int (bif (q && !decide (i = x) && !decide (i = y)) then 1 else 0)), I, L) := by unfold f_X12_isGhost; exact f2
    have h0 := ih k l (i + 1) c (by omega) (by omega) (by omega)
    have h1 := ih k l (i + 1) (c + 1) (by omega) (by omega) (by omega)
    rw [F_X8_ghostsOf_6, if_neg (nI_nlt (by omega) (by omega)), F_X12_ghosts_50, if_neg (nI_nlt (by omega) (by omega)), g1, g2, bI_s, bI_s, nmI_s, nmI_s, nI_1, nI_1, show (0 : Int32) = nI 0 from rfl, nI_add, Nat.add_zero]
    by_cases e1 : i = x
    · rw [if_pos (by rw [e1]), decide_eq_true e1, Bool.not_true, Bool.and_false, Bool.false_and, cond_false]
      exact h0
    · rw [if_neg (fun q => e1 ((nI_eq (by omega) (by omega)).mp q)), decide_eq_false e1, Bool.not_false, Bool.and_true]
      by_cases e2 : i = y
      · rw [if_pos (by rw [e2]), decide_eq_true e2, Bool.not_true, Bool.and_false, cond_false]
        exact h0
      · rw [if_neg (fun q => e2 ((nI_eq (by omega) (by omega)).mp q)), decide_eq_false e2, Bool.not_false, Bool.and_true]
        cases q with
        | false => exact h0
        | true => exact h1
end GHOSTS
theorem case_ghosts {X : PI → Prop} {N : Nat} (hN : 20000 ≤ N) (a1 a2 a3 a4 : Int32) : CaseI (Inv X) (f_X11_ghosts N a1 a2 a3 a4) (f_X12_ghosts N a1 a2 a3 a4) := by
  intro I L hI
  have hI0 := hI
  obtain ⟨-, hS, -, hR, -⟩ := hI
  obtain ⟨m, r1, r2, r3, r4⟩ := hR.set
  cases hq : hz a1 m with
  | false =>
    refine ⟨-1, I, L, I, L, ?_, ?_, hI0⟩
    · unfold f_X11_ghosts
      rw [has8_s r1 r2, bI_s, ifz_f hq]
    · unfold f_X12_ghosts
      rw [isSet_s r3, bI_s, ifz_f hq]
  | true =>
    cases hw : wi a2 0 999 with
    | false =>
      refine ⟨-1, I, L, I, L, ?_, ?_, hI0⟩
      · unfold f_X11_ghosts
        rw [has8_s r1 r2, bI_s, ifz_t hq, within_s, bI_s, ifz_f hw]
      · unfold f_X12_ghosts
        rw [isSet_s r3, bI_s, ifz_t hq, in_s, bI_s, ifz_f hw]
    | true =>
      cases hu : wi a3 0 999 with
      | false =>
        refine ⟨-1, I, L, I, L, ?_, ?_, hI0⟩
        · unfold f_X11_ghosts
          rw [has8_s r1 r2, bI_s, ifz_t hq, within_s, bI_s, ifz_t hw, within_s, bI_s, ifz_f hu]
        · unfold f_X12_ghosts
          rw [isSet_s r3, bI_s, ifz_t hq, in_s, bI_s, ifz_t hw, in_s, bI_s, ifz_f hu]
      | true =>
        cases ht : wi a4 0 999 with
        | false =>
          refine ⟨-1, I, L, I, L, ?_, ?_, hI0⟩
          · unfold f_X11_ghosts
            rw [has8_s r1 r2, bI_s, ifz_t hq, within_s, bI_s, ifz_t hw, within_s, bI_s, ifz_t hu, within_s, bI_s, ifz_f ht]
          · unfold f_X12_ghosts
            rw [isSet_s r3, bI_s, ifz_t hq, in_s, bI_s, ifz_t hw, in_s, bI_s, ifz_t hu, in_s, bI_s, ifz_f ht]
        | true =>
          obtain ⟨j, hj, rfl⟩ := (hz_iff (by omega)).mp hq
          obtain ⟨x, hx, rfl⟩ := wi_nat (n := 999) rfl (by omega) hw
          obtain ⟨y, hy, rfl⟩ := wi_nat (n := 999) rfl (by omega) hu
          obtain ⟨a, ha, rfl⟩ := wi_nat (n := 999) rfl (by omega) ht
          obtain ⟨n, P, r⟩ := r4 j hj
          obtain ⟨q, f1, f2⟩ := ghostsLp (L := L) hN hx hy ha r (a + 1) N N 0 0 (by omega) (by omega) (by omega)
          refine ⟨q, I, L, I, L, ?_, ?_, hI0⟩
          · unfold f_X11_ghosts f_X8_ghostsOf
            rw [has8_s r1 r2, bI_s, ifz_t hq, within_s, bI_s, ifz_t hw, within_s, bI_s, ifz_t hu, within_s, bI_s, ifz_t ht]
            refine (congrArg (fun o => bI o _) f1).trans ?_
            rw [bI_s]
          · unfold f_X12_ghosts
            rw [isSet_s r3, bI_s, ifz_t hq, in_s, bI_s, ifz_t hw, in_s, bI_s, ifz_t hu, in_s, bI_s, ifz_t ht]
            exact f2
