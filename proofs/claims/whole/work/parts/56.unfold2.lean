/-! unfold: the loop over the values -/
section UNFOLD2
variable {N j n : Nat} {P : Nat → Nat} {I : PI} {L : PL}
theorem offs_s {v w : Nat} (hN : 20000 ≤ N) (hv : v ≤ 999) (hw : w ≤ 9) (hD : RD I) (r : RSet I j n P) : ∃ x : Nat, x ≤ 8 ∧ f_X8_manyToldOff N (nI j) (nI v) (nI w) I L = some (some (.int (nI x)), I, L) ∧ f_X12_offs N (nI j) (nI v) (nI w) I L = some (some (.int (nI x)), I, L) := by
  obtain ⟨x, h1, h2, h3, -⟩ := offsLp (N := N) (L := L) hv hw hD r 8 N 0 0 rfl (by omega) (by omega)
  refine ⟨x, h1, ?_, ?_⟩
  · unfold f_X8_manyToldOff
    exact h2
  · unfold f_X12_offs
    exact h3 (by omega) N (by omega)
theorem unfA {a b w : Nat} (hN : 20000 ≤ N) (ha : a ≤ 999) (hb : b ≤ 8) (hw : w ≤ 9) (hD : RD I) (r : RSet I j n P) : ∀ (t k l i c : Nat) (R : Int32), i + t = a + 1 → t < k → t < l → c ≤ i → ∃ q : Int32, F_X8_unfolded_6 N k (nI j) (nI a) (nI b) (nI w) (-1) (nI c) (nI i) I L = some (some (.int q), I, L) ∧ F_X12_unfold_69 N l (nI j) (nI a) (nI b) (nI w) (-1) (nI c) R (nI i) I L = some (some (.int q), I, L) := by
  intro t
  induction t with
  | zero =>
    intro k l i c R hi hk hl hc
    obtain ⟨k, rfl⟩ : ∃ q, k = q + 1 := ⟨k - 1, by omega⟩
    obtain ⟨l, rfl⟩ : ∃ q, l = q + 1 := ⟨l - 1, by omega⟩
    refine ⟨nI c, ?_, ?_⟩
    · rw [F_X8_unfolded_6, if_pos (nI_lt (by omega) (by omega)), if_pos rfl]
    · rw [F_X12_unfold_69, if_pos (nI_lt (by omega) (by omega)), if_pos rfl]
  | succ t ih =>
    intro k l i c R hi hk hl hc
    obtain ⟨k, rfl⟩ : ∃ q, k = q + 1 := ⟨k - 1, by omega⟩
    obtain ⟨l, rfl⟩ : ∃ q, l = q + 1 := ⟨l - 1, by omega⟩
    obtain ⟨x, h1, h2, h3⟩ := offs_s (L := L) hN (by omega : i ≤ 999) hw hD r
    rw [F_X8_unfolded_6, if_neg (nI_nlt (by omega) (by omega)), h2, bI_s, F_X12_unfold_69, if_neg (nI_nlt (by omega) (by omega)), h3, bI_s, if_neg (m_ne' (by omega)), if_neg (m_ne' (by omega)), nI_1, nI_1]
    by_cases hx : x ≤ b
    · rw [if_pos (nI_le hx (by omega)), if_neg (nI_nlt hx (by omega))]
      exact ih k l (i + 1) (c + 1) R (by omega) (by omega) (by omega) (by omega)
    · rw [if_neg (nI_ge (by omega) (by omega)), if_pos (nI_lt (by omega) (by omega))]
      exact ih k l (i + 1) c R (by omega) (by omega) (by omega) (by omega)
theorem unfB {a b w W : Nat} (hN : 20000 ≤ N) (ha : a ≤ 999) (hb : b ≤ 8) (hw : w ≤ 9) (hW : W < 2 ^ 31) (hD : RD I) (r : RSet I j n P) (R : Int32) : ∀ (t l i c : Nat), i + t = a + 1 → t < l → c ≤ i → W < c → F_X12_unfold_69 N l (nI j) (nI a) (nI b) (nI w) (nI W) (nI c) R (nI i) I L = some (some (.int R), I, L) := by
  intro t
  induction t with
  | zero =>
    intro l i c hi hl hc hc2
    obtain ⟨l, rfl⟩ : ∃ q, l = q + 1 := ⟨l - 1, by omega⟩
    rw [F_X12_unfold_69, if_pos (nI_lt (by omega) (by omega)), if_neg (m_ne' hW)]
  | succ t ih =>
    intro l i c hi hl hc hc2
    obtain ⟨l, rfl⟩ : ∃ q, l = q + 1 := ⟨l - 1, by omega⟩
    obtain ⟨x, h1, h2, h3⟩ := offs_s (L := L) hN (by omega : i ≤ 999) hw hD r
    have hne : ¬ nI c = nI W := fun q => by have := (nI_eq (by omega) hW).mp q; omega
    rw [F_X12_unfold_69, if_neg (nI_nlt (by omega) (by omega)), h3, bI_s, nI_1, nI_1, if_neg hne]
    by_cases hx : x ≤ b
    · rw [if_neg (nI_nlt hx (by omega))]
      exact ih l (i + 1) (c + 1) (by omega) (by omega) (by omega) (by omega)
    · rw [if_pos (nI_lt (by omega) (by omega))]
      exact ih l (i + 1) c (by omega) (by omega) (by omega) (by omega)
theorem unfC {a b w W : Nat} (hN : 20000 ≤ N) (ha : a ≤ 999) (hb : b ≤ 8) (hw : w ≤ 9) (hW : W < 2 ^ 31) (hD : RD I) (r : RSet I j n P) : ∀ (t k l i c : Nat), i + t = a + 1 → t < k → t < l → c ≤ i → c ≤ W → ∃ q : Int32, F_X8_unfolded_6 N k (nI j) (nI a) (nI b) (nI w) (nI W) (nI c) (nI i) I L = some (some (.int q), I, L) ∧ F_X12_unfold_69 N l (nI j) (nI a) (nI b) (nI w) (nI W) (nI c) (-1) (nI i) I L = some (some (.int q), I, L) := by
  intro t
  induction t with
  | zero =>
    intro k l i c hi hk hl hc hc2
    obtain ⟨k, rfl⟩ : ∃ q, k = q + 1 := ⟨k - 1, by omega⟩
    obtain ⟨l, rfl⟩ : ∃ q, l = q + 1 := ⟨l - 1, by omega⟩
    refine ⟨-1, ?_, ?_⟩
    · rw [F_X8_unfolded_6, if_pos (nI_lt (by omega) (by omega)), if_neg (m_ne' hW)]
    · rw [F_X12_unfold_69, if_pos (nI_lt (by omega) (by omega)), if_neg (m_ne' hW)]
  | succ t ih =>
    intro k l i c hi hk hl hc hc2
    obtain ⟨k, rfl⟩ : ∃ q, k = q + 1 := ⟨k - 1, by omega⟩
    obtain ⟨l, rfl⟩ : ∃ q, l = q + 1 := ⟨l - 1, by omega⟩
    obtain ⟨x, h1, h2, h3⟩ := offs_s (L := L) hN (by omega : i ≤ 999) hw hD r
    rw [F_X8_unfolded_6, if_neg (nI_nlt (by omega) (by omega)), h2, bI_s, F_X12_unfold_69, if_neg (nI_nlt (by omega) (by omega)), h3, bI_s, nI_1, nI_1]
    by_cases hx : x ≤ b
    · rw [if_pos (nI_le hx (by omega)), if_neg (nI_nlt hx (by omega))]
      by_cases hcw : c = W
      · subst hcw
        rw [if_pos rfl, if_pos rfl]
        exact ⟨nI i, rfl, unfB hN ha hb hw hW hD r (nI i) t l (i + 1) (c + 1) (by omega) (by omega) (by omega) (by omega)⟩
      · have hne : ¬ nI c = nI W := fun q => hcw ((nI_eq (by omega) hW).mp q)
        rw [if_neg hne, if_neg hne]
        exact ih k l (i + 1) (c + 1) (by omega) (by omega) (by omega) (by omega) (by omega)
    · rw [if_neg (nI_ge (by omega) (by omega)), if_pos (nI_lt (by omega) (by omega))]
      exact ih k l (i + 1) c (by omega) (by omega) (by omega) (by omega) hc2
end UNFOLD2
theorem case_unfold {X : PI → Prop} {N : Nat} (hN : 20000 ≤ N) (a1 a2 a3 a4 a5 : Int32) : CaseI (Inv X) (f_X11_unfold N a1 a2 a3 a4 a5) (f_X12_unfold N a1 a2 a3 a4 a5) := by
  intro I L hI
  have hI0 := hI
  obtain ⟨-, hS, -, hR, hD, -⟩ := hI
  obtain ⟨m, r1, r2, r3, r4⟩ := hR.set
  have key : ∀ v : Int32, f_X11_unfold N a1 a2 a3 a4 a5 I L = some (some (.int v), I, L) → f_X12_unfold N a1 a2 a3 a4 a5 I L = some (some (.int v), I, L) → ∃ (x : Int32) (I1 : PI) (L1 : PL) (I2 : PI) (L2 : PL), f_X11_unfold N a1 a2 a3 a4 a5 I L = some (some (.int x), I1, L1) ∧ f_X12_unfold N a1 a2 a3 a4 a5 I1 L1 = some (some (.int x), I2, L2) ∧ Inv X I2 L2 := fun v h1 h2 => ⟨v, I, L, I, L, h1, h2, hI0⟩
  have eC := f_X11_unfold.eq_1 N a1 a2 a3 a4 a5 I L
  have eM := f_X12_unfold.eq_1 N a1 a2 a3 a4 a5 I L
  rw [has8_s r1 r2, bI_s] at eC
  rw [isSet_s r3, bI_s] at eM
  cases hq : hz a1 m with
  | false =>
    rw [ifz_f hq] at eC eM
    exact key _ eC eM
  | true =>
    rw [ifz_t hq, within_s, bI_s] at eC
    rw [ifz_t hq, in_s, bI_s] at eM
    cases hw : wi a2 0 999 with
    | false =>
      rw [ifz_f hw] at eC eM
      exact key _ eC eM
    | true =>
      rw [ifz_t hw, within_s, bI_s] at eC
      rw [ifz_t hw, in_s, bI_s] at eM
      cases hu : wi a3 0 8 with
      | false =>
        rw [ifz_f hu] at eC eM
        exact key _ eC eM
      | true =>
        rw [ifz_t hu, within_s, bI_s] at eC
        rw [ifz_t hu, in_s, bI_s] at eM
        cases ht : wi a4 0 9 with
        | false =>
          rw [ifz_f ht] at eC eM
          exact key _ eC eM
        | true =>
          rw [ifz_t ht] at eC eM
          obtain ⟨j, hj, rfl⟩ := (hz_iff (by omega)).mp hq
          obtain ⟨a, ha, rfl⟩ := wi_nat (n := 999) rfl (by omega) hw
          obtain ⟨b, hb, rfl⟩ := wi_nat (n := 8) rfl (by omega) hu
          obtain ⟨w, hw9, rfl⟩ := wi_nat (n := 9) rfl (by omega) ht
          obtain ⟨n, P, r⟩ := r4 j hj
          by_cases h5 : (-1 : Int32) ≤ a5
          · rw [if_pos h5] at eC eM
            obtain ⟨q, f1, f2⟩ := fitLp (N := N) (L := L) hD r 8 N N 0 rfl (by omega) (by omega)
            have g1 : f_X8_readingsFit N (nI j) I L = some (some (.int (bif q then 1 else 0)), I, L) := by unfold f_X8_readingsFit; exact f1
            have g2 : f_X12_areReadings N (nI j) I L = some (some (.int (bif q then 1 else 0)), I, L) := by unfold f_X12_areReadings; exact f2
            rw [g1, bI_s] at eC
            rw [g2, bI_s] at eM
            cases q with
            | false =>
              rw [ifz_f rfl] at eC eM
              exact key _ eC eM
            | true =>
              rw [ifz_t rfl] at eC eM
              unfold f_X8_unfolded at eC
              have hcase : a5 = -1 ∨ ∃ W : Nat, W < 2 ^ 31 ∧ a5 = nI W := by
                by_cases h6 : a5 = -1
                · exact Or.inl h6
                · right
                  apply nI_of
                  intro q
                  apply h6
                  rw [Int32.le_iff_toInt_le, m_toInt] at h5
                  rw [Int32.lt_iff_toInt_lt, Int32.toInt_zero] at q
                  apply Int32.toInt_inj.mp
                  rw [m_toInt]
                  omega
              rcases hcase with rfl | ⟨W, hW, rfl⟩
              · obtain ⟨x, u1, u2⟩ := unfA (L := L) hN ha hb hw9 hD r (a + 1) N N 0 0 (-1) (by omega) (by omega) (by omega) (by omega)
                exact key x (eC.trans ((congrArg (fun o => bI o _) u1).trans bI_s)) (eM.trans u2)
              · obtain ⟨x, u1, u2⟩ := unfC (L := L) hN ha hb hw9 hW hD r (a + 1) N N 0 0 (by omega) (by omega) (by omega) (by omega) (by omega)
                exact key x (eC.trans ((congrArg (fun o => bI o _) u1).trans bI_s)) (eM.trans u2)
          · rw [if_neg h5] at eC eM
            exact key _ eC eM
