/-! calls whose answers are read off the relations: count, end, set, read, rest, at -/
theorem swT_P {P : RES → Prop} {lo : Int} {os : List RES} {od : RES} {x : Int32} (h : ∀ o ∈ os, P o) (hd : P od) : P (swT lo os od x) := by
  unfold swT
  by_cases h1 : x.toInt < lo
  · rw [if_pos h1]; exact hd
  · rw [if_neg h1]
    cases hj : os[(x.toInt - lo).toNat]? with
    | none => exact hd
    | some o => exact h o (List.mem_of_getElem? hj)
theorem size2_s {N : Nat} {I : PI} {L : PL} {p n : Nat} (hp : p < 31) (h1 : I 2 4 = nI p) (h2 : I 31 p = nI n) : f_X2_size N I L = some (some (.int (nI n)), I, L) := by
  unfold f_X2_size
  have e1 : (31 : Int32) = nI 31 := rfl
  rw [h1, if_neg (nI_pos (by omega)), e1, if_neg (nI_ge hp (by omega)), inb_nI hp (by omega), gd_t, nI_clamp (by omega), h2]
theorem has2_s {N : Nat} {I : PI} {L : PL} {p n : Nat} {a : Int32} (hp : p < 31) (hn : n ≤ 40) (h1 : I 2 4 = nI p) (h2 : I 31 p = nI n) : f_X2_has N a I L = some (some (.int (bif wi a 0 (nI n - 1) then 1 else 0)), I, L) := by
  unfold f_X2_has
  rw [k0, k1, size2_s hp h1 h2, bI_s, gd_t, gd_t]
  cases hw : wi a 0 (nI n - 1) with
  | true =>
    have h3 := (has_iff (a := a) (n := n) (by omega)).mpr ((wi_pred (by omega)).mp hw)
    rw [if_neg h3.1, if_neg h3.2]; rfl
  | false =>
    by_cases h3 : a < 0
    · rw [if_pos h3]; rfl
    · rw [if_neg h3]
      by_cases h4 : nI n ≤ a
      · rw [if_pos h4]; rfl
      · have h5 := (wi_pred (a := a) (n := n) (by omega)).mpr ((has_iff (by omega)).mp ⟨h3, h4⟩)
        rw [hw] at h5
        cases h5
theorem value2_s {N : Nat} {I : PI} {L : PL} {p n j : Nat} (hp : p < 31) (hn : n ≤ 40) (hj : j < n) (h1 : I 2 4 = nI p) (h2 : I 31 p = nI n) : f_X2_value N (nI j) I L = some (some (.int (I 30 (40 * p + j))), I, L) := by
  unfold f_X2_value
  have e : nI p * 40 + nI j = nI (40 * p + j) := by
    rw [show (40 : Int32) = nI 40 from rfl, pk_mul, nI_add, Nat.mul_comm]
  rw [if_neg (nI_pos (by omega)), size2_s hp h1 h2, bI_s, if_neg (nI_ge hj (by omega)), h1, e, inb_nI (by omega) (by omega), gd_t, nI_clamp (by omega)]
theorem isCell_s {N : Nat} {I : PI} {L : PL} {n : Nat} {a : Int32} (h : I 55 0 = nI n) : f_X12_isCell N a I L = some (some (.int (bif wi a 0 (nI n - 1) then 1 else 0)), I, L) := by
  unfold f_X12_isCell
  have e0 : Int32.toNatClampNeg 0 = 0 := by decide +kernel
  have e1 : inb 0 41 = true := by decide +kernel
  rw [e0, e1, gd_t, h, in_s, bI_s, kb, gd_t]
/-- the laws: how many there are, in both -/
def XL (X : PI → Prop) : Prop := ∀ I : PI, X I → ∃ m : Nat, m ≤ 6 ∧ I 7 4 = nI m ∧ I 12 13 = nI m
theorem case_count {X : PI → Prop} (hXL : XL X) (N : Nat) (a1 : Int32) : CaseI (Inv X) (f_X11_count N a1) (f_X12_count N a1) := by
  intro I L hI
  have hI0 := hI
  obtain ⟨⟨tn, t1, t2, t3, -⟩, -, ⟨cm, c1, c2, c3, -⟩, ⟨rm, r1, r2, r3, -⟩, -, ⟨em, e1, e2, e3, -⟩, ⟨p, u, g, z1, z2, z3, z4, z5, z6, z7, ⟨zn, s1, s2, s3, -⟩, -⟩, hx⟩ := hI
  obtain ⟨lm, l1, l2, l3⟩ := hXL I hx
  have w1 : Int32.toNatClampNeg 0 = 0 := by decide +kernel
  have w2 : inb 0 41 = true := by decide +kernel
  have hC : f_X11_count N a1 I L = swT 0 [some (some (.int (nI cm)), I, L), some (some (.int (nI lm)), I, L), some (some (.int (nI rm)), I, L), some (some (.int (nI tn)), I, L), some (some (.int (nI zn)), I, L), some (some (.int (nI em)), I, L), some (some (.int (nI u)), I, L), some (some (.int (nI g)), I, L)] (some (some (.int (-1000000 : Int32)), I, L)) a1 := by
    unfold f_X11_count
    rw [size2_s z1 z3 s2, bI_s, c2, l2, r2, t2, e2, z4, z6]
  have hM : f_X12_count N a1 I L = swT 0 [some (some (.int (nI cm)), I, L), some (some (.int (nI lm)), I, L), some (some (.int (nI rm)), I, L), some (some (.int (nI tn)), I, L), some (some (.int (nI zn)), I, L), some (some (.int (nI em)), I, L), some (some (.int (nI u)), I, L), some (some (.int (nI g)), I, L)] (some (some (.int (-1000000 : Int32)), I, L)) a1 := by
    unfold f_X12_count
    rw [w1, w2, gd_t, c3, l3, r3, t3, s3, e3, z5, z7]
  obtain ⟨x, hx⟩ : ∃ x : Int32, f_X11_count N a1 I L = some (some (.int x), I, L) := by
    rw [hC]
    refine swT_P (P := fun o => ∃ x : Int32, o = some (some (.int x), I, L)) ?_ ⟨_, rfl⟩
    intro o ho
    simp only [List.mem_cons, List.not_mem_nil, or_false] at ho
    rcases ho with rfl | rfl | rfl | rfl | rfl | rfl | rfl | rfl <;> exact ⟨_, rfl⟩
  exact ⟨x, I, L, I, L, hx, by rw [hM, ← hC]; exact hx, hI0⟩
theorem case_at {X : PI → Prop} (N : Nat) (a1 : Int32) : CaseI (Inv X) (f_X11_at N a1) (f_X12_at N a1) := by
  intro I L hI
  have hI0 := hI
  obtain ⟨-, -, -, -, -, -, ⟨p, u, g, z1, z2, z3, z4, z5, z6, z7, ⟨zn, s1, s2, s3, s4⟩, -⟩, -⟩ := hI
  have hC : f_X11_at N a1 I L = bI (some (some (.int (bif wi a1 0 (nI zn - 1) then 1 else 0)), I, L)) (fun x1 I2 L3 => (if x1 = 0 then some (some (.int (-1 : Int32)), I2, L3) else bI (f_X2_value N a1 I2 L3) (fun x4 I5 L6 => some (some (.int x4), I5, L6)))) := by
    unfold f_X11_at
    rw [has2_s z1 s1 z3 s2]
  have hM : f_X12_at N a1 I L = bI (some (some (.int (bif wi a1 0 (nI zn - 1) then 1 else 0)), I, L)) (fun x1 I2 L3 => (if x1 = 0 then some (some (.int (-1 : Int32)), I2, L3) else gd (inb (a1 + 1) 41) (some (some (.int (I2 55 (Int32.toNatClampNeg (a1 + 1)))), I2, L3)))) := by
    unfold f_X12_at
    rw [isCell_s s3]
  rw [bI_s] at hC hM
  cases hw : wi a1 0 (nI zn - 1) with
  | false =>
    rw [hw] at hC hM
    exact ⟨-1, I, L, I, L, hC, hM, hI0⟩
  | true =>
    rw [hw] at hC hM
    obtain ⟨j, hj, rfl⟩ := (wi_pred (by omega)).mp hw
    obtain ⟨q1, v, q2, q3⟩ := s4 j hj
    rw [cond_true, if_neg ne_10, value2_s z1 s1 hj z3 s2, bI_s] at hC
    rw [cond_true, if_neg ne_10, nI_1, inb_nI (by omega) (by omega), gd_t, nI_clamp (by omega)] at hM
    refine ⟨I 30 (40 * p + j), I, L, I, L, hC, ?_, hI0⟩
    rw [hM, q1, show 0 + 1 + j = j + 1 by omega]
theorem case_end {X : PI → Prop} (hX : Xok X) (N : Nat) (a1 : Int32) : CaseI (Inv X) (f_X11_end N a1) (f_X12_end N a1) := by
  intro I L hI
  have hI0 := hI
  obtain ⟨⟨n, t1, t2, t3, t4⟩, -⟩ := hI
  by_cases h1 : a1 < 0
  · refine ⟨0, I, L, I, L, ?_, ?_, hI0⟩
    · unfold f_X11_end f_X10_cutTo
      rw [if_pos h1, k0, gd_t, bI_s]; rfl
    · unfold f_X12_end
      rw [if_pos h1, k0, gd_t]
  · by_cases h2 : a1 ≤ nI n
    · obtain ⟨j, hj, rfl⟩ := nI_of h1
      rw [nI_leI hj (by omega)] at h2
      have h2' : nI j ≤ nI n := nI_le h2 (by omega)
      have e1 : (uI I 10 1 (nI j)) 12 2 = nI n := by rw [uI_ne (by omega)]; exact t3
      refine ⟨1, uI I 10 1 (nI j), L, uI (uI I 10 1 (nI j)) 12 2 (nI j), L, ?_, ?_, ?_⟩
      · unfold f_X11_end f_X10_cutTo
        rw [if_neg h1, t2, if_pos h2', nmW_s, k1, gd_t, bI_s]; rfl
      · unfold f_X12_end
        rw [if_neg h1, e1, if_pos h2', nmW_s, k1, gd_t]
      · refine Inv.mkT hX ((Kp.rf.up (Or.inl ⟨rfl, rfl⟩)).up (Or.inr (Or.inl ⟨rfl, rfl⟩))) ⟨j, by omega, ?_, uI_eq, fun k hk => ?_⟩ hI0
        · rw [uI_ne (by omega), uI_eq]
        · rw [uI_ne (by omega), uI_ne (by omega), uI_ne (by omega), uI_ne (by omega)]
          exact t4 k (by omega)
    · refine ⟨0, I, L, I, L, ?_, ?_, hI0⟩
      · unfold f_X11_end f_X10_cutTo
        rw [if_neg h1, t2, if_neg h2, k0, gd_t, bI_s]; rfl
      · unfold f_X12_end
        rw [if_neg h1, t3, if_neg h2, k0, gd_t]
