/-! cancel: 32 runs, each counted out -/
def chP : Nat → Int32 → Int32 → Int64 → Int32 → Option Int64
  | 0, _, _, _, _ => none
  | n + 1, v0, v1, v2, v4 => if v1 < v4 then some v2 else if Int32.toInt64 v4 = 0 then none else chP n v0 v1 ((v2 * (Int32.toInt64 ((v0 - v1) + v4))) / (Int32.toInt64 v4)) (v4 + 1)
theorem chP_s {N : Nat} {v0 v1 : Int32} : ∀ (n m : Nat) (v2 : Int64) (v4 : Int32) (I : PI) (L : PL) (x : Int64), n ≤ m → chP n v0 v1 v2 v4 = some x → F_X12_choose_5 N m v0 v1 v2 v4 I L = some (some (.long x), I, L) := by
  intro n
  induction n with
  | zero =>
    intro m v2 v4 I L x hm h
    rw [chP] at h
    cases h
  | succ n ih =>
    intro m v2 v4 I L x hm h
    obtain ⟨m, rfl⟩ : ∃ k, m = k + 1 := ⟨m - 1, by omega⟩
    rw [chP] at h
    rw [F_X12_choose_5]
    by_cases h1 : v1 < v4
    · rw [if_pos h1] at h ⊢
      cases h
      rfl
    · rw [if_neg h1] at h ⊢
      by_cases h2 : Int32.toInt64 v4 = 0
      · rw [if_pos h2] at h
        cases h
      · rw [if_neg h2] at h
        have h3 : ¬ Int32.toInt64 v4 = 0 := h2
        rw [decide_eq_true h3, gd_t, nmJ_s]
        exact ih m _ _ I L x (by omega) h
def partV (a b : Int32) : Int32 := if b = 0 then (if a &&& 3 = 1 then 1 else if a &&& 3 = 3 then -1 else 0) else (if a &&& 3 = 0 then 1 else if a &&& 3 = 2 then -1 else 0)
theorem partV_s {N : Nat} {a b : Int32} {I : PI} {L : PL} : f_X12_partOf N a b I L = some (some (.int (partV a b)), I, L) := by
  unfold f_X12_partOf partV
  rw [nmI_s]
  by_cases h : b = 0
  · rw [if_pos h, if_pos h]
    by_cases h1 : a &&& 3 = 1
    · rw [if_pos h1, if_pos h1]
    · rw [if_neg h1, if_neg h1]
      by_cases h2 : a &&& 3 = 3
      · rw [if_pos h2, if_pos h2]
      · rw [if_neg h2, if_neg h2]
  · rw [if_neg h, if_neg h]
    by_cases h1 : a &&& 3 = 0
    · rw [if_pos h1, if_pos h1]
    · rw [if_neg h1, if_neg h1]
      by_cases h2 : a &&& 3 = 2
      · rw [if_pos h2, if_pos h2]
      · rw [if_neg h2, if_neg h2]
def cnP (v1 v2 : Int32) : Nat → Int32 → Int32 → Int32 → Option Int32
  | 0, _, _, _ => none
  | n + 1, v3, v4, v5 => if v1 < v5 then some ((v3 * v3) + (v4 * v4)) else
    match chP 20 v1 v5 1 1 with
    | none => none
    | some c => cnP v1 v2 n (v3 + Int64.toInt32 c * partV ((2 * v5) + (v2 * v5)) 1) (v4 + Int64.toInt32 c * partV ((2 * v5) + (v2 * v5)) 0) (v5 + 1)
theorem cnP_s {N : Nat} (hN : 20000 ≤ N) {v1 v2 : Int32} : ∀ (n m : Nat) (v3 v4 v5 : Int32) (I : PI) (L : PL) (x : Int32), n ≤ m → cnP v1 v2 n v3 v4 v5 = some x → F_X12_cancel_29 N m v1 v2 v3 v4 v5 I L = some (some (.int x), I, L) := by
  intro n
  induction n with
  | zero =>
    intro m v3 v4 v5 I L x hm h
    rw [cnP] at h
    cases h
  | succ n ih =>
    intro m v3 v4 v5 I L x hm h
    obtain ⟨m, rfl⟩ : ∃ k, m = k + 1 := ⟨m - 1, by omega⟩
    rw [cnP] at h
    rw [F_X12_cancel_29]
    by_cases h1 : v1 < v5
    · rw [if_pos h1] at h ⊢
      cases h
      rfl
    · rw [if_neg h1] at h ⊢
      cases hc : chP 20 v1 v5 1 1 with
      | none =>
        rw [hc] at h
        cases h
      | some c =>
        rw [hc] at h
        have e : f_X12_choose N v1 v5 I L = some (some (.long c), I, L) := by
          unfold f_X12_choose
          exact chP_s 20 N 1 1 I L c (by omega) hc
        rw [e, bJ_s, nmI_s, partV_s, bI_s, nmI_s, partV_s, bI_s, nmI_s]
        exact ih m _ _ _ I L x (by omega) h
def cnE (a b : Int32) : Int32 := if b = 0 then 0 else if b = 2 then (1 : Int32) <<< ((2 * a) &&& 31) else (1 : Int32) <<< (a &&& 31)
theorem cn_all : ∀ a : Nat, a < 9 → 1 ≤ a → ∀ b : Nat, b < 4 → cnP (nI a) (nI b) 12 0 0 0 = some (cnE (nI a) (nI b)) := by decide +kernel
theorem case_cancel {X : PI → Prop} {N : Nat} (hN : 20000 ≤ N) (a1 a2 : Int32) : CaseI (Inv X) (f_X11_cancel N a1 a2) (f_X12_cancel N a1 a2) := by
  intro I L hI
  cases h1 : wi a1 1 8 with
  | false =>
    refine ⟨-1, I, L, I, L, ?_, ?_, hI⟩
    · unfold f_X11_cancel
      rw [within_s, bI_s, ifz_f h1]
    · unfold f_X12_cancel
      rw [in_s, bI_s, ifz_f h1]
  | true =>
    cases h2 : wi a2 0 3 with
    | false =>
      refine ⟨-1, I, L, I, L, ?_, ?_, hI⟩
      · unfold f_X11_cancel
        rw [within_s, bI_s, ifz_t h1, within_s, bI_s, ifz_f h2]
      · unfold f_X12_cancel
        rw [in_s, bI_s, ifz_t h1, in_s, bI_s, ifz_f h2]
    | true =>
      obtain ⟨a, g1, g2, rfl⟩ := wi_nat2 (m := 1) (n := 8) rfl rfl (by omega) (by omega) h1
      obtain ⟨b, g3, rfl⟩ := wi_nat (n := 3) rfl (by omega) h2
      refine ⟨cnE (nI a) (nI b), I, L, I, L, ?_, ?_, hI⟩
      · unfold f_X11_cancel cnE
        rw [within_s, bI_s, ifz_t h1, within_s, bI_s, ifz_t h2]
        by_cases h3 : nI b = 0
        · rw [if_pos h3, if_pos h3]
        · rw [if_neg h3, if_neg h3]
          by_cases h4 : nI b = 2
          · rw [if_pos h4, if_pos h4]
          · rw [if_neg h4, if_neg h4]
      · unfold f_X12_cancel
        rw [in_s, bI_s, ifz_t h1, in_s, bI_s, ifz_t h2]
        exact cnP_s hN 12 N 0 0 0 I L _ (by omega) (cn_all a (by omega) g1 b (by omega))
