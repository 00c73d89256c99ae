/-! pure tools: names, guards, ranges, what a change leaves as it was -/
theorem k1 : (decide ((1 : Nat) &&& 1 = 1)) = true := by decide +kernel
theorem k0 : (decide ((0 : Nat) &&& 1 = 0)) = true := by decide +kernel
/-- an answer of true or false is 0 or 1 -/
theorem kb (b : Bool) : (decide ((bif b then (1 : Int32) else 0) &&& 1 = (bif b then (1 : Int32) else 0))) = true := by cases b <;> decide +kernel
theorem kz (b : Bool) : ((bif b then (1 : Int32) else 0) = 0) ↔ b = false := by cases b <;> decide
theorem uI_eq {I : PI} {c j : Nat} {v : Int32} : uI I c j v c j = v := by rw [uI_c, upd, if_pos rfl]
theorem uI_ne {I : PI} {c j a k : Nat} {v : Int32} (h : ¬ (a = c ∧ k = j)) : uI I c j v a k = I a k := by
  by_cases ha : a = c
  · subst ha
    rw [uI_c, upd, if_neg (fun q => h ⟨rfl, q⟩)]
  · rw [uI_o ha]
theorem uL_eq {L : PL} {c j : Nat} {v : Int64} : uL L c j v c j = v := by rw [uL_c, vp_updL, if_pos rfl]
theorem uL_ne {L : PL} {c j a k : Nat} {v : Int64} (h : ¬ (a = c ∧ k = j)) : uL L c j v a k = L a k := by
  by_cases ha : a = c
  · subst ha
    rw [uL_c, vp_updL, if_neg (fun q => h ⟨rfl, q⟩)]
  · rw [uL_o ha]
/-- I' is I but on F -/
def Kp (F : Nat → Nat → Prop) (I I' : PI) : Prop := ∀ a k, ¬ F a k → I' a k = I a k
theorem Kp.rf {F : Nat → Nat → Prop} {I : PI} : Kp F I I := fun _ _ _ => rfl
theorem Kp.tr {F : Nat → Nat → Prop} {I J K : PI} (h1 : Kp F I J) (h2 : Kp F J K) : Kp F I K := fun a k h => (h2 a k h).trans (h1 a k h)
theorem Kp.up {F : Nat → Nat → Prop} {I J : PI} {c j : Nat} {v : Int32} (h1 : Kp F I J) (h : F c j) : Kp F I (uI J c j v) := fun a k hn => (uI_ne (fun q => hn (by rw [q.1, q.2]; exact h))).trans (h1 a k hn)
theorem Kp.mono {F G : Nat → Nat → Prop} {I J : PI} (h : Kp F I J) (hFG : ∀ a k, F a k → G a k) : Kp G I J := fun a k hn => h a k (fun q => hn (hFG a k q))
def wi (a lo hi : Int32) : Bool := decide (lo ≤ a) && decide (a ≤ hi)
theorem i32_nlt {a b : Int32} : ¬ a < b ↔ b ≤ a := by
  rw [Int32.lt_iff_toInt_lt, Int32.le_iff_toInt_le]; omega
theorem i32_nle {a b : Int32} : ¬ a ≤ b ↔ b < a := by
  rw [Int32.lt_iff_toInt_lt, Int32.le_iff_toInt_le]; omega
theorem within_s {N : Nat} {a lo hi : Int32} {I : PI} {L : PL} : f_X11_within N a lo hi I L = some (some (.int (bif wi a lo hi then 1 else 0)), I, L) := by
  unfold f_X11_within wi
  rw [k0, k1, gd_t, gd_t]
  by_cases h1 : a < lo
  · rw [if_pos h1, decide_eq_false (fun h => absurd h (i32_nle.mpr h1))]; rfl
  · rw [if_neg h1, decide_eq_true (i32_nlt.mp h1)]
    by_cases h2 : hi < a
    · rw [if_pos h2, decide_eq_false (fun h => absurd h (i32_nle.mpr h2))]; rfl
    · rw [if_neg h2, decide_eq_true (i32_nlt.mp h2)]; rfl
theorem in_s {N : Nat} {a lo hi : Int32} {I : PI} {L : PL} : f_X12_in N a lo hi I L = some (some (.int (bif wi a lo hi then 1 else 0)), I, L) := within_s (N := N)
theorem wi_t {a lo hi : Int32} (h : wi a lo hi = true) : lo ≤ a ∧ a ≤ hi := by
  unfold wi at h
  rw [Bool.and_eq_true, decide_eq_true_eq, decide_eq_true_eq] at h
  exact h
theorem wi_f {a lo hi : Int32} (h : wi a lo hi = false) : ¬ (lo ≤ a ∧ a ≤ hi) := by
  intro q
  unfold wi at h
  rw [decide_eq_true q.1, decide_eq_true q.2] at h
  cases h
/-- within 0 .. n: a number of its own -/
theorem wi_nat {a hi : Int32} {n : Nat} (hn : hi = nI n) (hs : n < 2 ^ 31) (h : wi a 0 hi = true) : ∃ j, j ≤ n ∧ a = nI j := by
  obtain ⟨h1, h2⟩ := wi_t h
  obtain ⟨j, hj, rfl⟩ := nI_of (x := a) (i32_nlt.mpr h1)
  rw [hn, nI_leI hj hs] at h2
  exact ⟨j, h2, rfl⟩
/-- within lo .. hi, both told -/
theorem wi_nat2 {a lo hi : Int32} {m n : Nat} (hm : lo = nI m) (hn : hi = nI n) (hms : m < 2 ^ 31) (hs : n < 2 ^ 31) (h : wi a lo hi = true) : ∃ j, m ≤ j ∧ j ≤ n ∧ a = nI j := by
  obtain ⟨h1, h2⟩ := wi_t h
  have h0 : ¬ a < 0 := by
    rw [hm, Int32.le_iff_toInt_le, nI_toInt hms] at h1
    intro q
    rw [Int32.lt_iff_toInt_lt, Int32.toInt_zero] at q
    omega
  obtain ⟨j, hj, rfl⟩ := nI_of h0
  rw [hn, nI_leI hj hs] at h2
  rw [hm, nI_leI hms hj] at h1
  exact ⟨j, h1, h2, rfl⟩
theorem wi_pred {a : Int32} {n : Nat} (hs : n < 2 ^ 31) : wi a 0 (nI n - 1) = true ↔ ∃ j, j < n ∧ a = nI j := by
  cases n with
  | zero =>
    constructor
    · intro h
      obtain ⟨h1, h2⟩ := wi_t h
      exfalso
      rw [Int32.le_iff_toInt_le] at h1 h2
      have e1 : (nI 0 - 1).toInt = -1 := by decide +kernel
      rw [e1] at h2
      rw [Int32.toInt_zero] at h1
      omega
    · rintro ⟨j, hj, -⟩
      omega
  | succ n =>
    rw [nI_pred]
    constructor
    · intro h
      obtain ⟨j, h1, h2⟩ := wi_nat rfl (by omega) h
      exact ⟨j, by omega, h2⟩
    · rintro ⟨j, hj, rfl⟩
      unfold wi
      rw [decide_eq_true (nI_pos' (by omega)), decide_eq_true ((nI_leI (by omega) (by omega)).mpr (by omega))]
      rfl
theorem has_iff {a : Int32} {n : Nat} (hs : n < 2 ^ 31) : (¬ a < 0 ∧ ¬ nI n ≤ a) ↔ ∃ j, j < n ∧ a = nI j := by
  constructor
  · rintro ⟨h1, h2⟩
    obtain ⟨j, hj, rfl⟩ := nI_of h1
    rw [nI_leI hs hj] at h2
    exact ⟨j, by omega, rfl⟩
  · rintro ⟨j, hj, rfl⟩
    exact ⟨nI_pos (by omega), nI_ge hj hs⟩
theorem ne_10 : ¬ (1 : Int32) = 0 := by decide
