/-! one joined with another, in both -/
section LAWP
variable {N : Nat} {L : PL}
theorem lc_lt {a b : Int32} : (0 ≤ lg_cmp (Int32.toInt64 a) (Int32.toInt64 b)) ↔ b ≤ a := by
  unfold lg_cmp
  rw [show (b ≤ a) ↔ b.toInt ≤ a.toInt from Int32.le_iff_toInt_le]
  by_cases h : Int32.toInt64 a > Int32.toInt64 b
  · rw [if_pos h]
    rw [gt_iff_lt, Int64.lt_iff_toInt_lt, Int32.toInt_toInt64, Int32.toInt_toInt64] at h
    exact ⟨fun _ => by omega, fun _ => by decide⟩
  · rw [if_neg h]
    rw [gt_iff_lt, Int64.lt_iff_toInt_lt, Int32.toInt_toInt64, Int32.toInt_toInt64] at h
    by_cases h2 : Int32.toInt64 a = Int32.toInt64 b
    · rw [if_pos h2]
      have h3 : (Int32.toInt64 a).toInt = (Int32.toInt64 b).toInt := by rw [h2]
      rw [Int32.toInt_toInt64, Int32.toInt_toInt64] at h3
      exact ⟨fun _ => by omega, fun _ => by decide⟩
    · rw [if_neg h2]
      refine ⟨fun q => absurd q (by decide), fun q => absurd ?_ h2⟩
      have h3 : a.toInt = b.toInt := by omega
      rw [Int32.toInt_inj.mp h3]
theorem lc_gt {a b : Int32} : (lg_cmp (Int32.toInt64 a) (Int32.toInt64 b) ≤ 0) ↔ a ≤ b := by
  unfold lg_cmp
  rw [show (a ≤ b) ↔ a.toInt ≤ b.toInt from Int32.le_iff_toInt_le]
  by_cases h : Int32.toInt64 a > Int32.toInt64 b
  · rw [if_pos h]
    rw [gt_iff_lt, Int64.lt_iff_toInt_lt, Int32.toInt_toInt64, Int32.toInt_toInt64] at h
    exact ⟨fun q => absurd q (by decide), fun _ => by omega⟩
  · rw [if_neg h]
    rw [gt_iff_lt, Int64.lt_iff_toInt_lt, Int32.toInt_toInt64, Int32.toInt_toInt64] at h
    by_cases h2 : Int32.toInt64 a = Int32.toInt64 b
    · rw [if_pos h2]
      exact ⟨fun _ => by omega, fun _ => by decide⟩
    · rw [if_neg h2]
      exact ⟨fun _ => by omega, fun _ => by decide⟩
theorem lc_eq {a b : Int32} : (lg_cmp (Int32.toInt64 a) (Int32.toInt64 b) = 0) ↔ a = b := by
  constructor
  · intro h
    have h1 := (lc_lt (a := a) (b := b)).mp (by rw [h]; decide)
    have h2 := (lc_gt (a := a) (b := b)).mp (by rw [h]; decide)
    rw [Int32.le_iff_toInt_le] at h1 h2
    exact Int32.toInt_inj.mp (by omega)
  · rintro rfl
    exact cmp_refl _
theorem lc_0 {a : Int32} : (lg_cmp (Int32.toInt64 a) 0 = 0) ↔ a = 0 := by
  have := lc_eq (a := a) (b := 0)
  exact this
theorem held_s {x : Int64} {I : PI} : f_X7_held N x 1000000 I L = some (some (.int (holdL x)), I, L) := by
  unfold f_X7_held holdL
  rw [show Int32.toInt64 (-1000000) = -1000000 by decide +kernel, show Int32.toInt64 1000000 = 1000000 by decide +kernel]
theorem bounded_s {x : Int64} {I : PI} : f_X12_bounded N x I L = some (some (.int (holdL x)), I, L) := rfl
theorem i64_0 {b : Int32} (h : b ≠ 0) : ¬ Int32.toInt64 b = 0 := fun q => h (lc_0.mp (by rw [q]; exact cmp_refl 0))
theorem and01 {a b : Int32} (ha : b01 a = true) (hb : b01 b = true) : a &&& b = if a = 0 then 0 else if b = 0 then 0 else 1 := by
  rcases b01_or ha with rfl | rfl <;> rcases b01_or hb with rfl | rfl <;> decide +kernel
theorem or01 {a b : Int32} (ha : b01 a = true) (hb : b01 b = true) : a ||| b = if a = 0 then (if b = 0 then 0 else 1) else 1 := by
  rcases b01_or ha with rfl | rfl <;> rcases b01_or hb with rfl | rfl <;> decide +kernel
theorem worked_2 {a b : Int32} {I : PI} : f_X12_worked N (nI 2) (Int32.toInt64 a) (Int32.toInt64 b) I L = some (some (.int (opL 2 a b)), I, L) := by
  show bI (f_X12_bounded N (Int32.toInt64 a + Int32.toInt64 b) I L) (fun x1 I2 L3 => some (some (.int x1), I2, L3)) = _
  rw [bounded_s, bI_s]; rfl
theorem worked_3 {a b : Int32} {I : PI} : f_X12_worked N (nI 3) (Int32.toInt64 a) (Int32.toInt64 b) I L = some (some (.int (opL 3 a b)), I, L) := by
  show bI (f_X12_bounded N (Int32.toInt64 a - Int32.toInt64 b) I L) (fun x1 I2 L3 => some (some (.int x1), I2, L3)) = _
  rw [bounded_s, bI_s]; rfl
theorem worked_4 {a b : Int32} {I : PI} : f_X12_worked N (nI 4) (Int32.toInt64 a) (Int32.toInt64 b) I L = some (some (.int (opL 4 a b)), I, L) := by
  show bI (f_X12_bounded N (Int32.toInt64 a * Int32.toInt64 b) I L) (fun x1 I2 L3 => some (some (.int x1), I2, L3)) = _
  rw [bounded_s, bI_s]; rfl
theorem worked_5 {a b : Int32} {I : PI} : f_X12_worked N (nI 5) (Int32.toInt64 a) (Int32.toInt64 b) I L = some (some (.int (opL 5 a b)), I, L) := by
  show ((if (lg_cmp (Int32.toInt64 b) 0) = 0 then some (some (.int 0), I, L) else gd (decide (¬ Int32.toInt64 b = 0)) (bI (f_X12_bounded N (Int32.toInt64 a / Int32.toInt64 b) I L) (fun x10 I11 L12 => some (some (.int x10), I11, L12)))) : RES) = some (some (.int (if b = 0 then 0 else holdL (Int32.toInt64 a / Int32.toInt64 b))), I, L)
  by_cases h : b = 0
  · rw [if_pos (lc_0.mpr h), if_pos h]
  · rw [if_neg (fun q => h (lc_0.mp q)), if_neg h, decide_eq_true (i64_0 h), gd_t, bounded_s, bI_s]
theorem worked_6 {a b : Int32} {I : PI} : f_X12_worked N (nI 6) (Int32.toInt64 a) (Int32.toInt64 b) I L = some (some (.int (opL 6 a b)), I, L) := by
  show ((if (lg_cmp (Int32.toInt64 a) (Int32.toInt64 b)) = 0 then some (some (.int 1), I, L) else some (some (.int 0), I, L)) : RES) = some (some (.int (if a = b then 1 else 0)), I, L)
  by_cases h : a = b
  · rw [if_pos (lc_eq.mpr h), if_pos h]
  · rw [if_neg (fun q => h (lc_eq.mp q)), if_neg h]
theorem worked_7 {a b : Int32} {I : PI} : f_X12_worked N (nI 7) (Int32.toInt64 a) (Int32.toInt64 b) I L = some (some (.int (opL 7 a b)), I, L) := by
  show ((if 0 ≤ (lg_cmp (Int32.toInt64 a) (Int32.toInt64 b)) then some (some (.int 0), I, L) else some (some (.int 1), I, L)) : RES) = some (some (.int (if b ≤ a then 0 else 1)), I, L)
  by_cases h : b ≤ a
  · rw [if_pos (lc_lt.mpr h), if_pos h]
  · rw [if_neg (fun q => h (lc_lt.mp q)), if_neg h]
theorem worked_8 {a b : Int32} {I : PI} : f_X12_worked N (nI 8) (Int32.toInt64 a) (Int32.toInt64 b) I L = some (some (.int (opL 8 a b)), I, L) := by
  show ((if (lg_cmp (Int32.toInt64 a) (Int32.toInt64 b)) ≤ 0 then some (some (.int 0), I, L) else some (some (.int 1), I, L)) : RES) = some (some (.int (if a ≤ b then 0 else 1)), I, L)
  by_cases h : a ≤ b
  · rw [if_pos (lc_gt.mpr h), if_pos h]
  · rw [if_neg (fun q => h (lc_gt.mp q)), if_neg h]
theorem swT_at {lo : Int} {os : List RES} {od o : RES} {x : Int32} (h1 : ¬ x.toInt < lo) (h2 : os[(x.toInt - lo).toNat]? = some o) : swT lo os od x = o := by
  unfold swT
  rw [if_neg h1, h2]
  rfl
theorem w10 {x y : Int64} {I : PI} : f_X12_worked N (nI 10) x y I L = (if (lg_cmp x 0) = 0 then some (some (.int 0), I, L) else (if (lg_cmp y 0) = 0 then some (some (.int 0), I, L) else some (some (.int 1), I, L))) := by
  unfold f_X12_worked
  exact swT_at (by decide) rfl
theorem opL_10 {a b : Int32} : opL 10 a b = a &&& b := by
  unfold opL
  rw [if_neg (by decide), if_neg (by decide), if_neg (by decide), if_neg (by decide), if_neg (by decide), if_neg (by decide), if_neg (by decide), if_pos (by decide)]
theorem worked_10 {a b : Int32} {I : PI} (hl : b01 a = true ∧ b01 b = true) : f_X12_worked N (nI 10) (Int32.toInt64 a) (Int32.toInt64 b) I L = some (some (.int (opL 10 a b)), I, L) := by
  rw [w10, opL_10]
  obtain ⟨ha, hb⟩ := hl
  rw [and01 ha hb]
  by_cases h : a = 0
  · rw [if_pos (lc_0.mpr h), if_pos h]
  · rw [if_neg (fun q => h (lc_0.mp q)), if_neg h]
    by_cases h2 : b = 0
    · rw [if_pos (lc_0.mpr h2), if_pos h2]
    · rw [if_neg (fun q => h2 (lc_0.mp q)), if_neg h2]
theorem worked_11 {a b : Int32} {I : PI} (hl : b01 a = true ∧ b01 b = true) : f_X12_worked N (nI 11) (Int32.toInt64 a) (Int32.toInt64 b) I L = some (some (.int (opL 11 a b)), I, L) := by
  show F_X12_worked_144 N (Int32.toInt64 a) (Int32.toInt64 b) I L = some (some (.int (a ||| b)), I, L)
  unfold F_X12_worked_144 F_X12_worked_156
  obtain ⟨ha, hb⟩ := hl
  rw [or01 ha hb]
  by_cases h : a = 0
  · rw [if_pos (lc_0.mpr h), if_pos h]
    by_cases h2 : b = 0
    · rw [if_pos (lc_0.mpr h2), if_pos h2]
    · rw [if_neg (fun q => h2 (lc_0.mp q)), if_neg h2]
  · rw [if_neg (fun q => h (lc_0.mp q)), if_neg h]
theorem worked_s {k : Nat} {a b : Int32} {I : PI} (hk : 2 ≤ k) (hk2 : k ≤ 11) (h9 : k ≠ 9) (hl : 9 < k → b01 a = true ∧ b01 b = true) : f_X12_worked N (nI k) (Int32.toInt64 a) (Int32.toInt64 b) I L = some (some (.int (opL k a b)), I, L) := by
  have hc : k = 2 ∨ k = 3 ∨ k = 4 ∨ k = 5 ∨ k = 6 ∨ k = 7 ∨ k = 8 ∨ k = 10 ∨ k = 11 := by omega
  rcases hc with rfl | rfl | rfl | rfl | rfl | rfl | rfl | rfl | rfl
  · exact worked_2
  · exact worked_3
  · exact worked_4
  · exact worked_5
  · exact worked_6
  · exact worked_7
  · exact worked_8
  · exact worked_10 (hl (by omega))
  · exact worked_11 (hl (by omega))
theorem joined_s {k : Nat} {a b : Int32} {I : PI} (hk : 2 ≤ k) (hk2 : k ≤ 11) (h9 : k ≠ 9) : f_X7_joined N (nI (chT (k, 0))) a b I L = some (some (.int (opL k a b)), I, L) := by
  have hc : k = 2 ∨ k = 3 ∨ k = 4 ∨ k = 5 ∨ k = 6 ∨ k = 7 ∨ k = 8 ∨ k = 10 ∨ k = 11 := by omega
  rcases hc with rfl | rfl | rfl | rfl | rfl | rfl | rfl | rfl | rfl
  · show bI (f_X7_held N (Int32.toInt64 a + Int32.toInt64 b) 1000000 I L) (fun x4 I5 L6 => some (some (.int x4), I5, L6)) = _
    rw [held_s, bI_s]; rfl
  · show bI (f_X7_held N (Int32.toInt64 a - Int32.toInt64 b) 1000000 I L) (fun x4 I5 L6 => some (some (.int x4), I5, L6)) = _
    rw [held_s, bI_s]; rfl
  · show bI (f_X7_held N (Int32.toInt64 a * Int32.toInt64 b) 1000000 I L) (fun x4 I5 L6 => some (some (.int x4), I5, L6)) = _
    rw [held_s, bI_s]; rfl
  · show ((if b = 0 then some (some (.int 0), I, L) else gd (decide (¬ (Int32.toInt64 b) = 0)) (bI (f_X7_held N ((Int32.toInt64 a) / (Int32.toInt64 b)) 1000000 I L) (fun x10 I11 L12 => some (some (.int x10), I11, L12)))) : RES) = some (some (.int (if b = 0 then 0 else holdL (Int32.toInt64 a / Int32.toInt64 b))), I, L)
    by_cases h : b = 0
    · rw [if_pos h, if_pos h]
    · rw [if_neg h, if_neg h, decide_eq_true (i64_0 h), gd_t, held_s, bI_s]
  · show ((if a = b then some (some (.int 1), I, L) else some (some (.int 0), I, L)) : RES) = some (some (.int (if a = b then 1 else 0)), I, L)
    by_cases h : a = b
    · rw [if_pos h, if_pos h]
    · rw [if_neg h, if_neg h]
  · show ((if b ≤ a then some (some (.int 0), I, L) else some (some (.int 1), I, L)) : RES) = some (some (.int (if b ≤ a then 0 else 1)), I, L)
    by_cases h : b ≤ a
    · rw [if_pos h, if_pos h]
    · rw [if_neg h, if_neg h]
  · show ((if a ≤ b then some (some (.int 0), I, L) else some (some (.int 1), I, L)) : RES) = some (some (.int (if a ≤ b then 0 else 1)), I, L)
    by_cases h : a ≤ b
    · rw [if_pos h, if_pos h]
    · rw [if_neg h, if_neg h]
  · rfl
  · rfl
end LAWP
