/-! shares of false alarms -/
def powJ : Nat → Int64 → Int64 → Int64
  | 0, _, v => v
  | k + 1, b, v => powJ k b (v * b)
def chC : Nat → Int32 → Int32 → Int64 → Int32 → Option Int64
  | 0, _, _, _, _ => none
  | n + 1, v0, v1, v2, v4 => if v1 < v4 then some v2 else if Int32.toInt64 v4 = 0 then none else chC n v0 v1 ((v2 * (Int32.toInt64 ((v0 - v4) + 1))) / (Int32.toInt64 v4)) (v4 + 1)
theorem chC_s {N : Nat} {v0 v1 : Int32} : ∀ (n m : Nat) (v2 : Int64) (v4 : Int32) (I : PI) (L : PL) (x : Int64), n ≤ m → chC n v0 v1 v2 v4 = some x → F_X9_choices_5 N m v0 v1 v2 v4 I L = some (some (.long x), I, L) := by
  intro n
  induction n with
  | zero =>
    intro m v2 v4 I L x hm h
    rw [chC] at h
    cases h
  | succ n ih =>
    intro m v2 v4 I L x hm h
    obtain ⟨m, rfl⟩ : ∃ k, m = k + 1 := ⟨m - 1, by omega⟩
    rw [chC] at h
    rw [F_X9_choices_5]
    by_cases h1 : v1 < v4
    · rw [if_pos h1] at h ⊢
      cases h
      rfl
    · rw [if_neg h1] at h ⊢
      by_cases h2 : Int32.toInt64 v4 = 0
      · rw [if_pos h2] at h
        cases h
      · rw [if_neg h2] at h
        have h3 : ¬ Int32.toInt64 v4 = 0 := h2
        rw [decide_eq_true h3, gd_t, nmJ_s]
        exact ih m _ _ I L x (by omega) h
def ch (m k : Nat) : Int64 := (chP 20 (nI m) (nI k) 1 1).getD 0
theorem ch_all : ∀ m : Nat, m < 9 → ∀ k : Nat, k < m + 1 → chC 20 (nI m) (nI k) 1 1 = some (ch m k) ∧ chP 20 (nI m) (nI k) 1 1 = some (ch m k) := by decide +kernel
def pwP (m l : Nat) : Int64 := powJ (m + 1) (nI l).toInt64 1
theorem pw_all : ∀ m : Nat, m < 9 → ∀ l : Nat, l < 10 → 1 ≤ l → ¬ lg_cmp (pwP m l) 0 ≤ 0 ∧ ¬ pwP m l = 0 := by decide +kernel
def upJ (m l t : Nat) : Nat → Int64 → Nat → Int64
  | 0, a, _ => a
  | s + 1, a, j => upJ m l t s (a + ch m j * powJ j (nI (t + 1)).toInt64 1 * powJ (m - j) (nI (l - 1 - t)).toInt64 1) (j + 1)
def upU (m l o t : Nat) : Int64 := upJ m l t (m + 1 - o) 0 o
def prU (m l o : Nat) : Nat → Int64
  | 0 => 0
  | t + 1 => upU m l o t
def rwJ (m l o t : Nat) : Int64 := upU m l o t - prU m l o t
def abv (l f t : Nat) : Nat := cnt (fun x => decide (f * t < 10 * x)) l
def sumJ (g : Nat → Int64) : Nat → Int64
  | 0 => 0
  | n + 1 => sumJ g n + g n
def rowsV (m l o f : Nat) : Int64 := sumJ (fun t => rwJ m l o t * (nI (abv l f t)).toInt64) l
def partsV (m l o f : Nat) : Int64 := (1000000 * rowsV m l o f) / pwP m l
theorem abv_e {l f t : Nat} : abv l f t = l - 1 - f * t / 10 := by
  unfold abv
  have : ∀ n, cnt (fun x => decide (f * t < 10 * x)) n = n - 1 - f * t / 10 := by
    intro n
    induction n with
    | zero => show 0 = _; omega
    | succ n ih =>
      rw [cnt_s, ih]
      by_cases h : f * t < 10 * n
      · rw [decide_eq_true h, cond_true]; omega
      · rw [decide_eq_false h, cond_false]; omega
  exact this l
theorem jmax0 {a b : Nat} (ha : a < 2 ^ 30) (hb : b < 2 ^ 30) : jmax 0 (nI a - nI b) = nI (a - b) := by
  unfold jmax
  by_cases h : b < a
  · rw [nsub (by omega), if_pos (show (0 : Int32) < nI (a - b) from nI_lt (a := 0) (by omega) (by omega))]
  · by_cases h2 : a = b
    · rw [h2, nsub (Nat.le_refl b), Nat.sub_self]
      rfl
    · have h3 := pk_sneg hb (show a < b by omega)
      rw [if_neg (fun q => by
        rw [Int32.lt_iff_toInt_lt, Int32.toInt_zero] at q h3
        omega), show a - b = 0 by omega]
      rfl
section SHARE
variable {N m l o f : Nat} {I : PI} {L : PL}
theorem pow12Lp {b : Int64} {e : Nat} (he : e < 2 ^ 31) : ∀ (t k i : Nat) (v : Int64), i + t = e → t < k → F_X12_power_5 N k b (nI e) v (nI i) I L = some (some (.long (powJ t b v)), I, L) := by
  intro t
  induction t with
  | zero =>
    intro k i v hi hk
    obtain ⟨k, rfl⟩ : ∃ q, k = q + 1 := ⟨k - 1, by omega⟩
    rw [F_X12_power_5, if_pos (nI_le (by omega) (by omega))]
    rfl
  | succ t ih =>
    intro k i v hi hk
    obtain ⟨k, rfl⟩ : ∃ q, k = q + 1 := ⟨k - 1, by omega⟩
    rw [F_X12_power_5, if_neg (nI_ge (by omega) (by omega)), nmJ_s, nI_1]
    exact ih k (i + 1) (v * b) (by omega) (by omega)
theorem pow12_s {b : Int64} {e : Nat} (hN : 20000 ≤ N) (he : e ≤ 9) : f_X12_power N b (nI e) I L = some (some (.long (powJ e b 1)), I, L) := pow12Lp (N := N) (by omega) e N 0 1 (by omega) (by omega)
theorem pow9Lp {b : Int32} {e : Nat} (he : e < 2 ^ 31) : ∀ (t k i : Nat) (v : Int64), i + t = e → t < k → F_X9_power_5 N k b (nI e) v (nI i) I L = some (some (.long (powJ t b.toInt64 v)), I, L) := by
  intro t
  induction t with
  | zero =>
    intro k i v hi hk
    obtain ⟨k, rfl⟩ : ∃ q, k = q + 1 := ⟨k - 1, by omega⟩
    rw [F_X9_power_5, if_pos (nI_le (by omega) (by omega))]
    rfl
  | succ t ih =>
    intro k i v hi hk
    obtain ⟨k, rfl⟩ : ∃ q, k = q + 1 := ⟨k - 1, by omega⟩
    rw [F_X9_power_5, if_neg (nI_ge (by omega) (by omega)), nmJ_s, nI_1]
    exact ih k (i + 1) (v * b.toInt64) (by omega) (by omega)
theorem pow9_s {b : Int32} {e : Nat} (hN : 20000 ≤ N) (he : e ≤ 9) : f_X9_power N b (nI e) I L = some (some (.long (powJ e b.toInt64 1)), I, L) := pow9Lp (N := N) (by omega) e N 0 1 (by omega) (by omega)
theorem choices_s {k : Nat} (hN : 20000 ≤ N) (hm : m ≤ 8) (hk : k ≤ m) : f_X9_choices N (nI m) (nI k) I L = some (some (.long (ch m k)), I, L) := chC_s (N := N) 20 N 1 1 I L _ (by omega) (ch_all m (by omega) k (by omega)).1
theorem choose_s {k : Nat} (hN : 20000 ≤ N) (hm : m ≤ 8) (hk : k ≤ m) : f_X12_choose N (nI m) (nI k) I L = some (some (.long (ch m k)), I, L) := chP_s (N := N) 20 N 1 1 I L _ (by omega) (ch_all m (by omega) k (by omega)).2
theorem up9Lp {t : Nat} (hN : 20000 ≤ N) (hm : m ≤ 8) (hl : l ≤ 9) (ht : t < l) (h9 : I 9 1 = nI l) : ∀ (s k j : Nat) (a : Int64), j + s = m + 1 → s < k → F_X9_rowsUpTo_6 N k (nI m) (nI t) a (nI j) I L = some (some (.long (upJ m l t s a j)), I, L) := by
  intro s
  induction s with
  | zero =>
    intro k j a hj hk
    obtain ⟨k, rfl⟩ : ∃ q, k = q + 1 := ⟨k - 1, by omega⟩
    rw [F_X9_rowsUpTo_6, if_pos (nI_lt (by omega) (by omega))]
    rfl
  | succ s ih =>
    intro k j a hj hk
    obtain ⟨k, rfl⟩ : ∃ q, k = q + 1 := ⟨k - 1, by omega⟩
    rw [F_X9_rowsUpTo_6, if_neg (nI_nlt (by omega) (by omega)), choices_s hN hm (by omega), bJ_s, nI_1, pow9_s hN (by omega), bJ_s, h9, nsub1 (by omega), nsub (by omega), nsub (by omega), pow9_s hN (by omega), bJ_s, nmJ_s, nI_1]
    exact ih k (j + 1) _ (by omega) (by omega)
theorem up9_s {t : Nat} (hN : 20000 ≤ N) (hm : m ≤ 8) (ho : 1 ≤ o) (ho2 : o ≤ m) (hl : l ≤ 9) (ht : t < l) (h9 : I 9 1 = nI l) : f_X9_rowsUpTo N (nI m) (nI o) (nI t) I L = some (some (.long (upU m l o t)), I, L) := up9Lp (N := N) hN hm hl ht h9 (m + 1 - o) N o 0 (by omega) (by omega)
theorem up12Lp {t : Nat} (hN : 20000 ≤ N) (hm : m ≤ 8) (hl : l ≤ 9) (ht : t < l) : ∀ (s k j : Nat) (a : Int64), j + s = m + 1 → s < k → F_X12_upTo_6 N k (nI m) (nI l) (nI t) a (nI j) I L = some (some (.long (upJ m l t s a j)), I, L) := by
  intro s
  induction s with
  | zero =>
    intro k j a hj hk
    obtain ⟨k, rfl⟩ : ∃ q, k = q + 1 := ⟨k - 1, by omega⟩
    rw [F_X12_upTo_6, if_pos (nI_lt (by omega) (by omega))]
    rfl
  | succ s ih =>
    intro k j a hj hk
    obtain ⟨k, rfl⟩ : ∃ q, k = q + 1 := ⟨k - 1, by omega⟩
    rw [F_X12_upTo_6, if_neg (nI_nlt (by omega) (by omega)), choose_s hN hm (by omega), bJ_s, nI_1, pow12_s hN (by omega), bJ_s, nsub (b := t) (by omega), nsub1 (by omega), nsub (by omega), pow12_s hN (by omega), bJ_s, nmJ_s, nI_1, show l - t - 1 = l - 1 - t by omega]
    exact ih k (j + 1) _ (by omega) (by omega)
theorem up12_s {t : Nat} (hN : 20000 ≤ N) (hm : m ≤ 8) (ho : 1 ≤ o) (ho2 : o ≤ m) (hl : l ≤ 9) (ht : t < l) : f_X12_upTo N (nI m) (nI l) (nI o) (nI t) I L = some (some (.long (upU m l o t)), I, L) := up12Lp (N := N) hN hm hl ht (m + 1 - o) N o 0 (by omega) (by omega)
theorem learnLp (hN : 20000 ≤ N) (hm : m ≤ 8) (ho : 1 ≤ o) (ho2 : o ≤ m) (hl : l ≤ 9) (h9 : I 9 1 = nI l) : ∀ (s k i : Nat) (L : PL), i + s = l → s < k → (∀ t, t < i → L 34 t = rwJ m l o t) → ∃ M : PL, F_X9_learn_30 N k (nI m) (nI o) (prU m l o i) (nI i) I L = some (none, I, M) ∧ M 9 2 = L 9 2 ∧ ∀ t, t < l → M 34 t = rwJ m l o t := by
  intro s
  induction s with
  | zero =>
    intro k i L hi hk h
    obtain ⟨k, rfl⟩ : ∃ q, k = q + 1 := ⟨k - 1, by omega⟩
    rw [F_X9_learn_30, h9, if_pos (nI_le (by omega) (by omega))]
    exact ⟨L, rfl, rfl, fun t ht => h t (by omega)⟩
  | succ s ih =>
    intro k i L hi hk h
    obtain ⟨k, rfl⟩ : ∃ q, k = q + 1 := ⟨k - 1, by omega⟩
    obtain ⟨M, e1, e2, e3⟩ := ih k (i + 1) (uL L 34 i (rwJ m l o i)) (by omega) (by omega) (fun t ht => by
      by_cases e : t = i
      · rw [e, uL_eq]
      · rw [uL_ne (by omega)]; exact h t (by omega))
    rw [F_X9_learn_30, h9, if_neg (nI_ge (by omega) (by omega)), up9_s hN hm ho ho2 hl (by omega) h9, bJ_s, gd_in (by omega) (by omega), nI_clamp (by omega), nmY_s, nI_1]
    refine ⟨M, e1, ?_, e3⟩
    rw [e2, uL_ne (by omega)]
/-- what is learnt -/
def Lrn (m l o : Nat) (I : PI) (L : PL) : Prop := I 9 1 = nI l ∧ L 9 2 = pwP m l ∧ ∀ t, t < l → L 34 t = rwJ m l o t
theorem learn_s (hN : 20000 ≤ N) (hm : m ≤ 8) (ho : 1 ≤ o) (ho2 : o ≤ m) (hl : l ≤ 9) : ∃ M : PL, f_X9_learn N (nI m) (nI l) (nI o) I L = some (none, uI I 9 1 (nI l), M) ∧ Lrn m l o (uI I 9 1 (nI l)) M := by
  have h9 : (uI I 9 1 (nI l)) 9 1 = nI l := uI_eq
  obtain ⟨M, e1, e2, e3⟩ := learnLp (N := N) hN hm ho ho2 hl h9 l N 0 (uL L 9 2 (pwP m l)) (by omega) (by omega) (fun t ht => by omega)
  refine ⟨M, ?_, h9, by rw [e2, uL_eq], e3⟩
  unfold f_X9_learn
  rw [show (9 : Int32) = nI 9 from rfl, jmin_n (by omega) (by omega), Nat.min_eq_left hl, nmW_s, h9, nI_1, pow9_s hN (by omega), bJ_s, nmY_s]
  exact e1
theorem rowsLp (hl : l ≤ 9) (hf : f ≤ 99) (h : Lrn m l o I L) : ∀ (s k i : Nat), i + s = l → s < k → F_X9_rowsAbove_5 N k (nI f) (sumJ (fun t => rwJ m l o t * (nI (abv l f t)).toInt64) i) (nI i) I L = some (some (.long (rowsV m l o f)), I, L) := by
  obtain ⟨h1, h2, h3⟩ := h
  intro s
  induction s with
  | zero =>
    intro k i hi hk
    obtain ⟨k, rfl⟩ : ∃ q, k = q + 1 := ⟨k - 1, by omega⟩
    obtain rfl : i = l := by omega
    rw [F_X9_rowsAbove_5, h1, if_pos (nI_le (Nat.le_refl _) (by omega))]
    rfl
  | succ s ih =>
    intro k i hi hk
    obtain ⟨k, rfl⟩ : ∃ q, k = q + 1 := ⟨k - 1, by omega⟩
    have hb : f * i ≤ 99 * 9 := Nat.mul_le_mul hf (by omega)
    rw [F_X9_rowsAbove_5, h1, if_neg (nI_ge (by omega) (by omega)), decide_eq_true (by decide), gd_t, nsub1 (by omega), pk_mul, show (10 : Int32) = nI 10 from rfl, pk_div (by omega) (by omega) (by omega), jmax0 (by omega) (by omega), ← abv_e, nmI_s, gd_in (by omega) (by omega), nI_clamp (by omega), h3 i (by omega), nmJ_s, nI_1]
    exact ih k (i + 1) (by omega) (by omega)
theorem rows_s (hN : 20000 ≤ N) (hl : l ≤ 9) (hf : f ≤ 99) (h : Lrn m l o I L) : f_X9_rowsAbove N (nI f) I L = some (some (.long (rowsV m l o f)), I, L) := rowsLp (N := N) hl hf h l N 0 (by omega) (by omega)
theorem parts_s (hN : 20000 ≤ N) (hm : m ≤ 8) (hl1 : 1 ≤ l) (hl : l ≤ 9) (hf : f ≤ 99) (h : Lrn m l o I L) : f_X9_partsAbove N (nI f) I L = some (some (.long (partsV m l o f)), I, L) := by
  have hp := pw_all m (by omega) l (by omega) hl1
  unfold f_X9_partsAbove
  rw [h.2.1, if_neg hp.1, rows_s hN hl hf h, bJ_s, h.2.1, decide_eq_true hp.2, gd_t]
  rfl
theorem abvLp {t : Nat} {a5 : Int32} {v : Int64} {r : Int32 → Int32 → Int32 → Int32 → Int32 → Int64 → Int32 → PI → PL → RES} (hN : 20000 ≤ N) (hm : m ≤ 8) (ho : 1 ≤ o) (ho2 : o ≤ m) (hl : l ≤ 9) (hf : f ≤ 99) (ht : t < l) : ∀ (s k i : Nat), i + s = l → s < k → F_X12_share_72 N r k (nI m) (nI l) (nI o) (nI f) a5 v (nI t) (nI (cnt (fun x => decide (f * t < 10 * x)) i)) (nI i) I L = r (nI m) (nI l) (nI o) (nI f) a5 (v + rwJ m l o t * (nI (abv l f t)).toInt64) (nI (t + 1)) I L := by
  have hb : f * t ≤ 99 * 9 := Nat.mul_le_mul hf (by omega)
  intro s
  induction s with
  | zero =>
    intro k i hi hk
    obtain ⟨k, rfl⟩ : ∃ q, k = q + 1 := ⟨k - 1, by omega⟩
    obtain rfl : i = l := by omega
    have ea : cnt (fun x => decide (f * t < 10 * x)) i = abv i f t := rfl
    rw [F_X12_share_72, if_pos (nI_le (Nat.le_refl _) (by omega)), up12_s hN hm ho ho2 hl ht, bJ_s, ea]
    cases t with
    | zero =>
      rw [if_pos (show nI 0 = 0 from rfl)]
      unfold F_X12_share_139
      rw [nmJ_s, nI_1, Int64.mul_comm]
      rfl
    | succ t =>
      rw [if_neg (nI_ne0 (by omega) (by omega)), nI_pred, up12_s hN hm ho ho2 hl (by omega), bJ_s]
      unfold F_X12_share_139
      rw [nmJ_s, nI_1, Int64.mul_comm]
      rfl
  | succ s ih =>
    intro k i hi hk
    obtain ⟨k, rfl⟩ : ∃ q, k = q + 1 := ⟨k - 1, by omega⟩
    have e : cnt (fun x => decide (f * t < 10 * x)) (i + 1) = cnt (fun x => decide (f * t < 10 * x)) i + (bif decide (f * t < 10 * i) then 1 else 0) := rfl
    have h := ih k (i + 1) (by omega) (by omega)
    rw [F_X12_share_72, if_neg (nI_ge (by omega) (by omega)), show (10 : Int32) = nI 10 from rfl, pk_mul, pk_mul]
    by_cases hx : f * t < 10 * i
    · rw [decide_eq_true hx, cond_true] at e
      rw [if_neg (nI_ge hx (by omega)), nmI_s, nI_1, nI_1, ← e]
      exact h
    · rw [decide_eq_false hx, cond_false, Nat.add_zero (cnt (fun x => decide (f * t < 10 * x)) i)] at e
      rw [if_pos (nI_le (by omega) (by omega)), nmI_s, nI_1, Int32.add_zero, ← e]
      exact h
theorem share12Lp {a5 : Int32} (hN : 20000 ≤ N) (hm : m ≤ 8) (ho : 1 ≤ o) (ho2 : o ≤ m) (hl1 : 1 ≤ l) (hl : l ≤ 9) (hf : f ≤ 99) : ∀ (s k i : Nat), i + s = l → s < k → F_X12_share_60 N k (nI m) (nI l) (nI o) (nI f) a5 (sumJ (fun t => rwJ m l o t * (nI (abv l f t)).toInt64) i) (nI i) I L = some (some (.long (if a5 = 0 then rowsV m l o f else partsV m l o f)), I, L) := by
  intro s
  induction s with
  | zero =>
    intro k i hi hk
    obtain ⟨k, rfl⟩ : ∃ q, k = q + 1 := ⟨k - 1, by omega⟩
    obtain rfl : i = l := by omega
    have hp := pw_all m (by omega) i (by omega) hl1
    have er : sumJ (fun t => rwJ m i o t * (nI (abv i f t)).toInt64) i = rowsV m i o f := rfl
    have ep : powJ (m + 1) (nI i).toInt64 1 = pwP m i := rfl
    rw [F_X12_share_60, if_pos (nI_le (Nat.le_refl _) (by omega)), er]
    by_cases h0 : a5 = 0
    · rw [if_pos h0, if_pos h0]
    · rw [if_neg h0, if_neg h0, nI_1, pow12_s hN (by omega), bJ_s, ep, decide_eq_true hp.2, gd_t, Int64.mul_comm]
      rfl
  | succ s ih =>
    intro k i hi hk
    obtain ⟨k, rfl⟩ : ∃ q, k = q + 1 := ⟨k - 1, by omega⟩
    have h := abvLp (N := N) (I := I) (L := L) (t := i) (a5 := a5) (v := sumJ (fun t => rwJ m l o t * (nI (abv l f t)).toInt64) i) (r := F_X12_share_60 N k) hN hm ho ho2 hl hf (by omega) l N 0 (by omega) (by omega)
    have h' : F_X12_share_72 N (F_X12_share_60 N k) N (nI m) (nI l) (nI o) (nI f) a5 (sumJ (fun t => rwJ m l o t * (nI (abv l f t)).toInt64) i) (nI i) 0 0 I L = _ := h
    rw [F_X12_share_60, if_neg (nI_ge (by omega) (by omega)), h']
    exact ih k (i + 1) (by omega) (by omega)
theorem share12_s {a5 : Int32} (hN : 20000 ≤ N) (hm1 : 1 ≤ m) (hm : m ≤ 8) (ho : 1 ≤ o) (ho2 : o ≤ m) (hl1 : 1 ≤ l) (hl : l ≤ 9) (hf : f ≤ 99) (h5 : wi a5 0 1 = true) : f_X12_share N (nI m) (nI l) (nI o) (nI f) a5 I L = some (some (.long (if a5 = 0 then rowsV m l o f else partsV m l o f)), I, L) := by
  have e1 : wi (nI m) 1 8 = true := wi_in (a := 1) (b := 8) hm1 hm (by omega)
  have e2 : wi (nI l) 1 9 = true := wi_in (a := 1) (b := 9) hl1 hl (by omega)
  have e3 : wi (nI o) 1 (nI m) = true := wi_in (a := 1) ho ho2 (by omega)
  have e4 : wi (nI f) 0 99 = true := wi_in (a := 0) (b := 99) (Nat.zero_le f) hf (by omega)
  unfold f_X12_share
  rw [in_s, bI_s, ifz_t e1, in_s, bI_s, ifz_t e2, in_s, bI_s, ifz_t e3, in_s, bI_s, ifz_t e4, in_s, bI_s, ifz_t h5]
  exact share12Lp (N := N) hN hm ho ho2 hl1 hl hf l N 0 (by omega) (by omega)
theorem bounds_s {a1 a2 a3 : Int32} : f_X9_areBounds N a1 a2 a3 I L = some (some (.int (bif wi a1 1 8 && wi a2 1 9 && wi a3 1 a1 then 1 else 0)), I, L) := by
  unfold f_X9_areBounds
  rw [within_s, bI_s]
  cases h1 : wi a1 1 8 with
  | false => rw [ifz_f rfl, gd_k0]; rfl
  | true =>
    rw [ifz_t rfl, within_s, bI_s]
    cases h2 : wi a2 1 9 with
    | false => rw [ifz_f rfl, gd_k0]; rfl
    | true =>
      rw [ifz_t rfl, within_s, bI_s]
      cases h3 : wi a3 1 a1 with
      | false => rw [ifz_f rfl, gd_k0]; rfl
      | true => rw [ifz_t rfl, gd_k1]; rfl
end SHARE
def dH (a k : Nat) : Prop := a = 9 ∧ k = 1
theorem dH_free : Free dH := fun a k h => by unfold dH at h; unfold dT dS dR dD dE dZ dX dC; omega
theorem case_share {X : PI → Prop} (hX : Xok X) {N : Nat} (hN : 20000 ≤ N) (a1 a2 a3 a4 a5 : Int32) : CaseJ (Inv X) (f_X11_share N a1 a2 a3 a4 a5) (f_X12_share N a1 a2 a3 a4 a5) := by
  intro I L hI
  have eC := f_X11_share.eq_1 N a1 a2 a3 a4 a5 I L
  have eM := f_X12_share.eq_1 N a1 a2 a3 a4 a5 I L
  have key : ∀ x : Int64, f_X11_share N a1 a2 a3 a4 a5 I L = some (some (.long x), I, L) → f_X12_share N a1 a2 a3 a4 a5 I L = some (some (.long x), I, L) → ∃ (x : Int64) (I1 : PI) (L1 : PL) (I2 : PI) (L2 : PL), f_X11_share N a1 a2 a3 a4 a5 I L = some (some (.long x), I1, L1) ∧ f_X12_share N a1 a2 a3 a4 a5 I1 L1 = some (some (.long x), I2, L2) ∧ Inv X I2 L2 := fun x h1 h2 => ⟨x, I, L, I, L, h1, h2, hI⟩
  rw [bounds_s, bI_s] at eC
  rw [in_s, bI_s] at eM
  cases h1 : wi a1 1 8 with
  | false =>
    rw [ifz_f (by rw [h1]; rfl)] at eC
    rw [ifz_f h1] at eM
    exact key _ eC eM
  | true =>
    rw [ifz_t h1, in_s, bI_s] at eM
    cases h2 : wi a2 1 9 with
    | false =>
      rw [ifz_f (by rw [h1, h2]; rfl)] at eC
      rw [ifz_f h2] at eM
      exact key _ eC eM
    | true =>
      rw [ifz_t h2, in_s, bI_s] at eM
      cases h3 : wi a3 1 a1 with
      | false =>
        rw [ifz_f (by rw [h1, h2, h3]; rfl)] at eC
        rw [ifz_f h3] at eM
        exact key _ eC eM
      | true =>
        rw [ifz_t (by rw [h1, h2, h3]; rfl), within_s, bI_s] at eC
        rw [ifz_t h3, in_s, bI_s] at eM
        cases h4 : wi a4 0 99 with
        | false =>
          rw [ifz_f h4] at eC eM
          exact key _ eC eM
        | true =>
          rw [ifz_t h4, within_s, bI_s] at eC
          rw [ifz_t h4, in_s, bI_s] at eM
          cases h5 : wi a5 0 1 with
          | false =>
            rw [ifz_f h5] at eC eM
            exact key _ eC eM
          | true =>
            rw [ifz_t h5] at eC
            obtain ⟨m, m1, m2, rfl⟩ := wi_nat2 (m := 1) (n := 8) rfl rfl (by omega) (by omega) h1
            obtain ⟨l, l1, l2, rfl⟩ := wi_nat2 (m := 1) (n := 9) rfl rfl (by omega) (by omega) h2
            obtain ⟨o, o1, o2, rfl⟩ := wi_nat2 (m := 1) (n := m) rfl rfl (by omega) (by omega) h3
            obtain ⟨f, f1, rfl⟩ := wi_nat (n := 99) rfl (by omega) h4
            obtain ⟨M, q1, q2⟩ := learn_s (I := I) (L := L) hN m2 o1 o2 l2
            rw [q1, bV_s, rows_s hN l2 f1 q2, bJ_s, parts_s hN m2 l1 l2 f1 q2, bJ_s] at eC
            have kJ : Kp dH I (uI I 9 1 (nI l)) := Kp.rf.up ⟨rfl, rfl⟩
            refine ⟨_, _, M, _, M, ?_, share12_s hN m1 m2 o1 o2 l1 l2 f1 h5, hI.keep hX kJ dH_free⟩
            rw [eC]
            by_cases h0 : a5 = 0
            · rw [if_pos h0, if_pos h0]
            · rw [if_neg h0, if_neg h0]
theorem facLp {N m l o a : Nat} {I J : PI} {L M : PL} (hN : 20000 ≤ N) (hm1 : 1 ≤ m) (hm : m ≤ 8) (ho : 1 ≤ o) (ho2 : o ≤ m) (hl1 : 1 ≤ l) (hl : l ≤ 9) (h : Lrn m l o I L) : ∀ (s k q i : Nat), i + s = 100 → s < k → s < q → ∃ x : Int32, F_X9_leastFactor_2 N k (nI a) (nI i) I L = some (some (.int x), I, L) ∧ F_X12_factor_33 N q (nI m) (nI l) (nI o) (nI a) (nI i) J M = some (some (.int x), J, M) := by
  intro s
  induction s with
  | zero =>
    intro k q i hi hk hq
    obtain ⟨k, rfl⟩ : ∃ q, k = q + 1 := ⟨k - 1, by omega⟩
    obtain ⟨q, rfl⟩ : ∃ k, q = k + 1 := ⟨q - 1, by omega⟩
    refine ⟨-1, ?_, ?_⟩
    · rw [F_X9_leastFactor_2, show (99 : Int32) = nI 99 from rfl, if_pos (nI_lt (by omega) (by omega))]
    · rw [F_X12_factor_33, show (99 : Int32) = nI 99 from rfl, if_pos (nI_lt (by omega) (by omega))]
  | succ s ih =>
    intro k q i hi hk hq
    obtain ⟨k, rfl⟩ : ∃ q, k = q + 1 := ⟨k - 1, by omega⟩
    obtain ⟨q, rfl⟩ : ∃ k, q = k + 1 := ⟨q - 1, by omega⟩
    have e : f_X12_share N (nI m) (nI l) (nI o) (nI i) 1 J M = some (some (.long (partsV m l o i)), J, M) := by
      have := share12_s (I := J) (L := M) (f := i) (a5 := 1) hN hm1 hm ho ho2 hl1 hl (by omega) (by decide)
      rw [if_neg ne_10] at this
      exact this
    rw [F_X9_leastFactor_2, show (99 : Int32) = nI 99 from rfl, if_neg (nI_nlt (by omega) (by omega)), parts_s hN hm hl1 hl (by omega) h, bJ_s, nI_1]
    rw [F_X12_factor_33, show (99 : Int32) = nI 99 from rfl, if_neg (nI_nlt (by omega) (by omega)), e, bJ_s, nI_1]
    by_cases hc : 0 < lg_cmp (partsV m l o i) (Int32.toInt64 (nI a))
    · rw [if_pos hc, if_pos hc]
      exact ih k q (i + 1) (by omega) (by omega) (by omega)
    · rw [if_neg hc, if_neg hc]
      exact ⟨nI i, rfl, rfl⟩
