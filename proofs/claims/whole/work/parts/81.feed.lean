/-! feed -/
def bt (v : Int32) (j : Nat) : Nat := v.toBitVec.toNat / 2 ^ (24 - 8 * j) % 256
theorem i32_cond (x : Int32) : x.toInt = if 2 * x.toBitVec.toNat < 2 ^ 32 then (x.toBitVec.toNat : Int) else (x.toBitVec.toNat : Int) - (2 ^ 32 : Nat) := BitVec.toInt_eq_toNat_cond x.toBitVec
theorem ushr_b (v : Int32) {j : Nat} (hj : j < 4) : jushr v (nI (24 - 8 * j)) &&& 255 = nI (bt v j) := by
  have hk : ∀ j : Nat, j < 4 → (((nI (24 - 8 * j)).toUInt32 &&& Int32.toUInt32 31).toBitVec % 32).toNat = 24 - 8 * j := by decide +kernel
  have h := pk_ushr v (nI (24 - 8 * j)) (24 - 8 * j) (hk j hj)
  rw [pk_and _ (m := 255) 8 (by decide)]
  unfold jushr
  rw [h]
  rfl
theorem sshr_b (v : Int32) {j : Nat} (hj : j < 4) : (v >>> (nI (24 - 8 * j) &&& 31)) &&& 255 = nI (bt v j) := by
  have h := pk_shr v (nI (24 - 8 * j) &&& 31) (24 - 8 * j) (smod_31 _ (by omega))
  rw [pk_and _ (m := 255) 8 (by decide)]
  have hv := v.toBitVec.isLt
  have hw := (v >>> (nI (24 - 8 * j) &&& 31)).toBitVec.isLt
  rw [i32_cond, i32_cond v, Int.shiftRight_eq_div_pow] at h
  congr 1
  unfold bt
  rcases (by omega : j = 0 ∨ j = 1 ∨ j = 2 ∨ j = 3) with rfl | rfl | rfl | rfl
  · have e : ((2 ^ (24 - 8 * 0) : Nat) : Int) = 16777216 := rfl
    have e2 : 2 ^ (24 - 8 * 0) = 16777216 := rfl
    rw [e] at h
    rw [e2]
    split at h <;> split at h <;> omega
  · have e : ((2 ^ (24 - 8 * 1) : Nat) : Int) = 65536 := rfl
    have e2 : 2 ^ (24 - 8 * 1) = 65536 := rfl
    rw [e] at h
    rw [e2]
    split at h <;> split at h <;> omega
  · have e : ((2 ^ (24 - 8 * 2) : Nat) : Int) = 256 := rfl
    have e2 : 2 ^ (24 - 8 * 2) = 256 := rfl
    rw [e] at h
    rw [e2]
    split at h <;> split at h <;> omega
  · have e : ((2 ^ (24 - 8 * 3) : Nat) : Int) = 1 := rfl
    have e2 : 2 ^ (24 - 8 * 3) = 1 := rfl
    rw [e] at h
    rw [e2]
    split at h <;> split at h <;> omega
theorem bt_lt {v : Int32} {j : Nat} : bt v j < 256 := Nat.mod_lt _ (by decide)
/-- byte k of the five numbers -/
def fB (a1 a2 a3 a4 a5 : Int32) (k : Nat) : Nat := bt (if k < 4 then a1 else if k < 8 then a2 else if k < 12 then a3 else if k < 16 then a4 else a5) (k % 4)
section FEED
variable {N n : Nat} {L : PL} {f : Nat → Nat}
theorem byte_s {a1 a2 a3 a4 a5 : Int32} {k : Nat} {I : PI} (hk : k < 20) : f_X12_byteOf N a1 a2 a3 a4 a5 (nI k) I L = some (some (.int (nI (fB a1 a2 a3 a4 a5 k))), I, L) := by
  have e45 : ∀ s0, F_X12_byteOf_45 N (nI k) s0 I L = some (some (.int (nI (bt s0 (k % 4)))), I, L) := fun s0 => by
    unfold F_X12_byteOf_45
    rw [decide_eq_true (by decide), gd_t, show (4 : Int32) = nI 4 from rfl, jirem_n (by omega) (by omega) (by omega), show (8 : Int32) = nI 8 from rfl, pk_mul, show (24 : Int32) = nI 24 from rfl, nsub (by omega), sshr_b s0 (by omega)]
  unfold f_X12_byteOf fB
  rw [show (4 : Int32) = nI 4 from rfl, show (8 : Int32) = nI 8 from rfl, show (12 : Int32) = nI 12 from rfl, show (16 : Int32) = nI 16 from rfl, e45, e45, e45, e45, e45]
  by_cases h1 : k < 4
  · rw [if_neg (nI_ge h1 (by omega)), if_pos h1]
  · rw [if_pos (nI_le (by omega) (by omega)), if_neg h1]
    by_cases h2 : k < 8
    · rw [if_neg (nI_ge h2 (by omega)), if_pos h2]
    · rw [if_pos (nI_le (by omega) (by omega)), if_neg h2]
      by_cases h3 : k < 12
      · rw [if_neg (nI_ge h3 (by omega)), if_pos h3]
      · rw [if_pos (nI_le (by omega) (by omega)), if_neg h3]
        by_cases h4 : k < 16
        · rw [if_neg (nI_ge h4 (by omega)), if_pos h4]
        · rw [if_pos (nI_le (by omega) (by omega)), if_neg h4]
/-- how many of the first i are no 0 -/
def cz (f : Nat → Nat) (i : Nat) : Nat := cnt (fun k => decide (f k ≠ 0)) i
theorem cz_s {i : Nat} : cz f (i + 1) = cz f i + if f i = 0 then 0 else 1 := by
  show cz f i + (bif decide (f i ≠ 0) then 1 else 0) = _
  by_cases h : f i = 0
  · rw [if_pos h, decide_eq_false (fun q => q h)]; rfl
  · rw [if_neg h, decide_eq_true h]; rfl
/-- a row behind whose first n numbers those are put -/
def apF (g : Nat → Int32) (n : Nat) (f : Nat → Nat) : Nat → Nat → Int32
  | 0 => g
  | i + 1 => if f i = 0 then apF g n f i else upd (apF g n f i) (n + cz f i) (nI (f i))
theorem apF_s {g : Nat → Int32} {i : Nat} : apF g n f (i + 1) = if f i = 0 then apF g n f i else upd (apF g n f i) (n + cz f i) (nI (f i)) := rfl
theorem apF_ok {g h : Nat → Int32} (hf : ∀ k, f k < 256) (hg : ∀ k, k < n → g k = h k ∧ ∃ b : Nat, 1 ≤ b ∧ b ≤ 255 ∧ g k = nI b) : ∀ i k, k < n + cz f i → apF g n f i k = apF h n f i k ∧ ∃ b : Nat, 1 ≤ b ∧ b ≤ 255 ∧ apF g n f i k = nI b := by
  intro i
  induction i with
  | zero => intro k hk; exact hg k hk
  | succ i ih =>
    intro k hk
    rw [cz_s] at hk
    rw [apF_s, apF_s]
    by_cases h0 : f i = 0
    · rw [if_pos h0] at hk
      rw [if_pos h0, if_pos h0]
      exact ih k (by omega)
    · rw [if_neg h0] at hk
      rw [if_neg h0, if_neg h0]
      by_cases ek : k = n + cz f i
      · rw [ek, pk_us, pk_us]
        have := hf i
        exact ⟨rfl, f i, by omega, by omega, rfl⟩
      · rw [pk_un ek, pk_un ek]
        exact ih k (by omega)
theorem uI_row {I : PI} {c k : Nat} {v : Int32} : (uI I c k v) c = upd (I c) k v := by
  unfold uI
  rw [if_pos rfl]
theorem uI_rowo {I : PI} {c d k : Nat} {v : Int32} (h : d ≠ c) : (uI I c k v) d = I d := by
  unfold uI
  rw [if_neg h]
theorem signsLp {a : Int32} {w : Nat} {I : PI} (hf : ∀ j, j < 4 → f (4 * w + j) = bt a j) : ∀ (t k j : Nat) (v : Nat), j + t = 4 → t < k → ∃ x : Nat, F_X10_signsOf_5 N k a (nI v) (zI (24 - 8 * (j : Int))) I L = some (some (.int (nI x)), I, L) ∧ x + cz f (4 * w + j) = v + cz f (4 * w + 4) := by
  intro t
  induction t with
  | zero =>
    intro k j v hj hk
    obtain ⟨k, rfl⟩ : ∃ q, k = q + 1 := ⟨k - 1, by omega⟩
    obtain rfl : j = 4 := by omega
    rw [F_X10_signsOf_5, if_pos (show zI (24 - 8 * ((4 : Nat) : Int)) < 0 by decide +kernel)]
    exact ⟨v, rfl, rfl⟩
  | succ t ih =>
    intro k j v hj hk
    obtain ⟨k, rfl⟩ : ∃ q, k = q + 1 := ⟨k - 1, by omega⟩
    have ez : zI (24 - 8 * (j : Int)) = nI (24 - 8 * j) := by rw [zI_nat (by omega)]; congr 1; omega
    have e8 : zI (24 - 8 * (j : Int)) + (-8) = zI (24 - 8 * ((j + 1 : Nat) : Int)) := by
      rw [show (-8 : Int32) = zI (-8) from by decide +kernel, zI_add]; congr 1; omega
    have hb := bt_lt (v := a) (j := j)
    have hc := cz_s (f := f) (i := 4 * w + j)
    rw [hf j (by omega)] at hc
    rw [F_X10_signsOf_5, if_neg (show ¬ zI (24 - 8 * (j : Int)) < (0 : Int32) from fun q => absurd ((zI_lt (b := 0) (by omega) (by omega) (by omega) (by omega)).mp q) (by omega)), e8, ez, ushr_b a (by omega)]
    by_cases h0 : bt a j = 0
    · rw [if_pos h0] at hc
      obtain ⟨x, x1, x2⟩ := ih k (j + 1) v (by omega) (by omega)
      rw [if_pos (by rw [h0]; rfl)]
      exact ⟨x, x1, by rw [show 4 * w + (j + 1) = 4 * w + j + 1 by omega] at x2; omega⟩
    · rw [if_neg h0] at hc
      obtain ⟨x, x1, x2⟩ := ih k (j + 1) (v + 1) (by omega) (by omega)
      rw [if_neg (nI_ne0 (by omega) (by omega)), nI_1]
      exact ⟨x, x1, by rw [show 4 * w + (j + 1) = 4 * w + j + 1 by omega] at x2; omega⟩
theorem signs_s {a : Int32} {w : Nat} {I : PI} (hN : 20000 ≤ N) (hf : ∀ j, j < 4 → f (4 * w + j) = bt a j) : ∃ x : Nat, f_X10_signsOf N a I L = some (some (.int (nI x)), I, L) ∧ x + cz f (4 * w) = cz f (4 * w + 4) := by
  obtain ⟨x, x1, x2⟩ := signsLp (N := N) (L := L) (I := I) hf 4 N 0 0 (by omega) (by omega)
  have x2' : x + cz f (4 * w) = 0 + cz f (4 * w + 4) := x2
  refine ⟨x, ?_, by omega⟩
  have e : zI (24 - 8 * ((0 : Nat) : Int)) = 24 := by decide +kernel
  rw [e] at x1
  exact x1
def dP10 (a k : Nat) : Prop := a = 14 ∨ (a = 10 ∧ k = 1)
theorem putLp {a : Int32} {w : Nat} {g : Nat → Int32} (hf : ∀ j, j < 4 → f (4 * w + j) = bt a j) (hn : n + cz f 20 ≤ 120) (hw : w < 5) : ∀ (t k j : Nat) (I : PI), j + t = 4 → t < k → I 10 1 = nI (n + cz f (4 * w + j)) → I 14 = apF g n f (4 * w + j) → ∃ J : PI, F_X10_put_3 N k a (zI (24 - 8 * (j : Int))) I L = some (none, J, L) ∧ Kp dP10 I J ∧ J 10 1 = nI (n + cz f (4 * w + 4)) ∧ J 14 = apF g n f (4 * w + 4) := by
  intro t
  induction t with
  | zero =>
    intro k j I hj hk h1 h2
    obtain ⟨k, rfl⟩ : ∃ q, k = q + 1 := ⟨k - 1, by omega⟩
    obtain rfl : j = 4 := by omega
    rw [F_X10_put_3, if_pos (show zI (24 - 8 * ((4 : Nat) : Int)) < 0 by decide +kernel)]
    exact ⟨I, rfl, Kp.rf, h1, h2⟩
  | succ t ih =>
    intro k j I hj hk h1 h2
    obtain ⟨k, rfl⟩ : ∃ q, k = q + 1 := ⟨k - 1, by omega⟩
    have ez : zI (24 - 8 * (j : Int)) = nI (24 - 8 * j) := by rw [zI_nat (by omega)]; congr 1; omega
    have e8 : zI (24 - 8 * (j : Int)) + (-8) = zI (24 - 8 * ((j + 1 : Nat) : Int)) := by
      rw [show (-8 : Int32) = zI (-8) from by decide +kernel, zI_add]; congr 1; omega
    have hb := bt_lt (v := a) (j := j)
    have hc := cz_s (f := f) (i := 4 * w + j)
    have ha := apF_s (g := g) (n := n) (f := f) (i := 4 * w + j)
    have hm : cz f (4 * w + j + 1) ≤ cz f 20 := cnt_mono (by omega)
    rw [hf j (by omega)] at hc ha
    rw [F_X10_put_3, if_neg (show ¬ zI (24 - 8 * (j : Int)) < (0 : Int32) from fun q => absurd ((zI_lt (b := 0) (by omega) (by omega) (by omega) (by omega)).mp q) (by omega)), e8, ez, ushr_b a (by omega), nmI_s]
    by_cases h0 : bt a j = 0
    · rw [if_pos h0] at hc ha
      rw [if_pos (by rw [h0]; rfl)]
      exact ih k (j + 1) I (by omega) (by omega) (by rw [show 4 * w + (j + 1) = 4 * w + j + 1 by omega, hc]; exact h1) (by rw [show 4 * w + (j + 1) = 4 * w + j + 1 by omega, ha]; exact h2)
    · rw [if_neg h0] at hc ha
      rw [if_neg (nI_ne0 (by omega) (by omega)), h1, show (120 : Int32) = nI 120 from rfl, if_neg (nI_ge (by omega) (by omega)), gd_in (by omega) (by omega), nI_clamp (by omega), nmW_s, uI_ne (by omega), h1, nI_1, nmW_s]
      have kU : Kp dP10 I (uI (uI I 14 (n + cz f (4 * w + j)) (nI (bt a j))) 10 1 (nI (n + cz f (4 * w + j) + 1))) := (Kp.rf.up (Or.inl rfl)).up (Or.inr ⟨rfl, rfl⟩)
      obtain ⟨J, g1, g2, g3⟩ := ih k (j + 1) (uI (uI I 14 (n + cz f (4 * w + j)) (nI (bt a j))) 10 1 (nI (n + cz f (4 * w + j) + 1))) (by omega) (by omega) (by
        rw [uI_eq, show 4 * w + (j + 1) = 4 * w + j + 1 by omega, hc]; rfl) (by
        rw [uI_rowo (by omega), uI_row, h2, show 4 * w + (j + 1) = 4 * w + j + 1 by omega, ha])
      exact ⟨J, g1, kU.tr g2, g3⟩
theorem put10_s {a : Int32} {w : Nat} {g : Nat → Int32} {I : PI} (hN : 20000 ≤ N) (hf : ∀ j, j < 4 → f (4 * w + j) = bt a j) (hn : n + cz f 20 ≤ 120) (hw : w < 5) (h1 : I 10 1 = nI (n + cz f (4 * w))) (h2 : I 14 = apF g n f (4 * w)) : ∃ J : PI, f_X10_put N a I L = some (none, J, L) ∧ Kp dP10 I J ∧ J 10 1 = nI (n + cz f (4 * w + 4)) ∧ J 14 = apF g n f (4 * w + 4) := by
  have e : zI (24 - 8 * ((0 : Nat) : Int)) = 24 := by decide +kernel
  have := putLp (N := N) (L := L) (g := g) hf hn hw 4 N 0 I (by omega) (by omega) h1 h2
  rw [e] at this
  exact this
theorem feed61 {a1 a2 a3 a4 a5 : Int32} {g : Nat → Int32} (hn : n + cz (fB a1 a2 a3 a4 a5) 20 ≤ 120) : ∀ (t k i : Nat) (I : PI), i + t = 20 → t < k → I 12 2 = nI (n + cz (fB a1 a2 a3 a4 a5) i) → I 39 = apF g n (fB a1 a2 a3 a4 a5) i → ∃ J : PI, F_X12_feed_61 N k a1 a2 a3 a4 a5 (nI i) I L = some (some (.int (nI (n + cz (fB a1 a2 a3 a4 a5) 20))), J, L) ∧ Kp (fun a k => a = 39 ∨ (a = 12 ∧ k = 2)) I J ∧ J 12 2 = nI (n + cz (fB a1 a2 a3 a4 a5) 20) ∧ J 39 = apF g n (fB a1 a2 a3 a4 a5) 20 := by
  intro t
  induction t with
  | zero =>
    intro k i I hi hk h1 h2
    obtain ⟨k, rfl⟩ : ∃ q, k = q + 1 := ⟨k - 1, by omega⟩
    obtain rfl : i = 20 := by omega
    rw [F_X12_feed_61, if_pos (show (20 : Int32) ≤ nI 20 by decide), h1]
    exact ⟨I, rfl, Kp.rf, h1, h2⟩
  | succ t ih =>
    intro k i I hi hk h1 h2
    obtain ⟨k, rfl⟩ : ∃ q, k = q + 1 := ⟨k - 1, by omega⟩
    have hc := cz_s (f := fB a1 a2 a3 a4 a5) (i := i)
    have ha := apF_s (g := g) (n := n) (f := fB a1 a2 a3 a4 a5) (i := i)
    have hm : cz (fB a1 a2 a3 a4 a5) (i + 1) ≤ cz (fB a1 a2 a3 a4 a5) 20 := cnt_mono (by omega)
    have hb : fB a1 a2 a3 a4 a5 i < 256 := bt_lt
    rw [F_X12_feed_61, show (20 : Int32) = nI 20 from rfl, if_neg (nI_ge (by omega) (by omega)), byte_s (by omega), bI_s, nI_1]
    by_cases h0 : fB a1 a2 a3 a4 a5 i = 0
    · rw [if_pos h0] at hc ha
      rw [if_pos (by rw [h0]; rfl)]
      exact ih k (i + 1) I (by omega) (by omega) (by rw [hc]; exact h1) (by rw [ha]; exact h2)
    · rw [if_neg h0] at hc ha
      rw [if_neg (nI_ne0 (by omega) (by omega)), h1, gd_in (by omega) (by omega), nI_clamp (by omega), nmW_s, uI_ne (by omega), h1, nI_1, nmW_s]
      have kU : Kp (fun a k => a = 39 ∨ (a = 12 ∧ k = 2)) I (uI (uI I 39 (n + cz (fB a1 a2 a3 a4 a5) i) (nI (fB a1 a2 a3 a4 a5 i))) 12 2 (nI (n + cz (fB a1 a2 a3 a4 a5) i + 1))) := (Kp.rf.up (Or.inl rfl)).up (Or.inr ⟨rfl, rfl⟩)
      obtain ⟨J, g1, g2, g3⟩ := ih k (i + 1) (uI (uI I 39 (n + cz (fB a1 a2 a3 a4 a5) i) (nI (fB a1 a2 a3 a4 a5 i))) 12 2 (nI (n + cz (fB a1 a2 a3 a4 a5) i + 1))) (by omega) (by omega) (by
        rw [uI_eq, hc]; rfl) (by
        rw [uI_rowo (by omega), uI_row, h2, ha])
      exact ⟨J, g1, kU.tr g2, g3⟩
theorem feed6 {a1 a2 a3 a4 a5 : Int32} {I : PI} : ∀ (t k i : Nat), i + t = 20 → t < k → F_X12_feed_6 N k a1 a2 a3 a4 a5 (nI (cz (fB a1 a2 a3 a4 a5) i)) (nI i) I L = if I 12 2 + nI (cz (fB a1 a2 a3 a4 a5) 20) ≤ 120 then F_X12_feed_61 N N a1 a2 a3 a4 a5 0 I L else some (some (.int (-1)), I, L) := by
  intro t
  induction t with
  | zero =>
    intro k i hi hk
    obtain ⟨k, rfl⟩ : ∃ q, k = q + 1 := ⟨k - 1, by omega⟩
    obtain rfl : i = 20 := by omega
    rw [F_X12_feed_6, if_pos (show (20 : Int32) ≤ nI 20 by decide)]
  | succ t ih =>
    intro k i hi hk
    obtain ⟨k, rfl⟩ : ∃ q, k = q + 1 := ⟨k - 1, by omega⟩
    have hc := cz_s (f := fB a1 a2 a3 a4 a5) (i := i)
    have hb : fB a1 a2 a3 a4 a5 i < 256 := bt_lt
    have ih' := ih k (i + 1) (by omega) (by omega)
    rw [F_X12_feed_6, show (20 : Int32) = nI 20 from rfl, if_neg (nI_ge (by omega) (by omega)), byte_s (by omega), bI_s, nI_1]
    by_cases h0 : fB a1 a2 a3 a4 a5 i = 0
    · rw [if_pos h0, Nat.add_zero (cz (fB a1 a2 a3 a4 a5) i)] at hc
      rw [if_pos (by rw [h0]; rfl), Int32.add_zero, nmI_s, ← hc]
      exact ih'
    · rw [if_neg h0] at hc
      rw [if_neg (nI_ne0 (by omega) (by omega)), nI_1, nmI_s, ← hc]
      exact ih'
end FEED
theorem case_feed {X : PI → Prop} (hX : Xok X) {N : Nat} (hN : 20000 ≤ N) (a1 a2 a3 a4 a5 : Int32) : CaseI (Inv X) (f_X11_feed N a1 a2 a3 a4 a5) (f_X12_feed N a1 a2 a3 a4 a5) := by
  intro I L hI
  have hI0 := hI
  obtain ⟨⟨n, n1, n2, n3, n4⟩, -⟩ := hI
  obtain ⟨f, hf⟩ : ∃ f, f = fB a1 a2 a3 a4 a5 := ⟨_, rfl⟩
  have w0 : ∀ j, j < 4 → f (4 * 0 + j) = bt a1 j := fun j hj => by
    rw [hf]; unfold fB; rw [if_pos (by omega), show (4 * 0 + j) % 4 = j by omega]
  have w1 : ∀ j, j < 4 → f (4 * 1 + j) = bt a2 j := fun j hj => by
    rw [hf]; unfold fB; rw [if_neg (by omega), if_pos (by omega), show (4 * 1 + j) % 4 = j by omega]
  have w2 : ∀ j, j < 4 → f (4 * 2 + j) = bt a3 j := fun j hj => by
    rw [hf]; unfold fB; rw [if_neg (by omega), if_neg (by omega), if_pos (by omega), show (4 * 2 + j) % 4 = j by omega]
  have w3 : ∀ j, j < 4 → f (4 * 3 + j) = bt a4 j := fun j hj => by
    rw [hf]; unfold fB; rw [if_neg (by omega), if_neg (by omega), if_neg (by omega), if_pos (by omega), show (4 * 3 + j) % 4 = j by omega]
  have w4 : ∀ j, j < 4 → f (4 * 4 + j) = bt a5 j := fun j hj => by
    rw [hf]; unfold fB; rw [if_neg (by omega), if_neg (by omega), if_neg (by omega), if_neg (by omega), show (4 * 4 + j) % 4 = j by omega]
  obtain ⟨x0, p0, q0⟩ := signs_s (L := L) (I := I) hN w0
  obtain ⟨x1, p1, q1⟩ := signs_s (L := L) (I := I) hN w1
  obtain ⟨x2, p2, q2⟩ := signs_s (L := L) (I := I) hN w2
  obtain ⟨x3, p3, q3⟩ := signs_s (L := L) (I := I) hN w3
  obtain ⟨x4, p4, q4⟩ := signs_s (L := L) (I := I) hN w4
  have c0 : cz f (4 * 0) = 0 := rfl
  have hx : x0 + x1 + x2 + x3 + x4 = cz f 20 := by
    have e1 : cz f (4 * 0 + 4) = cz f (4 * 1) := rfl
    have e2 : cz f (4 * 1 + 4) = cz f (4 * 2) := rfl
    have e3 : cz f (4 * 2 + 4) = cz f (4 * 3) := rfl
    have e4 : cz f (4 * 3 + 4) = cz f (4 * 4) := rfl
    have e5 : cz f (4 * 4 + 4) = cz f 20 := rfl
    omega
  have hc20 : cz f 20 ≤ 20 := cnt_le 20
  have eC := f_X11_feed.eq_1 N a1 a2 a3 a4 a5 I L
  rw [p0, bI_s, p1, bI_s, p2, bI_s, p3, bI_s, p4, bI_s, nI_add, nI_add, nI_add, nI_add, nmI_s, hx, n2, nI_add, show (120 : Int32) = nI 120 from rfl] at eC
  have eM : ∀ J, J 12 2 = nI n → f_X12_feed N a1 a2 a3 a4 a5 J L = if nI (n + cz f 20) ≤ nI 120 then F_X12_feed_61 N N a1 a2 a3 a4 a5 0 J L else some (some (.int (-1)), J, L) := fun J hJ => by
    have := feed6 (N := N) (L := L) (a1 := a1) (a2 := a2) (a3 := a3) (a4 := a4) (a5 := a5) (I := J) 20 N 0 (by omega) (by omega)
    rw [hJ, ← hf, nI_add] at this
    exact this
  by_cases hle : n + cz f 20 ≤ 120
  · rw [if_pos (nI_le hle (by omega))] at eC
    obtain ⟨J0, r0, k0', s0, t0⟩ := put10_s (L := L) (I := I) (g := I 14) (n := n) hN w0 hle (by omega) (by rw [c0]; exact n2) rfl
    obtain ⟨J1, r1, k1', s1, t1⟩ := put10_s (L := L) (I := J0) (g := I 14) (n := n) hN w1 hle (by omega) s0 t0
    obtain ⟨J2, r2, k2', s2, t2⟩ := put10_s (L := L) (I := J1) (g := I 14) (n := n) hN w2 hle (by omega) s1 t1
    obtain ⟨J3, r3, k3', s3, t3⟩ := put10_s (L := L) (I := J2) (g := I 14) (n := n) hN w3 hle (by omega) s2 t2
    obtain ⟨J4, r4, k4', s4, t4⟩ := put10_s (L := L) (I := J3) (g := I 14) (n := n) hN w4 hle (by omega) s3 t3
    rw [r0, bV_s, r1, bV_s, r2, bV_s, r3, bV_s, r4, bV_s, s4] at eC
    have kk : Kp dP10 I J4 := (((k0'.tr k1').tr k2').tr k3').tr k4'
    have j2 : J4 12 2 = nI n := (kk 12 2 (by unfold dP10; omega)).trans n3
    have j39 : J4 39 = I 39 := funext fun k => kk 39 k (by unfold dP10; omega)
    obtain ⟨J, g1, g2, g3, g4⟩ := feed61 (N := N) (L := L) (n := n) (g := I 39) (a1 := a1) (a2 := a2) (a3 := a3) (a4 := a4) (a5 := a5) (by rw [← hf]; exact hle) 20 N 0 J4 (by omega) (by omega) j2 j39
    rw [← hf] at g1 g3 g4
    have eM1 := eM J4 j2
    rw [if_pos (nI_le hle (by omega))] at eM1
    refine ⟨_, J4, L, J, L, eC, eM1.trans g1, hI0.mkT hX ((kk.mono (fun a k q => by unfold dP10 at q; unfold dT; omega)).tr (g2.mono (fun a k q => by unfold dT; omega))) ⟨n + cz f 20, hle, (g2 10 1 (by omega)).trans s4, g3, fun k hk => ?_⟩⟩
    have ok := apF_ok (n := n) (f := f) (g := I 14) (h := I 39) (fun k => by rw [hf]; exact bt_lt) n4 20 k hk
    rw [g4, g2 14 k (by omega), t4]
    exact ok
  · rw [if_neg (nI_ge (by omega) (by omega))] at eC
    have eM1 := eM I n3
    rw [if_neg (nI_ge (by omega) (by omega))] at eM1
    exact ⟨-1, I, L, I, L, eC, eM1, hI0⟩
