/-! stagger: ways seen as bits of longs -/
section STG
variable {N z b lo hi mo : Nat} {I : PI}
/-- what the longs of cell 29 hold -/
def WLo (L : PL) (B : Nat → Nat → Bool) : Prop := ∀ i, i < 155 → ∃ W, W < 2 ^ 64 ∧ L 29 i = lN W ∧ ∀ k, k < 64 → W.testBit k = B i k
def stB1 (z lo mo rest way i k : Nat) : Bool := decide (lo ≤ i / 5 ∧ (i / 5 < rest ∨ (i / 5 = rest ∧ 64 * (i % 5) + k < way))) && (decide (1 ≤ 64 * (i % 5) + k ∧ 64 * (i % 5) + k ≤ mo) && decide (z ≤ (64 * (i % 5) + k) % (i / 5)))
theorem fill29Lp : ∀ (t k i : Nat) (L : PL), i + t = 155 → t < k → (∀ j, j < i → L 29 j = 0) → ∃ M : PL, F_J7_fill_d0a16_r29_6 N k 0 (nI i) 155 I L = some (none, I, M) ∧ ∀ j, j < 155 → M 29 j = 0 := by
  intro t
  induction t with
  | zero =>
    intro k i L hi hk h
    obtain ⟨k, rfl⟩ : ∃ q, k = q + 1 := ⟨k - 1, by omega⟩
    rw [F_J7_fill_d0a16_r29_6, show (155 : Int32) = nI 155 from rfl, if_pos (nI_le (by omega) (by omega))]
    exact ⟨L, rfl, fun j hj => h j (by omega)⟩
  | succ t ih =>
    intro k i L hi hk h
    obtain ⟨k, rfl⟩ : ∃ q, k = q + 1 := ⟨k - 1, by omega⟩
    obtain ⟨M, g1, g2⟩ := ih k (i + 1) (uL L 29 i 0) (by omega) (by omega) (fun j hj => by
      by_cases e : j = i
      · rw [e, uL_eq]
      · rw [uL_ne (by omega)]; exact h j (by omega))
    refine ⟨M, ?_, g2⟩
    rw [F_J7_fill_d0a16_r29_6, show (155 : Int32) = nI 155 from rfl, if_neg (nI_ge (by omega) (by omega)), gd_in (by omega) (by omega), nI_clamp (by omega), nmY_s, nI_1]
    exact g1
theorem tell31 {rest : Nat} {r : Int32 → Int32 → Int32 → PI → PL → RES} (hz : z ≤ 9) (hz2 : I 13 0 = nI z) (hl : lo ≤ rest) (h2 : 2 ≤ rest) (hr : rest ≤ 30) (hm : mo ≤ 300) : ∀ (t k way : Nat) (L : PL), way + t = mo + 1 → 1 ≤ way → t < k → WLo L (stB1 z lo mo rest way) → ∃ M : PL, F_X8_tellSeenWays_31 N r k (nI hi) (nI mo) (nI rest) (nI way) I L = r (nI hi) (nI mo) (nI (rest + 1)) I M ∧ WLo M (stB1 z lo mo (rest + 1) 0) := by
  intro t
  induction t with
  | zero =>
    intro k way L hw h1 hk h
    obtain ⟨k, rfl⟩ : ∃ q, k = q + 1 := ⟨k - 1, by omega⟩
    rw [F_X8_tellSeenWays_31, if_pos (nI_lt (by omega) (by omega)), nI_1]
    refine ⟨L, rfl, fun i hi => ?_⟩
    obtain ⟨W, w1, w2, w3⟩ := h i hi
    refine ⟨W, w1, w2, fun k hk => ?_⟩
    rw [w3 k hk]
    unfold stB1
    by_cases hy : 1 ≤ 64 * (i % 5) + k ∧ 64 * (i % 5) + k ≤ mo
    · congr 1
      exact decide_eq_decide.mpr (by omega)
    · rw [decide_eq_false hy, Bool.false_and, Bool.and_false, Bool.and_false]
  | succ t ih =>
    intro k way L hw h1 hk h
    obtain ⟨k, rfl⟩ : ∃ q, k = q + 1 := ⟨k - 1, by omega⟩
    have es : nI way >>> ((6 : Int32) &&& 31) = nI (way / 64) := pk_shrN (by omega) _ 6 (by decide)
    have ea : nI way &&& 63 = nI (way % 64) := pk_andN (by omega) 6 (by decide)
    have e5 : nI rest * 5 + nI (way / 64) = nI (5 * rest + way / 64) := by rw [show (5 : Int32) = nI 5 from rfl, pk_mul, nI_add, Nat.mul_comm]
    have el : jlshl 1 (nI (way % 64)) = lN (2 ^ (way % 64)) := by
      have := wb_shl 1 (k := way % 64) (by omega)
      rw [Nat.one_mul] at this
      exact this
    rw [F_X8_tellSeenWays_31, if_neg (nI_nlt (by omega) (by omega)), show (300 : Int32) = nI 300 from rfl, if_neg (nI_nlt (by omega) (by omega)), seenBy_s (by omega) (by omega) (by omega) hz hz2, bI_s, nI_1]
    by_cases hs : z ≤ way % rest
    · rw [ifz_t (decide_eq_true hs), es, e5, gd_in (by omega) (by omega), gd_in (by omega) (by omega), nI_clamp (by omega), ea, el]
      obtain ⟨W, w1, w2, w3⟩ := h (5 * rest + way / 64) (by omega)
      have hp : 2 ^ (way % 64) < 2 ^ 64 := Nat.pow_lt_pow_right (by decide) (by omega)
      rw [w2, wb_or w1 hp, nmY_s]
      refine ih k (way + 1) _ (by omega) (by omega) (by omega) (fun i hi => ?_)
      by_cases ei : i = 5 * rest + way / 64
      · refine ⟨W ||| 2 ^ (way % 64), Nat.or_lt_two_pow w1 hp, by rw [ei, uL_eq], fun k hk => ?_⟩
        rw [Nat.testBit_or, w3 k hk]
        rw [ei]
        have e1 : (5 * rest + way / 64) / 5 = rest := by omega
        have e2 : (5 * rest + way / 64) % 5 = way / 64 := by omega
        unfold stB1
        rw [e1, e2]
        by_cases ek : k = way % 64
        · have ey : 64 * (way / 64) + k = way := by omega
          rw [ey, ek, Nat.testBit_two_pow_self, Bool.or_true, decide_eq_true (p := lo ≤ rest ∧ (rest < rest ∨ (rest = rest ∧ way < way + 1))) (by omega), decide_eq_true (p := 1 ≤ way ∧ way ≤ mo) (by omega), decide_eq_true hs]
          rfl
        · rw [Nat.testBit_two_pow_of_ne (fun q => ek q.symm), Bool.or_false]
          congr 1
          exact decide_eq_decide.mpr (by omega)
      · obtain ⟨V, v1, v2, v3⟩ := h i hi
        refine ⟨V, v1, by rw [uL_ne (by omega)]; exact v2, fun k hk => ?_⟩
        rw [v3 k hk]
        unfold stB1
        congr 1
        exact decide_eq_decide.mpr (by omega)
    · rw [ifz_f (decide_eq_false hs)]
      refine ih k (way + 1) L (by omega) (by omega) (by omega) (fun i hi => ?_)
      obtain ⟨V, v1, v2, v3⟩ := h i hi
      refine ⟨V, v1, v2, fun k hk => ?_⟩
      rw [v3 k hk]
      unfold stB1
      by_cases hq : i / 5 = rest ∧ 64 * (i % 5) + k = way
      · rw [hq.1, hq.2, decide_eq_false hs, Bool.and_false, Bool.and_false, Bool.and_false]
      · congr 1
        exact decide_eq_decide.mpr (by omega)
theorem tell15 (hN : 20000 ≤ N) (hz : z ≤ 9) (hz2 : I 13 0 = nI z) (h2 : 2 ≤ lo) (hh : hi ≤ 30) (hm1 : 1 ≤ mo) (hm : mo ≤ 300) : ∀ (t k rest : Nat) (L : PL), rest + t = hi + 1 → lo ≤ rest → t < k → WLo L (stB1 z lo mo rest 0) → ∃ M : PL, F_X8_tellSeenWays_15 N k (nI hi) (nI mo) (nI rest) I L = some (none, I, M) ∧ WLo M (stB1 z lo mo (hi + 1) 0) := by
  intro t
  induction t with
  | zero =>
    intro k rest L hr hl hk h
    obtain ⟨k, rfl⟩ : ∃ q, k = q + 1 := ⟨k - 1, by omega⟩
    obtain rfl : rest = hi + 1 := by omega
    rw [F_X8_tellSeenWays_15, if_pos (nI_lt (by omega) (by omega))]
    exact ⟨L, rfl, h⟩
  | succ t ih =>
    intro k rest L hr hl hk h
    obtain ⟨k, rfl⟩ : ∃ q, k = q + 1 := ⟨k - 1, by omega⟩
    have h' : WLo L (stB1 z lo mo rest 1) := fun i hi => by
      obtain ⟨W, w1, w2, w3⟩ := h i hi
      refine ⟨W, w1, w2, fun k hk => ?_⟩
      rw [w3 k hk]
      unfold stB1
      by_cases hy : 1 ≤ 64 * (i % 5) + k ∧ 64 * (i % 5) + k ≤ mo
      · congr 1
        exact decide_eq_decide.mpr (by omega)
      · rw [decide_eq_false hy, Bool.false_and, Bool.and_false, Bool.and_false]
    obtain ⟨M1, g1, g2⟩ := tell31 (N := N) (hi := hi) (r := F_X8_tellSeenWays_15 N k) hz hz2 hl (by omega) (by omega) hm mo N 1 L (by omega) (by omega) (by omega) h'
    obtain ⟨M, f1, f2⟩ := ih k (rest + 1) M1 (by omega) (by omega) (by omega) g2
    have g1' : F_X8_tellSeenWays_31 N (F_X8_tellSeenWays_15 N k) N (nI hi) (nI mo) (nI rest) 1 I L = _ := g1
    refine ⟨M, ?_, f2⟩
    rw [F_X8_tellSeenWays_15, if_neg (nI_nlt (by omega) (by omega)), show (30 : Int32) = nI 30 from rfl, if_neg (nI_nlt (by omega) (by omega)), g1']
    exact f1
theorem tell_w {L : PL} (hN : 20000 ≤ N) (hz : z ≤ 9) (hz2 : I 13 0 = nI z) (h2 : 2 ≤ lo) (hh : hi ≤ 30) (hlh : lo ≤ hi) (hm1 : 1 ≤ mo) (hm : mo ≤ 300) : ∃ M : PL, f_X8_tellSeenWays N (nI lo) (nI hi) (nI mo) I L = some (none, I, M) ∧ WLo M (stB1 z lo mo (hi + 1) 0) := by
  obtain ⟨M0, e0, f0⟩ := fill29Lp (N := N) (I := I) 155 N 0 L (by omega) (by omega) (fun j hj => by omega)
  obtain ⟨M, g1, g2⟩ := tell15 (N := N) hN hz hz2 h2 hh hm1 hm (hi + 1 - lo) N lo M0 (by omega) (by omega) (by omega) (fun i hi => ⟨0, by decide, f0 i hi, fun k _ => by
    rw [Nat.zero_testBit]
    unfold stB1
    rw [decide_eq_false (p := lo ≤ i / 5 ∧ (i / 5 < lo ∨ (i / 5 = lo ∧ 64 * (i % 5) + k < 0))) (by omega)]
    rfl⟩)
  refine ⟨M, ?_, g2⟩
  unfold f_X8_tellSeenWays f_J7_fill_d0a16_r29
  have e0' : F_J7_fill_d0a16_r29_6 N N 0 0 155 I L = _ := e0
  rw [e0', bV_s, show (1 : Int32) = nI 1 from rfl, jmax_n (by omega) (by omega), Nat.max_eq_left (by omega), nmI_s]
  exact g1
/-- a way is seen by a rest -/
def sd (z d y : Nat) : Nat := if 0 < d ∧ z ≤ y % d then 1 else 0
def sn3 (z d e f y : Nat) : Nat := sd z d y + sd z e y + sd z f y
/-- how many are seen by three -/
def V3 (z b mo d e f : Nat) : Nat := cnt (fun i => decide (b ≤ sn3 z d e f (i + 1))) mo
theorem V3_le {d e f : Nat} : V3 z b mo d e f ≤ mo := cnt_le mo
def okR (lo hi d : Nat) : Prop := d = 0 ∨ (lo ≤ d ∧ d ≤ hi)
/-- the bit of a way, of a rest -/
def bR (z mo d y : Nat) : Bool := decide (1 ≤ y ∧ y ≤ mo) && (decide (0 < d) && decide (z ≤ y % d))
theorem ways_s {L : PL} {d w : Nat} (h : WLo L (stB1 z lo mo (hi + 1) 0)) (h2 : 2 ≤ lo) (hh : hi ≤ 30) (hd : okR lo hi d) (hw : w < 5) : ∃ W, W < 2 ^ 64 ∧ f_X8_waysOf N (nI d) (nI w) I L = some (some (.long (lN W)), I, L) ∧ ∀ k, k < 64 → W.testBit k = bR z mo d (64 * w + k) := by
  unfold okR at hd
  obtain ⟨W, w1, w2, w3⟩ := h (5 * d + w) (by omega)
  refine ⟨W, w1, ?_, fun k hk => ?_⟩
  · unfold f_X8_waysOf
    rw [show (5 : Int32) = nI 5 from rfl, pk_mul, nI_add, nmI_s, if_neg (nI_pos (by omega)), show (155 : Int32) = nI 155 from rfl, if_neg (nI_ge (by omega) (by omega)), gd_in (by omega) (by omega), nI_clamp (by omega), Nat.mul_comm d 5, w2]
  · rw [w3 k hk]
    unfold stB1 bR
    rw [show (5 * d + w) / 5 = d by omega, show (5 * d + w) % 5 = w by omega]
    by_cases h0 : d = 0
    · rw [decide_eq_false (p := lo ≤ d ∧ (d < hi + 1 ∨ (d = hi + 1 ∧ 64 * w + k < 0))) (by omega), decide_eq_false (p := 0 < d) (by omega), Bool.false_and, Bool.false_and, Bool.and_false]
    · rw [decide_eq_true (p := lo ≤ d ∧ (d < hi + 1 ∨ (d = hi + 1 ∧ 64 * w + k < 0))) (by omega), decide_eq_true (p := 0 < d) (by omega), Bool.true_and, Bool.true_and]
theorem bR_sd {d y : Nat} (hy : 1 ≤ y ∧ y ≤ mo) : (bif bR z mo d y then 1 else 0) = sd z d y := by
  unfold bR sd
  rw [decide_eq_true hy, Bool.true_and]
  by_cases h1 : 0 < d
  · by_cases h2 : z ≤ y % d
    · rw [decide_eq_true h1, decide_eq_true h2, if_pos ⟨h1, h2⟩]; rfl
    · rw [decide_eq_false h2, Bool.and_false, if_neg (fun q => h2 q.2)]; rfl
  · rw [decide_eq_false h1, Bool.false_and, if_neg (fun q => h1 q.1)]; rfl
/-- enough of three bits -/
def maj (b : Nat) (x y t : Bool) : Bool := decide (b ≤ (bif x then 1 else 0) + (bif y then 1 else 0) + (bif t then 1 else 0))
theorem three_sum {d e f : Nat} (hb : 1 ≤ b) (hm : mo ≤ 300) : cnt (fun y => maj b (bR z mo d y) (bR z mo e y) (bR z mo f y)) 320 = V3 z b mo d e f := by
  have o : ∀ y, ¬ (1 ≤ y ∧ y ≤ mo) → maj b (bR z mo d y) (bR z mo e y) (bR z mo f y) = false := fun y hy => by
    unfold maj bR
    rw [decide_eq_false hy, Bool.false_and, Bool.false_and, Bool.false_and]
    exact decide_eq_false (by show ¬ b ≤ 0 + 0 + 0; omega)
  have e1 : cnt (fun y => maj b (bR z mo d y) (bR z mo e y) (bR z mo f y)) 320 = cnt (fun y => maj b (bR z mo d y) (bR z mo e y) (bR z mo f y)) (1 + mo) := cnt_ext (by omega) (fun k hk => o k (by omega))
  rw [e1, cnt_split, cnt_none 1 (fun k hk => o k (by omega)), Nat.zero_add]
  refine cnt_congr (fun k hk => ?_)
  unfold maj sn3
  rw [bR_sd (by omega), bR_sd (by omega), bR_sd (by omega), Nat.add_comm 1 k]
theorem threeLp {L : PL} {d e f : Nat} (h : WLo L (stB1 z lo mo (hi + 1) 0)) (h2 : 2 ≤ lo) (hh : hi ≤ 30) (hb1 : 1 ≤ b) (hb8 : b ≤ 8) (hb2 : I 13 1 = nI b) (hd : okR lo hi d) (he : okR lo hi e) (hf : okR lo hi f) : ∀ (t k w : Nat), w + t = 5 → t < k → F_X8_seenByThree_6 N k (nI d) (nI e) (nI f) (nI (cnt (fun y => maj b (bR z mo d y) (bR z mo e y) (bR z mo f y)) (64 * w))) (nI w) I L = some (some (.int (nI (cnt (fun y => maj b (bR z mo d y) (bR z mo e y) (bR z mo f y)) 320))), I, L) := by
  intro t
  induction t with
  | zero =>
    intro k w hw hk
    obtain ⟨k, rfl⟩ : ∃ q, k = q + 1 := ⟨k - 1, by omega⟩
    obtain rfl : w = 5 := by omega
    rw [F_X8_seenByThree_6, if_pos (show (5 : Int32) ≤ nI 5 by decide)]
  | succ t ih =>
    intro k w hw hk
    obtain ⟨k, rfl⟩ : ∃ q, k = q + 1 := ⟨k - 1, by omega⟩
    obtain ⟨A, a1, a2, a3⟩ := ways_s (N := N) (I := I) h h2 hh hd (by omega : w < 5)
    obtain ⟨C, c1, c2, c3⟩ := ways_s (N := N) (I := I) h h2 hh he (by omega : w < 5)
    obtain ⟨D, d1, d2, d3⟩ := ways_s (N := N) (I := I) h h2 hh hf (by omega : w < 5)
    have ih' := ih k (w + 1) (by omega) (by omega)
    have e0 : cnt (fun y => maj b (bR z mo d y) (bR z mo e y) (bR z mo f y)) (64 * (w + 1)) = cnt (fun y => maj b (bR z mo d y) (bR z mo e y) (bR z mo f y)) (64 * w) + cnt (fun k => maj b (bR z mo d (64 * w + k)) (bR z mo e (64 * w + k)) (bR z mo f (64 * w + k))) 64 := by
      rw [show 64 * (w + 1) = 64 * w + 64 by omega, cnt_split]
    rw [e0] at ih'
    rw [F_X8_seenByThree_6, show (5 : Int32) = nI 5 from rfl, if_neg (nI_ge (by omega) (by omega)), a2, bJ_s, c2, bJ_s, d2, bJ_s, gd_in1 (by omega) (by omega), cl1, hb2, nI_1]
    have fin : ∀ W, (∀ k, k < 64 → W.testBit k = maj b (A.testBit k) (C.testBit k) (D.testBit k)) → pop64 W = cnt (fun k => maj b (bR z mo d (64 * w + k)) (bR z mo e (64 * w + k)) (bR z mo f (64 * w + k))) 64 := fun W hW => cnt_congr (fun k hk => by rw [hW k hk, a3 k hk, c3 k hk, d3 k hk])
    by_cases b1 : b = 1
    · have hW : (A ||| C ||| D) < 2 ^ 64 := Nat.or_lt_two_pow (Nat.or_lt_two_pow a1 c1) d1
      rw [if_pos (by rw [b1]; rfl), wb_or a1 c1, wb_or (Nat.or_lt_two_pow a1 c1) d1, pop_s hW, bI_s, nI_add, nmI_s, fin _ (fun k _ => by
        rw [Nat.testBit_or, Nat.testBit_or, b1]
        cases A.testBit k <;> cases C.testBit k <;> cases D.testBit k <;> rfl)]
      exact ih'
    · rw [if_neg (show ¬ nI b = (1 : Int32) from fun q => b1 ((nI_eq (b := 1) (by omega) (by omega)).mp q)), gd_in1 (by omega) (by omega)]
      by_cases b2 : b = 2
      · have hW : (A &&& C ||| A &&& D ||| C &&& D) < 2 ^ 64 := Nat.or_lt_two_pow (Nat.or_lt_two_pow (Nat.and_lt_two_pow _ c1) (Nat.and_lt_two_pow _ d1)) (Nat.and_lt_two_pow _ d1)
        rw [if_pos (by rw [b2]; rfl), wb_and a1 c1, wb_and a1 d1, wb_and c1 d1, wb_or (Nat.and_lt_two_pow _ c1) (Nat.and_lt_two_pow _ d1), wb_or (Nat.or_lt_two_pow (Nat.and_lt_two_pow _ c1) (Nat.and_lt_two_pow _ d1)) (Nat.and_lt_two_pow _ d1), pop_s hW, bI_s, nI_add, nmI_s, fin _ (fun k _ => by
          rw [Nat.testBit_or, Nat.testBit_or, Nat.testBit_and, Nat.testBit_and, Nat.testBit_and, b2]
          cases A.testBit k <;> cases C.testBit k <;> cases D.testBit k <;> rfl)]
        exact ih'
      · rw [if_neg (show ¬ nI b = (2 : Int32) from fun q => b2 ((nI_eq (b := 2) (by omega) (by omega)).mp q)), gd_in1 (by omega) (by omega)]
        by_cases b3 : b = 3
        · have hW : (A &&& C &&& D) < 2 ^ 64 := Nat.and_lt_two_pow _ d1
          rw [if_pos (by rw [b3]; rfl), wb_and a1 c1, wb_and (Nat.and_lt_two_pow _ c1) d1, pop_s hW, bI_s, nI_add, nmI_s, fin _ (fun k _ => by
            rw [Nat.testBit_and, Nat.testBit_and, b3]
            cases A.testBit k <;> cases C.testBit k <;> cases D.testBit k <;> rfl)]
          exact ih'
        · have hz0 : cnt (fun k => maj b (bR z mo d (64 * w + k)) (bR z mo e (64 * w + k)) (bR z mo f (64 * w + k))) 64 = 0 := cnt_none 64 (fun k _ => by
            unfold maj
            refine decide_eq_false ?_
            have q1 : ∀ x : Bool, (bif x then 1 else 0) ≤ 1 := fun x => by cases x <;> decide
            have q2 := q1 (bR z mo d (64 * w + k))
            have q3 := q1 (bR z mo e (64 * w + k))
            have q4 := q1 (bR z mo f (64 * w + k))
            omega)
          rw [if_neg (show ¬ nI b = (3 : Int32) from fun q => b3 ((nI_eq (b := 3) (by omega) (by omega)).mp q))]
          rw [hz0, Nat.add_zero (cnt (fun y => maj b (bR z mo d y) (bR z mo e y) (bR z mo f y)) (64 * w))] at ih'
          exact ih'
theorem three_s {L : PL} {d e f : Nat} (hN : 20000 ≤ N) (h : WLo L (stB1 z lo mo (hi + 1) 0)) (h2 : 2 ≤ lo) (hh : hi ≤ 30) (hm : mo ≤ 300) (hb1 : 1 ≤ b) (hb8 : b ≤ 8) (hb2 : I 13 1 = nI b) (hd : okR lo hi d) (he : okR lo hi e) (hf : okR lo hi f) : f_X8_seenByThree N (nI d) (nI e) (nI f) I L = some (some (.int (nI (V3 z b mo d e f))), I, L) := by
  have e0 := threeLp (N := N) h h2 hh hb1 hb8 hb2 hd he hf 5 N 0 (by omega) (by omega)
  rw [three_sum hb1 hm] at e0
  exact e0
theorem seenByLp {L : PL} {d e f : Nat} (hz2 : I 12 32 = nI z) (hz : z ≤ 9) (hb2 : I 12 33 = nI b) (hb8 : b ≤ 8) (hd : 1 ≤ d) (hd2 : d ≤ 30) (he : e ≤ 30) (hf : f ≤ 30) (hm : mo ≤ 300) : ∀ (t k i : Nat), i + t = mo → t < k → F_X12_seenBy_6 N k (nI d) (nI e) (nI f) (nI mo) (nI (cnt (fun i => decide (b ≤ sn3 z d e f (i + 1))) i)) (nI (i + 1)) I L = some (some (.int (nI (V3 z b mo d e f))), I, L) := by
  intro t
  induction t with
  | zero =>
    intro k i hi hk
    obtain ⟨k, rfl⟩ : ∃ q, k = q + 1 := ⟨k - 1, by omega⟩
    obtain rfl : i = mo := by omega
    rw [F_X12_seenBy_6, if_pos (nI_lt (by omega) (by omega))]
    rfl
  | succ t ih =>
    intro k i hi hk
    obtain ⟨k, rfl⟩ : ∃ q, k = q + 1 := ⟨k - 1, by omega⟩
    have ih' := ih k (i + 1) (by omega) (by omega)
    have e0 := cnt_s (b := fun i => decide (b ≤ sn3 z d e f (i + 1))) (n := i)
    have hlt : ∀ q, 0 < q → q ≤ 30 → (i + 1) % q < 30 := fun q h1 h2 => by have := Nat.mod_lt (i + 1) h1; omega
    -- the last step
    have e78 : ∀ s0 s1 : Nat, s1 + s0 = sn3 z d e f (i + 1) → F_X12_seenBy_78 N (F_X12_seenBy_6 N k) (nI d) (nI e) (nI f) (nI mo) (nI (cnt (fun i => decide (b ≤ sn3 z d e f (i + 1))) i)) (nI (i + 1)) (nI s0) (nI s1) I L = some (some (.int (nI (V3 z b mo d e f))), I, L) := fun s0 s1 hs => by
      have h3 : sn3 z d e f (i + 1) ≤ 3 := by
        have q : ∀ x, sd z x (i + 1) ≤ 1 := fun x => by
          unfold sd
          by_cases hx : 0 < x ∧ z ≤ (i + 1) % x
          · rw [if_pos hx]; exact Nat.le_refl 1
          · rw [if_neg hx]; exact Nat.zero_le 1
        have q1 := q d
        have q2 := q e
        have q3 := q f
        unfold sn3
        omega
      unfold F_X12_seenBy_78
      rw [nI_add, hs, nmI_s, hb2, nI_1]
      by_cases hq : b ≤ sn3 z d e f (i + 1)
      · rw [decide_eq_true hq, cond_true] at e0
        rw [if_neg (nI_nlt hq (by omega)), nI_1, nmI_s, ← e0]
        exact ih'
      · rw [decide_eq_false hq, cond_false, Nat.add_zero (cnt (fun i => decide (b ≤ sn3 z d e f (i + 1))) i)] at e0
        rw [if_pos (nI_lt (by omega) (by omega)), Int32.add_zero, nmI_s, ← e0]
        exact ih'
    have e53 : ∀ s0 s1 : Nat, s1 + s0 = sd z d (i + 1) + sd z e (i + 1) → F_X12_seenBy_53 N (F_X12_seenBy_6 N k) (nI d) (nI e) (nI f) (nI mo) (nI (cnt (fun i => decide (b ≤ sn3 z d e f (i + 1))) i)) (nI (i + 1)) (nI s0) (nI s1) I L = some (some (.int (nI (V3 z b mo d e f))), I, L) := fun s0 s1 hs => by
      unfold F_X12_seenBy_53 F_X12_seenBy_77
      rw [nI_add, nmI_s]
      by_cases h0 : f = 0
      · have e1 : sd z f (i + 1) = 0 := by
          unfold sd
          rw [if_neg (by omega)]
        rw [if_pos (by rw [h0]; decide)]
        exact e78 0 (s1 + s0) (by unfold sn3; omega)
      · have hl := hlt f (by omega) hf
        rw [if_neg (nI_nle (by omega) (by omega)), gd_ne (by omega) (by omega), jirem_n (by omega) (by omega) (by omega), hz2]
        by_cases hs2 : z ≤ (i + 1) % f
        · have e1 : sd z f (i + 1) = 1 := by
            unfold sd
            rw [if_pos ⟨by omega, hs2⟩]
          rw [if_neg (nI_nlt hs2 (by omega))]
          exact e78 1 (s1 + s0) (by unfold sn3; omega)
        · have e1 : sd z f (i + 1) = 0 := by
            unfold sd
            rw [if_neg (fun q => hs2 q.2)]
          rw [if_pos (nI_lt (by omega) (by omega))]
          exact e78 0 (s1 + s0) (by unfold sn3; omega)
    have e29 : ∀ s0 : Nat, s0 = sd z d (i + 1) → F_X12_seenBy_29 N (F_X12_seenBy_6 N k) (nI d) (nI e) (nI f) (nI mo) (nI (cnt (fun i => decide (b ≤ sn3 z d e f (i + 1))) i)) (nI (i + 1)) (nI s0) I L = some (some (.int (nI (V3 z b mo d e f))), I, L) := fun s0 hs => by
      unfold F_X12_seenBy_29 F_X12_seenBy_52
      by_cases h0 : e = 0
      · have e1 : sd z e (i + 1) = 0 := by
          unfold sd
          rw [if_neg (by omega)]
        rw [if_pos (by rw [h0]; decide)]
        exact e53 0 s0 (by omega)
      · have hl := hlt e (by omega) he
        rw [if_neg (nI_nle (by omega) (by omega)), gd_ne (by omega) (by omega), jirem_n (by omega) (by omega) (by omega), hz2]
        by_cases hs2 : z ≤ (i + 1) % e
        · have e1 : sd z e (i + 1) = 1 := by
            unfold sd
            rw [if_pos ⟨by omega, hs2⟩]
          rw [if_neg (nI_nlt hs2 (by omega))]
          exact e53 1 s0 (by omega)
        · have e1 : sd z e (i + 1) = 0 := by
            unfold sd
            rw [if_neg (fun q => hs2 q.2)]
          rw [if_pos (nI_lt (by omega) (by omega))]
          exact e53 0 s0 (by omega)
    have hl := hlt d (by omega) hd2
    rw [F_X12_seenBy_6, if_neg (nI_nlt (by omega) (by omega)), gd_ne (by omega) (by omega), jirem_n (by omega) (by omega) (by omega), hz2]
    by_cases hs2 : z ≤ (i + 1) % d
    · rw [if_neg (nI_nlt hs2 (by omega))]
      exact e29 1 (by
        unfold sd
        rw [if_pos ⟨by omega, hs2⟩])
    · rw [if_pos (nI_lt (by omega) (by omega))]
      exact e29 0 (by
        unfold sd
        rw [if_neg (fun q => hs2 q.2)])
theorem seenBy12_s {L : PL} {d e f : Nat} (hN : 20000 ≤ N) (hz2 : I 12 32 = nI z) (hz : z ≤ 9) (hb2 : I 12 33 = nI b) (hb8 : b ≤ 8) (hd : 1 ≤ d) (hd2 : d ≤ 30) (he : e ≤ 30) (hf : f ≤ 30) (hm : mo ≤ 300) : f_X12_seenBy N (nI d) (nI e) (nI f) (nI mo) I L = some (some (.int (nI (V3 z b mo d e f))), I, L) := seenByLp (N := N) hz2 hz hb2 hb8 hd hd2 he hf hm mo N 0 (by omega) (by omega)
end STG
