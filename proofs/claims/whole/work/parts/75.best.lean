/-! the best codes of a length -/
theorem xor_nI (a b : Nat) : nI a ^^^ nI b = nI (a ^^^ b) := by
  apply Int32.toBitVec_inj.mp
  show BitVec.ofNat 32 a ^^^ BitVec.ofNat 32 b = BitVec.ofNat 32 (a ^^^ b)
  exact (BitVec.ofNat_xor).symm
theorem smod_31 : ∀ k : Nat, k < 32 → ((nI k &&& 31).toBitVec.smod 32).toNat = k := by decide +kernel
theorem shr_n {x k : Nat} (hx : x < 2 ^ 31) (hk : k < 32) : nI x >>> (nI k &&& 31) = nI (x >>> k) := by
  rw [pk_shrN hx _ k (smod_31 k hk), Nat.shiftRight_eq_div_pow]
theorem shl_12 : ∀ k : Nat, k < 14 → (1 : Int32) <<< (nI k &&& 31) = nI (2 ^ k) := by decide +kernel
theorem pc_12' : ∀ h : Nat, h < 16 → ∀ m : Nat, m < 256 → bc5 (bc4 (bc3 (bc2 (bc1 (nI (256 * h + m)))))) &&& 63 = nI (cnt (fun k => (256 * h + m).testBit k) 12) := by decide +kernel
theorem pc_12 {m : Nat} (hm : m < 4096) : bc5 (bc4 (bc3 (bc2 (bc1 (nI m))))) &&& 63 = nI (cnt (fun k => m.testBit k) 12) := by
  have := pc_12' (m / 256) (by omega) (m % 256) (by omega)
  rw [show 256 * (m / 256) + m % 256 = m by omega] at this
  exact this
theorem bits12_s {N m : Nat} {I : PI} {L : PL} (hm : m < 4096) : f_J6_bitCount_0f7a4 N (nI m) I L = some (some (.int (nI (cnt (fun k => m.testBit k) 12))), I, L) := by
  have e : f_J6_bitCount_0f7a4 N (nI m) I L = some (some (.int (bc5 (bc4 (bc3 (bc2 (bc1 (nI m))))) &&& 63)), I, L) := rfl
  rw [e, pc_12 hm]
theorem bit_1 {x k : Nat} : nI (x >>> k) &&& 1 = bif x.testBit k then 1 else 0 := by
  rw [show (1 : Int32) = nI 1 from rfl, and_nI, Nat.and_one_is_mod, Nat.shiftRight_eq_div_pow, Nat.testBit_eq_decide_div_mod_eq]
  rcases Nat.mod_two_eq_zero_or_one (x / 2 ^ k) with h | h
  · rw [h]; rfl
  · rw [h]; rfl
theorem hasx_s {N x k : Nat} {I : PI} {L : PL} (hx : x < 2 ^ 31) (hk : k < 32) : f_X12_has N (nI x) (nI k) I L = some (some (.int (bif x.testBit k then 1 else 0)), I, L) := by
  unfold f_X12_has
  rw [shr_n hx hk, bit_1, gd_k0, gd_k1]
  cases x.testBit k
  · rfl
  · rfl
def unl (n x w : Nat) : Nat := cnt (fun j => x.testBit j != x.testBit (j + w)) (n - w)
def alk (n x w : Nat) : Int := (n : Int) - w - 2 * (unl n x w : Int)
theorem unl_le {n x w : Nat} : unl n x w ≤ n - w := cnt_le (n - w)
theorem xr_lt {n x w : Nat} (hx : x < 2 ^ n) (hn : n ≤ 12) : (x ^^^ (x >>> w)) &&& (2 ^ (n - w) - 1) < 4096 := by
  have h1 : 2 ^ (n - w) ≤ 2 ^ 12 := Nat.pow_le_pow_right (by decide) (by omega)
  have h2 : 1 ≤ 2 ^ (n - w) := Nat.one_le_two_pow
  have h3 : (x ^^^ (x >>> w)) &&& (2 ^ (n - w) - 1) ≤ 2 ^ (n - w) - 1 := Nat.and_le_right
  omega
theorem xr_cnt {n x w : Nat} (hn : n ≤ 12) : cnt (fun k => ((x ^^^ (x >>> w)) &&& (2 ^ (n - w) - 1)).testBit k) 12 = unl n x w := by
  rw [cnt_ext (n := n - w) (by omega) (fun k hk => by rw [Nat.testBit_and, Nat.testBit_two_pow_sub_one, decide_eq_false (by omega), Bool.and_false])]
  refine cnt_congr (fun k hk => ?_)
  rw [Nat.testBit_and, Nat.testBit_two_pow_sub_one, decide_eq_true hk, Bool.and_true, Nat.testBit_xor, Nat.testBit_shiftRight, Nat.add_comm w k]
section BEST
variable {N n x : Nat} {L : PL}
theorem alikLp {w : Nat} {I : PI} (hn : n ≤ 12) (hx : x < 2 ^ 31) (hw : w ≤ n) : ∀ (t k i : Nat), i + t = n - w → t < k → F_X12_alikeAt_5 N k (nI x) (nI n) (nI w) (zI ((i : Int) - 2 * (cnt (fun j => x.testBit j != x.testBit (j + w)) i : Int))) (nI (w + i)) I L = some (some (.int (zI (alk n x w))), I, L) := by
  intro t
  induction t with
  | zero =>
    intro k i hi hk
    obtain ⟨k, rfl⟩ : ∃ q, k = q + 1 := ⟨k - 1, by omega⟩
    rw [F_X12_alikeAt_5, if_pos (nI_le (by omega) (by omega)), show i = n - w by omega]
    unfold alk unl
    rw [show ((n - w : Nat) : Int) = (n : Int) - w by omega]
  | succ t ih =>
    intro k i hi hk
    obtain ⟨k, rfl⟩ : ∃ q, k = q + 1 := ⟨k - 1, by omega⟩
    have e := cnt_s (b := fun j => x.testBit j != x.testBit (j + w)) (n := i)
    have h := ih k (i + 1) (by omega) (by omega)
    rw [F_X12_alikeAt_5, if_neg (nI_ge (by omega) (by omega)), hasx_s hx (by omega), bI_s, nsub (by omega), show w + i - w = i by omega, hasx_s hx (by omega), bI_s, nI_1, Nat.add_comm w i] at *
    rw [show w + (i + 1) = i + w + 1 by omega] at h
    cases h1 : x.testBit (i + w) with
    | false =>
      cases h2 : x.testBit i with
      | false =>
        rw [h1, h2] at e
        have e' : cnt (fun j => x.testBit j != x.testBit (j + w)) (i + 1) = cnt (fun j => x.testBit j != x.testBit (j + w)) i := e
        rw [e'] at h
        rw [if_pos rfl, nmI_s, zI_1, show (i : Int) - 2 * (cnt (fun j => x.testBit j != x.testBit (j + w)) i : Int) + 1 = ((i + 1 : Nat) : Int) - 2 * (cnt (fun j => x.testBit j != x.testBit (j + w)) i : Int) by omega]
        exact h
      | true =>
        rw [h1, h2] at e
        have e' : cnt (fun j => x.testBit j != x.testBit (j + w)) (i + 1) = cnt (fun j => x.testBit j != x.testBit (j + w)) i + 1 := e
        rw [e'] at h
        rw [if_neg (by decide), nmI_s, show (-1 : Int32) = zI (-1) from by decide +kernel, zI_add, show (i : Int) - 2 * (cnt (fun j => x.testBit j != x.testBit (j + w)) i : Int) + -1 = ((i + 1 : Nat) : Int) - 2 * ((cnt (fun j => x.testBit j != x.testBit (j + w)) i + 1 : Nat) : Int) by omega]
        exact h
    | true =>
      cases h2 : x.testBit i with
      | false =>
        rw [h1, h2] at e
        have e' : cnt (fun j => x.testBit j != x.testBit (j + w)) (i + 1) = cnt (fun j => x.testBit j != x.testBit (j + w)) i + 1 := e
        rw [e'] at h
        rw [if_neg (by decide), nmI_s, show (-1 : Int32) = zI (-1) from by decide +kernel, zI_add, show (i : Int) - 2 * (cnt (fun j => x.testBit j != x.testBit (j + w)) i : Int) + -1 = ((i + 1 : Nat) : Int) - 2 * ((cnt (fun j => x.testBit j != x.testBit (j + w)) i + 1 : Nat) : Int) by omega]
        exact h
      | true =>
        rw [h1, h2] at e
        have e' : cnt (fun j => x.testBit j != x.testBit (j + w)) (i + 1) = cnt (fun j => x.testBit j != x.testBit (j + w)) i := e
        rw [e'] at h
        rw [if_pos rfl, nmI_s, zI_1, show (i : Int) - 2 * (cnt (fun j => x.testBit j != x.testBit (j + w)) i : Int) + 1 = ((i + 1 : Nat) : Int) - 2 * (cnt (fun j => x.testBit j != x.testBit (j + w)) i : Int) by omega]
        exact h
theorem alik_s {w : Nat} {I : PI} (hN : 20000 ≤ N) (hn : n ≤ 12) (hx : x < 2 ^ 31) (hw : w ≤ n) : f_X12_alikeAt N (nI x) (nI n) (nI w) I L = some (some (.int (zI (alk n x w))), I, L) := alikLp (N := N) hn hx hw (n - w) N 0 (by omega) (by omega)
def moB (n x : Nat) : Nat → Int32
  | 0 => 0
  | i + 1 => jmax (moB n x i) (zI (alk n x (i + 1)) * zI (alk n x (i + 1)))
def suB (n x : Nat) : Nat → Int32
  | 0 => 0
  | i + 1 => suB n x i + (2 * zI (alk n x (i + 1))) * zI (alk n x (i + 1))
theorem sq_b {v : Int} (h1 : -12 ≤ v) (h2 : v ≤ 12) : 0 ≤ v * v ∧ v * v ≤ 144 := by
  have e : v * v = ((v.natAbs * v.natAbs : Nat) : Int) := by
    rw [Int.natCast_mul, Int.natAbs_mul_self']
  have h : v.natAbs * v.natAbs ≤ 12 * 12 := Nat.mul_le_mul (by omega) (by omega)
  omega
theorem alk_b {w : Nat} (hn : n ≤ 12) (hw : w ≤ n) : -12 ≤ alk n x w ∧ alk n x w ≤ 12 := by
  have := unl_le (n := n) (x := x) (w := w)
  unfold alk
  omega
theorem moB_b (hn : n ≤ 12) : ∀ i, i ≤ n → ∃ v : Int, moB n x i = zI v ∧ 0 ≤ v ∧ v ≤ 144 := by
  intro i
  induction i with
  | zero => intro _; exact ⟨0, rfl, by omega, by omega⟩
  | succ i ih =>
    intro hi
    obtain ⟨v, h1, h2, h3⟩ := ih (by omega)
    have hb := alk_b (n := n) (x := x) (w := i + 1) hn hi
    have hs := sq_b hb.1 hb.2
    have e : moB n x (i + 1) = jmax (moB n x i) (zI (alk n x (i + 1)) * zI (alk n x (i + 1))) := rfl
    rw [e, h1, zI_mul]
    rcases jmax_or (zI v) (zI (alk n x (i + 1) * alk n x (i + 1))) with q | q
    · exact ⟨v, q, h2, h3⟩
    · exact ⟨_, q, hs.1, hs.2⟩
theorem suB_b (hn : n ≤ 12) : ∀ i, i ≤ n → ∃ v : Int, suB n x i = zI v ∧ 0 ≤ v ∧ v ≤ 288 * i := by
  intro i
  induction i with
  | zero => intro _; exact ⟨0, rfl, by omega, by omega⟩
  | succ i ih =>
    intro hi
    obtain ⟨v, h1, h2, h3⟩ := ih (by omega)
    have hb := alk_b (n := n) (x := x) (w := i + 1) hn hi
    have hs := sq_b hb.1 hb.2
    have e : suB n x (i + 1) = suB n x i + (2 * zI (alk n x (i + 1))) * zI (alk n x (i + 1)) := rfl
    refine ⟨v + 2 * alk n x (i + 1) * alk n x (i + 1), ?_, ?_, ?_⟩
    · rw [e, h1, show (2 : Int32) = zI 2 from rfl, zI_mul, zI_mul, zI_add]
    · rw [Int.mul_assoc]; omega
    · rw [Int.mul_assoc]; omega
theorem moB_le {i j : Nat} (h : i ≤ j) : moB n x i ≤ moB n x j := by
  induction j with
  | zero => rw [show i = 0 by omega, Int32.le_iff_toInt_le]; omega
  | succ j ih =>
    by_cases e : i = j + 1
    · rw [e, Int32.le_iff_toInt_le]; omega
    · exact i32_trans (ih (by omega)) (jmax_l _ _)
theorem tryLp {I : PI} (hn : n ≤ 12) (hx : x < 2 ^ n) : ∀ (t k i : Nat), i + 1 + t = n → t < k → F_X1_tryCode_8 N k (nI x) (nI n) (moB n x i) (suB n x i) (nI (i + 1)) I L = F_X1_tryCode_81 N (nI x) (moB n x (n - 1)) (suB n x (n - 1)) I L := by
  have h12 : 2 ^ n ≤ 2 ^ 12 := Nat.pow_le_pow_right (by decide) hn
  intro t
  induction t with
  | zero =>
    intro k i hi hk
    obtain ⟨k, rfl⟩ : ∃ q, k = q + 1 := ⟨k - 1, by omega⟩
    rw [F_X1_tryCode_8, if_pos (nI_le (by omega) (by omega)), show i = n - 1 by omega]
  | succ t ih =>
    intro k i hi hk
    obtain ⟨k, rfl⟩ : ∃ q, k = q + 1 := ⟨k - 1, by omega⟩
    rw [F_X1_tryCode_8, if_neg (nI_ge (by omega) (by omega))]
    by_cases hlt : I 1 5 < moB n x i
    · have h1 : ¬ moB n x i ≤ I 1 5 := i32_nle.mpr hlt
      have h2 : ¬ moB n x (n - 1) ≤ I 1 5 := fun q => h1 (i32_trans (moB_le (by omega)) q)
      rw [if_pos hlt]
      unfold F_X1_tryCode_81
      rw [if_neg h1, if_neg h2]
    · have e1 : nI n - nI (i + 1) - 2 * nI (unl n x (i + 1)) = zI (alk n x (i + 1)) := by
        unfold alk
        rw [show (2 : Int32) = nI 2 from rfl, pk_mul, zI_n, zI_n, zI_n, zI_sub, zI_sub]
        congr 1
      rw [if_neg hlt, shr_n (by omega) (by omega), xor_nI, nsub (by omega), shl_12 _ (by omega), nsub1 Nat.one_le_two_pow, and_nI, bits12_s (xr_lt hx hn), bI_s, xr_cnt hn, ← nsub (by omega), e1, nmI_s, nmI_s, nmI_s, nI_1]
      exact ih k (i + 1) (by omega) (by omega)
abbrev BT : Type := Int32 × Int32 × Int32 × Int32
/-- one code tried, as the model does it -/
def stB (n x : Nat) (b : BT) : BT :=
  if b.1 = -1 ∨ moB n x (n - 1) < b.2.1 then (nI x, moB n x (n - 1), suB n x (n - 1), 1)
  else if moB n x (n - 1) = b.2.1 then (if b.2.2.1 ≤ suB n x (n - 1) then (b.1, b.2.1, b.2.2.1, b.2.2.2 + 1) else (nI x, moB n x (n - 1), suB n x (n - 1), b.2.2.2 + 1))
  else b
def beB (n : Nat) : Nat → BT
  | 0 => (-1, 0, 0, 0)
  | x + 1 => stB n x (beB n x)
theorem bmLp {I : PI} {a2 : Int32} {r : Int32 → Int32 → Int32 → Int32 → Int32 → Int32 → Int32 → PI → PL → RES} (hN : 20000 ≤ N) (hn : n ≤ 12) (hx : x < 2 ^ n) (b : BT) : ∀ (t k i : Nat), i + 1 + t = n → t < k → F_X12_best_52 N r k (nI n) a2 b.1 b.2.1 b.2.2.1 b.2.2.2 (nI x) (moB n x i) (suB n x i) (nI (i + 1)) I L = r (nI n) a2 (stB n x b).1 (stB n x b).2.1 (stB n x b).2.2.1 (stB n x b).2.2.2 (nI (x + 1)) I L := by
  have h12 : 2 ^ n ≤ 2 ^ 12 := Nat.pow_le_pow_right (by decide) hn
  intro t
  induction t with
  | zero =>
    intro k i hi hk
    obtain ⟨k, rfl⟩ : ∃ q, k = q + 1 := ⟨k - 1, by omega⟩
    obtain rfl : i = n - 1 := by omega
    rw [F_X12_best_52, if_pos (nI_le (by omega) (by omega))]
    unfold F_X12_best_110 F_X12_best_130 F_X12_best_158
    rw [nI_1]
    by_cases h1 : b.1 = -1
    · have eS : stB n x b = (nI x, moB n x (n - 1), suB n x (n - 1), 1) := by
        unfold stB
        rw [if_pos (Or.inl h1)]
      rw [eS, if_pos h1, if_pos h1]
    · by_cases h2 : moB n x (n - 1) < b.2.1
      · have eS : stB n x b = (nI x, moB n x (n - 1), suB n x (n - 1), 1) := by
          unfold stB
          rw [if_pos (Or.inr h2)]
        rw [eS, if_neg h1, if_neg (i32_nle.mpr h2), if_neg h1, if_pos h2]
      · have h0 : ¬ (b.1 = -1 ∨ moB n x (n - 1) < b.2.1) := fun q => Or.elim q h1 h2
        by_cases h3 : moB n x (n - 1) = b.2.1
        · by_cases h4 : b.2.2.1 ≤ suB n x (n - 1)
          · have eS : stB n x b = (b.1, b.2.1, b.2.2.1, b.2.2.2 + 1) := by
              unfold stB
              rw [if_neg h0, if_pos h3, if_pos h4]
            rw [eS, if_neg h1, if_pos (i32_nlt.mp h2), if_pos h3, if_neg h1, if_neg h2, if_pos h3, if_pos h4]
          · have eS : stB n x b = (nI x, moB n x (n - 1), suB n x (n - 1), b.2.2.2 + 1) := by
              unfold stB
              rw [if_neg h0, if_pos h3, if_neg h4]
            rw [eS, if_neg h1, if_pos (i32_nlt.mp h2), if_pos h3, if_neg h1, if_neg h2, if_pos h3, if_neg h4]
        · have eS : stB n x b = b := by
            unfold stB
            rw [if_neg h0, if_neg h3]
          rw [eS, if_neg h1, if_pos (i32_nlt.mp h2), if_neg h3, if_neg h1, if_neg h2, if_neg h3]
  | succ t ih =>
    intro k i hi hk
    obtain ⟨k, rfl⟩ : ∃ q, k = q + 1 := ⟨k - 1, by omega⟩
    rw [F_X12_best_52, if_neg (nI_ge (by omega) (by omega)), alik_s hN hn (by omega) (by omega), bI_s, nmI_s, nmI_s, nI_1]
    exact ih k (i + 1) (by omega) (by omega)
def selB (w : Int32) (b : BT) : Int32 := if w = 0 then b.1 else if w = 1 then b.2.1 else if w = 2 then b.2.2.1 else b.2.2.2
theorem bm35 {I : PI} {a2 : Int32} (hN : 20000 ≤ N) (hn1 : 1 ≤ n) (hn : n ≤ 12) : ∀ (t k x : Nat), x + t = 2 ^ n → t < k → F_X12_best_35 N k (nI n) a2 (beB n x).1 (beB n x).2.1 (beB n x).2.2.1 (beB n x).2.2.2 (nI x) I L = some (some (.int (selB a2 (beB n (2 ^ n)))), I, L) := by
  have h12 : 2 ^ n ≤ 2 ^ 12 := Nat.pow_le_pow_right (by decide) hn
  intro t
  induction t with
  | zero =>
    intro k x hi hk
    obtain ⟨k, rfl⟩ : ∃ q, k = q + 1 := ⟨k - 1, by omega⟩
    rw [F_X12_best_35, shl_12 _ (by omega), if_pos (nI_le (by omega) (by omega)), show x = 2 ^ n by omega]
    unfold selB
    by_cases h0 : a2 = 0
    · rw [if_pos h0, if_pos h0]
    · rw [if_neg h0, if_neg h0]
      by_cases h1 : a2 = 1
      · rw [if_pos h1, if_pos h1]
      · rw [if_neg h1, if_neg h1]
        by_cases h2 : a2 = 2
        · rw [if_pos h2, if_pos h2]
        · rw [if_neg h2, if_neg h2]
  | succ t ih =>
    intro k x hi hk
    obtain ⟨k, rfl⟩ : ∃ q, k = q + 1 := ⟨k - 1, by omega⟩
    have h := bmLp (N := N) (L := L) (I := I) (a2 := a2) (r := F_X12_best_35 N k) hN hn (by omega : x < 2 ^ n) (beB n x) (n - 1) N 0 (by omega) (by omega)
    have h' : F_X12_best_52 N (F_X12_best_35 N k) N (nI n) a2 (beB n x).1 (beB n x).2.1 (beB n x).2.2.1 (beB n x).2.2.2 (nI x) 0 0 1 I L = _ := h
    rw [F_X12_best_35, shl_12 _ (by omega), if_neg (nI_ge (by omega) (by omega)), h']
    exact ih k (x + 1) (by omega) (by omega)
/-- the class's four numbers -/
def dK (a k : Nat) : Prop := a = 1 ∧ 4 ≤ k ∧ k ≤ 7
def B4 (I : PI) (b : BT) : Prop := I 1 4 = b.1 ∧ I 1 5 = b.2.1 ∧ I 1 6 = b.2.2.1 ∧ I 1 7 = b.2.2.2
theorem far_lt {v : Int} (h1 : 0 ≤ v) (h2 : v ≤ 10000) : ¬ (1000000 : Int32) ≤ zI v := by
  rw [show (1000000 : Int32) = zI 1000000 from rfl, zI_le (by omega) (by omega) (by omega) (by omega)]
  omega
theorem try_s {I : PI} {b : BT} (hN : 20000 ≤ N) (hn1 : 1 ≤ n) (hn : n ≤ 12) (hx : x < 2 ^ n) (hb : (b.1 = -1 ∧ I 1 5 = 1000000) ∨ (b.1 ≠ -1 ∧ B4 I b)) : ∃ J : PI, f_X1_tryCode N (nI x) (nI n) I L = some (none, J, L) ∧ Kp dK I J ∧ B4 J (stB n x b) := by
  have h12 : 2 ^ n ≤ 2 ^ 12 := Nat.pow_le_pow_right (by decide) hn
  have e0 : f_X1_tryCode N (nI x) (nI n) I L = F_X1_tryCode_81 N (nI x) (moB n x (n - 1)) (suB n x (n - 1)) I L := tryLp (N := N) (L := L) (I := I) hn hx (n - 1) N 0 (by omega) (by omega)
  obtain ⟨mv, m1, m2, m3⟩ := moB_b (x := x) hn (n - 1) (by omega)
  obtain ⟨sv, s1, s2, s3⟩ := suB_b (x := x) hn (n - 1) (by omega)
  rw [e0]
  unfold F_X1_tryCode_81 F_X1_tryCode_114 stB
  have kD : ∀ k, 4 ≤ k ∧ k ≤ 7 → dK 1 k := fun k h => ⟨rfl, h⟩
  -- a new least side
  have new : moB n x (n - 1) ≤ I 1 5 → ¬ I 1 5 ≤ moB n x (n - 1) → ∃ J : PI, (if moB n x (n - 1) ≤ I 1 5 then (if I 1 5 ≤ moB n x (n - 1) then (nmW (uI I 1 7 ((I 1 7) + 1)) (fun I1 => (if (I1 1 6) ≤ suB n x (n - 1) then some (none, I1, L) else nmW (uI I1 1 4 (nI x)) (fun I2 => nmW (uI I2 1 6 (suB n x (n - 1))) (fun I3 => some (none, I3, L)))))) else nmW (uI I 1 5 (moB n x (n - 1))) (fun I4 => nmW (uI I4 1 6 1000000) (fun I5 => nmW (uI I5 1 7 0) (fun I6 => nmW (uI I6 1 7 ((I6 1 7) + 1)) (fun I1 => (if (I1 1 6) ≤ suB n x (n - 1) then some (none, I1, L) else nmW (uI I1 1 4 (nI x)) (fun I2 => nmW (uI I2 1 6 (suB n x (n - 1))) (fun I3 => some (none, I3, L))))))))) else some (none, I, L)) = some (none, J, L) ∧ Kp dK I J ∧ B4 J (nI x, moB n x (n - 1), suB n x (n - 1), 1) := fun h1 h2 => by
    rw [if_pos h1, if_neg h2, nmW_s, nmW_s, nmW_s, nmW_s, uI_ne (a := 1) (k := 6) (by omega), uI_ne (a := 1) (k := 6) (by omega), uI_eq, s1, if_neg (far_lt s2 (by omega)), nmW_s, nmW_s]
    refine ⟨_, rfl, ((((((Kp.rf.up (kD 5 (by omega))).up (kD 6 (by omega))).up (kD 7 (by omega))).up (kD 7 (by omega))).up (kD 4 (by omega))).up (kD 6 (by omega))), ?_, ?_, ?_, ?_⟩
    · rw [uI_ne (by omega), uI_eq]
    · rw [uI_ne (by omega), uI_ne (by omega), uI_ne (by omega), uI_ne (by omega), uI_ne (by omega), uI_eq]
    · rw [uI_eq]
    · rw [uI_ne (by omega), uI_ne (by omega), uI_eq, uI_eq]
      rfl
  rcases hb with ⟨g1, g2⟩ | ⟨g1, g2, g3, g4, g5⟩
  · rw [if_pos (Or.inl g1)]
    have q := far_lt (v := mv) m2 (by omega)
    rw [← m1, ← g2] at q
    exact new (by
      rw [Int32.le_iff_toInt_le] at q ⊢
      omega) q
  · by_cases h2 : moB n x (n - 1) < b.2.1
    · rw [if_pos (Or.inr h2)]
      rw [← g3] at h2
      exact new (by
        rw [Int32.lt_iff_toInt_lt] at h2
        rw [Int32.le_iff_toInt_le]
        omega) (i32_nle.mpr h2)
    · rw [if_neg (show ¬ (b.1 = -1 ∨ moB n x (n - 1) < b.2.1) from fun q => Or.elim q g1 h2)]
      by_cases h3 : moB n x (n - 1) = b.2.1
      · rw [if_pos h3]
        have h4 : moB n x (n - 1) = I 1 5 := h3.trans g3.symm
        have hle : moB n x (n - 1) ≤ I 1 5 := by rw [h4, Int32.le_iff_toInt_le]; omega
        have hge : I 1 5 ≤ moB n x (n - 1) := by rw [h4, Int32.le_iff_toInt_le]; omega
        rw [if_pos hle, if_pos hge, nmW_s, uI_ne (a := 1) (k := 6) (by omega), g4]
        by_cases h5 : b.2.2.1 ≤ suB n x (n - 1)
        · rw [if_pos h5, if_pos h5]
          refine ⟨_, rfl, Kp.rf.up (kD 7 (by omega)), ?_, ?_, ?_, ?_⟩
          · rw [uI_ne (by omega)]; exact g2
          · rw [uI_ne (by omega)]; exact g3
          · rw [uI_ne (by omega)]; exact g4
          · rw [uI_eq, g5]
        · rw [if_neg h5, if_neg h5, nmW_s, nmW_s]
          refine ⟨_, rfl, ((Kp.rf.up (kD 7 (by omega))).up (kD 4 (by omega))).up (kD 6 (by omega)), ?_, ?_, ?_, ?_⟩
          · rw [uI_ne (by omega), uI_eq]
          · rw [uI_ne (by omega), uI_ne (by omega), uI_ne (by omega)]; exact h4.symm
          · rw [uI_eq]
          · rw [uI_ne (by omega), uI_ne (by omega), uI_eq, g5]
      · rw [if_neg h3, if_neg (fun q => by
          rw [g3] at q
          exact h3 (i32_anti q (i32_nlt.mp h2)))]
        exact ⟨I, rfl, Kp.rf, g2, g3, g4, g5⟩
theorem be_ne (hn : n ≤ 12) : ∀ x, x ≤ 2 ^ n → 1 ≤ x → (beB n x).1 ≠ -1 := by
  have h12 : 2 ^ n ≤ 2 ^ 12 := Nat.pow_le_pow_right (by decide) hn
  intro x
  induction x with
  | zero => intro _ h; omega
  | succ x ih =>
    intro hx _
    show (stB n x (beB n x)).1 ≠ -1
    unfold stB
    by_cases h1 : (beB n x).1 = -1 ∨ moB n x (n - 1) < (beB n x).2.1
    · rw [if_pos h1]; exact m_ne' (by omega)
    · rw [if_neg h1]
      have h2 : (beB n x).1 ≠ -1 := fun q => h1 (Or.inl q)
      by_cases h3 : moB n x (n - 1) = (beB n x).2.1
      · rw [if_pos h3]
        by_cases h4 : (beB n x).2.2.1 ≤ suB n x (n - 1)
        · rw [if_pos h4]; exact h2
        · rw [if_neg h4]; exact m_ne' (by omega)
      · rw [if_neg h3]; exact h2
theorem findLp (hN : 20000 ≤ N) (hn1 : 1 ≤ n) (hn : n ≤ 12) : ∀ (t k x : Nat) (I : PI), x + t = 2 ^ n → t < k → ((x = 0 ∧ I 1 5 = 1000000) ∨ (1 ≤ x ∧ B4 I (beB n x))) → ∃ J : PI, F_X1_findCode_8 N k (nI n) (nI x) I L = some (none, J, L) ∧ Kp dK I J ∧ B4 J (beB n (2 ^ n)) := by
  have h12 : 2 ^ n ≤ 2 ^ 12 := Nat.pow_le_pow_right (by decide) hn
  have hp : 1 ≤ 2 ^ n := Nat.one_le_two_pow
  intro t
  induction t with
  | zero =>
    intro k x I hi hk hs
    obtain ⟨k, rfl⟩ : ∃ q, k = q + 1 := ⟨k - 1, by omega⟩
    obtain rfl : x = 2 ^ n := by omega
    rw [F_X1_findCode_8, shl_12 _ (by omega), if_pos (nI_le (by omega) (by omega))]
    rcases hs with ⟨h, -⟩ | ⟨-, h⟩
    · omega
    · exact ⟨I, rfl, Kp.rf, h⟩
  | succ t ih =>
    intro k x I hi hk hs
    obtain ⟨k, rfl⟩ : ∃ q, k = q + 1 := ⟨k - 1, by omega⟩
    obtain ⟨J1, e1, k1, b1⟩ := try_s (L := L) (I := I) (b := beB n x) hN hn1 hn (by omega : x < 2 ^ n) (by
      rcases hs with ⟨h1, h2⟩ | ⟨h1, h2⟩
      · left
        rw [h1]
        exact ⟨rfl, h2⟩
      · exact Or.inr ⟨be_ne hn x (by omega) h1, h2⟩)
    obtain ⟨J, g1, g2, g3⟩ := ih k (x + 1) J1 (by omega) (by omega) (Or.inr ⟨by omega, b1⟩)
    refine ⟨J, ?_, k1.tr g2, g3⟩
    rw [F_X1_findCode_8, shl_12 _ (by omega), if_neg (nI_ge (by omega) (by omega)), e1, bV_s, nI_1]
    exact g1
theorem find_s {I : PI} (hN : 20000 ≤ N) (hn1 : 1 ≤ n) (hn : n ≤ 12) : ∃ J : PI, f_X1_findCode N (nI n) I L = some (none, J, L) ∧ Kp dK I J ∧ B4 J (beB n (2 ^ n)) := by
  have h12 : 2 ^ n ≤ 2 ^ 12 := Nat.pow_le_pow_right (by decide) hn
  obtain ⟨J, g1, g2, g3⟩ := findLp (N := N) (L := L) hN hn1 hn (2 ^ n) N 0 (uI I 1 5 1000000) (by omega) (by omega) (Or.inl ⟨rfl, uI_eq⟩)
  refine ⟨J, ?_, (Kp.rf.up ⟨rfl, by omega, by omega⟩).tr g2, g3⟩
  unfold f_X1_findCode
  rw [nmW_s]
  exact g1
end BEST
/-- the best codes found so far -/
def XB1 (I : PI) : Prop := ∀ l, l ≤ 12 → 2 ≤ l → I 23 (4 * l) = -1 ∨ (I 23 (4 * l) = (beB l (2 ^ l)).1 ∧ I 23 (4 * l + 1) = (beB l (2 ^ l)).2.1 ∧ I 23 (4 * l + 2) = (beB l (2 ^ l)).2.2.1 ∧ I 23 (4 * l + 3) = (beB l (2 ^ l)).2.2.2)
def XBo (X : PI → Prop) : Prop := (∀ I, X I → XB1 I) ∧ ∀ I J, X I → Kp (fun a k => a = 23 ∨ dK a k) I J → XB1 J → X J
theorem Inv.mkX {X : PI → Prop} {I J : PI} {L M : PL} {F : Nat → Nat → Prop} (hk : Kp F I J) (hF : ∀ a k, F a k → ¬ (dT a k ∨ dS a k ∨ dR a k ∨ dD a k ∨ dE a k ∨ dZ a k ∨ dC a k)) (hx : X J) (h : Inv X I L) : Inv X J M := by
  obtain ⟨h1, h2, h3, h4, h5, h6, h7, h8⟩ := h
  exact ⟨h1.cong (fun a k q => hk a k (fun f => hF a k f (Or.inl q))), h2.cong (fun a k q => hk a k (fun f => hF a k f (Or.inr (Or.inl q)))), h3.cong (fun a k q => hk a k (fun f => hF a k f (Or.inr (Or.inr (Or.inr (Or.inr (Or.inr (Or.inr q)))))))), h4.cong (fun a k q => hk a k (fun f => hF a k f (Or.inr (Or.inr (Or.inl q))))), h5.cong (fun a k q => hk a k (fun f => hF a k f (Or.inr (Or.inr (Or.inr (Or.inl q)))))), h6.cong (fun a k q => hk a k (fun f => hF a k f (Or.inr (Or.inr (Or.inr (Or.inr (Or.inl q))))))), h7.cong (fun a k q => hk a k (fun f => hF a k f (Or.inr (Or.inr (Or.inr (Or.inr (Or.inr (Or.inl q)))))))), hx⟩
theorem case_best {X : PI → Prop} {N : Nat} (hN : 20000 ≤ N) (hXB : XBo X) (a1 a2 : Int32) : CaseI (Inv X) (f_X11_best N a1 a2) (f_X12_best N a1 a2) := by
  intro I L hI
  have hI0 := hI
  obtain ⟨-, -, -, -, -, -, -, hx⟩ := hI
  have eC := f_X11_best.eq_1 N a1 a2 I L
  have eM := fun J => f_X12_best.eq_1 N a1 a2 J L
  have eM0 := eM I
  rw [within_s, bI_s] at eC
  rw [in_s, bI_s] at eM0
  cases hw : wi a1 2 12 with
  | false =>
    rw [ifz_f hw] at eC eM0
    exact ⟨-1, I, L, I, L, eC, eM0, hI0⟩
  | true =>
    rw [ifz_t hw, within_s, bI_s] at eC
    rw [ifz_t hw, in_s, bI_s] at eM0
    cases hu : wi a2 0 3 with
    | false =>
      rw [ifz_f hu] at eC eM0
      exact ⟨-1, I, L, I, L, eC, eM0, hI0⟩
    | true =>
      rw [ifz_t hu] at eC
      obtain ⟨l, l1, l2, rfl⟩ := wi_nat2 (m := 2) (n := 12) rfl rfl (by omega) (by omega) hw
      obtain ⟨j, j3, rfl⟩ := wi_nat (n := 3) rfl (by omega) hu
      have h12 : 2 ^ l ≤ 2 ^ 12 := Nat.pow_le_pow_right (by decide) l2
      have hM : ∀ J, f_X12_best N (nI l) (nI j) J L = some (some (.int (selB (nI j) (beB l (2 ^ l)))), J, L) := fun J => by
        rw [eM J, in_s, bI_s, ifz_t hw, in_s, bI_s, ifz_t hu]
        exact bm35 (N := N) hN (by omega) l2 (2 ^ l) N 0 (by omega) (by omega)
      have e4 : nI l * 4 = nI (4 * l) := by rw [show (4 : Int32) = nI 4 from rfl, pk_mul, Nat.mul_comm]
      -- the answer out of the four
      have hsel : ∀ J : PI, (J 23 (4 * l) = (beB l (2 ^ l)).1 ∧ J 23 (4 * l + 1) = (beB l (2 ^ l)).2.1 ∧ J 23 (4 * l + 2) = (beB l (2 ^ l)).2.2.1 ∧ J 23 (4 * l + 3) = (beB l (2 ^ l)).2.2.2) → F_X1_codeOf_48 N (nI l) (nI j) J L = some (some (.int (selB (nI j) (beB l (2 ^ l)))), J, L) := fun J hJ => by
        unfold F_X1_codeOf_48
        rw [e4, nI_add, gd_in (by omega) (by omega), nI_clamp (by omega)]
        unfold selB
        rcases (by omega : j = 0 ∨ j = 1 ∨ j = 2 ∨ j = 3) with hj | hj | hj | hj
        · rw [hj, if_pos (by decide)]; exact congrArg (fun y => some (some (Value.int y), J, L)) hJ.1
        · rw [hj, if_neg (by decide), if_pos (by decide)]; exact congrArg (fun y => some (some (Value.int y), J, L)) hJ.2.1
        · rw [hj, if_neg (by decide), if_neg (by decide), if_pos (by decide)]; exact congrArg (fun y => some (some (Value.int y), J, L)) hJ.2.2.1
        · rw [hj, if_neg (by decide), if_neg (by decide), if_neg (by decide)]; exact congrArg (fun y => some (some (Value.int y), J, L)) hJ.2.2.2
      unfold f_X1_codeOf at eC
      rw [show (2 : Int32) = nI 2 from rfl, show (12 : Int32) = nI 12 from rfl, show (4 : Int32) = nI 4 from rfl, if_neg (nI_nlt l1 (by omega)), if_neg (nI_nlt l2 (by omega)), if_neg (nI_pos (by omega)), if_pos (nI_lt (by omega) (by omega)), show nI 4 = (4 : Int32) from rfl, e4, gd_in (by omega) (by omega), nI_clamp (by omega)] at eC
      by_cases hf : I 23 (4 * l) = -1
      · obtain ⟨J1, e1, k1, b1⟩ := find_s (I := I) (L := L) hN (by omega : 1 ≤ l) l2
        obtain ⟨J, hJ⟩ : ∃ J : PI, J = uI (uI (uI (uI J1 23 (4 * l) (J1 1 4)) 23 (4 * l + 1) (J1 1 5)) 23 (4 * l + 2) (J1 1 6)) 23 (4 * l + 3) (J1 1 7) := ⟨_, rfl⟩
        have eK : f_X1_keepIn_r23 N (nI l) J1 L = some (none, J, L) := by
          unfold f_X1_keepIn_r23
          rw [e4, nmI_s, if_neg (nI_pos (by omega)), show (3 : Int32) = nI 3 from rfl, show (2 : Int32) = nI 2 from rfl, nI_add, nI_add, nI_1, show (52 : Int32) = nI 52 from rfl, if_neg (nI_ge (by omega) (by omega)), gd_in (by omega) (by omega), nI_clamp (by omega), nmW_s, gd_in (by omega) (by omega), nI_clamp (by omega), uI_ne (a := 1) (k := 5) (by omega), nmW_s, gd_in (by omega) (by omega), nI_clamp (by omega), uI_ne (a := 1) (k := 6) (by omega), uI_ne (a := 1) (k := 6) (by omega), nmW_s, gd_in (by omega) (by omega), nI_clamp (by omega), uI_ne (a := 1) (k := 7) (by omega), uI_ne (a := 1) (k := 7) (by omega), uI_ne (a := 1) (k := 7) (by omega), nmW_s, ← hJ]
        have h4 : J 23 (4 * l) = (beB l (2 ^ l)).1 ∧ J 23 (4 * l + 1) = (beB l (2 ^ l)).2.1 ∧ J 23 (4 * l + 2) = (beB l (2 ^ l)).2.2.1 ∧ J 23 (4 * l + 3) = (beB l (2 ^ l)).2.2.2 := by
          obtain ⟨q1, q2, q3, q4⟩ := b1
          refine ⟨?_, ?_, ?_, ?_⟩
          · rw [hJ, uI_ne (by omega), uI_ne (by omega), uI_ne (by omega), uI_eq]; exact q1
          · rw [hJ, uI_ne (by omega), uI_ne (by omega), uI_eq]; exact q2
          · rw [hJ, uI_ne (by omega), uI_eq]; exact q3
          · rw [hJ, uI_eq]; exact q4
        rw [if_pos hf, e1, bV_s, eK, bV_s, hsel J h4, bI_s] at eC
        have kJ : Kp (fun a k => a = 23 ∨ dK a k) I J := (k1.mono (fun a k q => Or.inr q)).tr (hJ ▸ (((Kp.rf.up (Or.inl rfl)).up (Or.inl rfl)).up (Or.inl rfl)).up (Or.inl rfl))
        have hXJ : X J := hXB.2 I J hx kJ (fun l' h1 h2 => by
          by_cases el : l' = l
          · rw [el]; exact Or.inr h4
          · have o : ∀ k, k < 4 → J 23 (4 * l' + k) = I 23 (4 * l' + k) := fun k hk => by
              rw [hJ, uI_ne (by omega), uI_ne (by omega), uI_ne (by omega), uI_ne (by omega), k1 23 _ (by unfold dK; omega)]
            have o0 : J 23 (4 * l') = I 23 (4 * l') := o 0 (by omega)
            rw [o0, o 1 (by omega), o 2 (by omega), o 3 (by omega)]
            exact hXB.1 I hx l' h1 h2)
        exact ⟨_, J, L, J, L, eC, hM J, Inv.mkX kJ (fun a k h => by unfold dK at h; unfold dT dS dR dD dE dZ dC; omega) hXJ hI0⟩
      · rcases hXB.1 I hx l l2 l1 with q | q
        · exact absurd q hf
        · rw [if_neg hf, hsel I q, bI_s] at eC
          exact ⟨_, I, L, I, L, eC, hM I, hI0⟩
