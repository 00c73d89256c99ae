/-! sets of rests: which of them see a value, counted in both -/
def cnt (b : Nat → Bool) : Nat → Nat
  | 0 => 0
  | n + 1 => cnt b n + (bif b n then 1 else 0)
theorem cnt_0 {b : Nat → Bool} : cnt b 0 = 0 := rfl
theorem cnt_s {b : Nat → Bool} {n : Nat} : cnt b (n + 1) = cnt b n + (bif b n then 1 else 0) := rfl
theorem cnt_le {b : Nat → Bool} : ∀ n, cnt b n ≤ n := by
  intro n
  induction n with
  | zero => exact Nat.le_refl 0
  | succ n ih =>
    rw [cnt_s]
    cases b n
    · exact Nat.le_succ_of_le ih
    · exact Nat.succ_le_succ ih
theorem cnt_congr {b c : Nat → Bool} : ∀ {n : Nat}, (∀ k, k < n → b k = c k) → cnt b n = cnt c n := by
  intro n
  induction n with
  | zero => intro _; rfl
  | succ n ih =>
    intro h
    rw [cnt_s, cnt_s, ih (fun k hk => h k (by omega)), h n (by omega)]
theorem cnt_ext {b : Nat → Bool} {n m : Nat} (h : n ≤ m) (h2 : ∀ k, n ≤ k → b k = false) : cnt b m = cnt b n := by
  induction m with
  | zero => rw [show n = 0 by omega]
  | succ m ih =>
    by_cases hm : n = m + 1
    · rw [hm]
    · rw [cnt_s, h2 m (by omega), ih (by omega)]
      rfl
def msk (b : Nat → Bool) : Nat → Nat
  | 0 => 0
  | n + 1 => bif b n then msk b n ||| 2 ^ n else msk b n
theorem msk_s {b : Nat → Bool} {n : Nat} : msk b (n + 1) = bif b n then msk b n ||| 2 ^ n else msk b n := rfl
theorem msk_bit {b : Nat → Bool} : ∀ (n k : Nat), (msk b n).testBit k = (decide (k < n) && b k) := by
  intro n
  induction n with
  | zero =>
    intro k
    rw [show msk b 0 = 0 from rfl, Nat.zero_testBit]
    rfl
  | succ n ih =>
    intro k
    rw [msk_s]
    by_cases hk : k = n
    · subst hk
      cases hb : b k with
      | true =>
        rw [cond_true, Nat.testBit_or, Nat.testBit_two_pow_self, Bool.or_true, decide_eq_true (by omega)]; rfl
      | false => rw [cond_false, ih, hb, Bool.and_false, Bool.and_false]
    · have e : decide (k < n + 1) = decide (k < n) := decide_eq_decide.mpr (by omega)
      rw [e]
      cases hb : b n with
      | true =>
        rw [cond_true, Nat.testBit_or, Nat.testBit_two_pow_of_ne (fun q => hk q.symm), Bool.or_false, ih]
      | false => rw [cond_false, ih]
theorem msk_lt {b : Nat → Bool} {n : Nat} : msk b n < 2 ^ n := by
  apply Nat.lt_pow_two_of_testBit
  intro k hk
  rw [msk_bit, decide_eq_false (by omega)]; rfl
theorem msk_lt8 {b : Nat → Bool} {n : Nat} (hn : n ≤ 8) : msk b n < 256 := Nat.lt_of_lt_of_le msk_lt (Nat.pow_le_pow_right (by decide) hn : 2 ^ n ≤ 2 ^ 8)
theorem or_nI (a b : Nat) : nI a ||| nI b = nI (a ||| b) := by
  apply Int32.toBitVec_inj.mp
  show BitVec.ofNat 32 a ||| BitVec.ofNat 32 b = BitVec.ofNat 32 (a ||| b)
  exact (BitVec.ofNat_or).symm
theorem and_nI (a b : Nat) : nI a &&& nI b = nI (a &&& b) := by
  apply Int32.toBitVec_inj.mp
  show BitVec.ofNat 32 a &&& BitVec.ofNat 32 b = BitVec.ofNat 32 (a &&& b)
  exact (BitVec.ofNat_and).symm
theorem shl_n : ∀ k : Nat, k < 9 → (1 : Int32) <<< (nI k &&& 31) = nI (2 ^ k) := by decide +kernel
def bc1 (a : Int32) : Int32 := a - ((jushr a (1 : Int32)) &&& 1431655765)
def bc2 (a : Int32) : Int32 := (a &&& 858993459) + ((jushr a (2 : Int32)) &&& 858993459)
def bc3 (a : Int32) : Int32 := (a + (jushr a (4 : Int32))) &&& 252645135
def bc4 (a : Int32) : Int32 := a + (jushr a (8 : Int32))
def bc5 (a : Int32) : Int32 := a + (jushr a (16 : Int32))
theorem pc_all : ∀ m : Nat, m < 256 → bc5 (bc4 (bc3 (bc2 (bc1 (nI m))))) &&& 63 = nI (cnt (fun k => m.testBit k) 8) := by decide +kernel
theorem bits_s {N m : Nat} {I : PI} {L : PL} (hm : m < 256) : f_J6_bitCount_0f7a4 N (nI m) I L = some (some (.int (nI (cnt (fun k => m.testBit k) 8))), I, L) := by
  have e : f_J6_bitCount_0f7a4 N (nI m) I L = some (some (.int (bc5 (bc4 (bc3 (bc2 (bc1 (nI m))))) &&& 63)), I, L) := rfl
  rw [e, pc_all m hm]
theorem has_all : ∀ m : Nat, m < 256 → ∀ k : Nat, k < 8 → ((((nI m >>> (nI k &&& 31)) &&& 1) = 1) ↔ m.testBit k = true) := by decide +kernel
theorem has12_s {N m k : Nat} {I : PI} {L : PL} (hm : m < 256) (hk : k < 8) : f_X12_has N (nI m) (nI k) I L = some (some (.int (bif m.testBit k then 1 else 0)), I, L) := by
  unfold f_X12_has
  rw [k0, k1, gd_t, gd_t]
  cases hb : m.testBit k with
  | true => rw [if_pos ((has_all m hm k hk).mpr hb)]; rfl
  | false => rw [if_neg (fun q => by rw [(has_all m hm k hk).mp q] at hb; cases hb)]; rfl
theorem jirem_n {a d : Nat} (ha : a < 2 ^ 31) (h0 : 0 < d) (hd : d < 2 ^ 31) : jirem (nI a) (nI d) = nI (a % d) := pk_rem ha h0 hd
theorem gd_ne {d : Nat} {o : RES} (h0 : 0 < d) (hd : d < 2 ^ 31) : gd (decide (¬ nI d = 0)) o = o := by rw [decide_eq_true (nI_ne0 h0 hd), gd_t]
theorem bcond {p : Prop} [Decidable p] {α : Type} {x y : α} : (if p then x else y) = bif decide p then x else y := by
  by_cases h : p
  · rw [if_pos h, decide_eq_true h]; rfl
  · rw [if_neg h, decide_eq_false h]; rfl
/-- set j of the rests: n numbers P -/
def RSet (I : PI) (j n : Nat) (P : Nat → Nat) : Prop := (∃ m : Nat, m ≤ 6 ∧ I 8 6 = nI m ∧ I 12 22 = nI m ∧ j < m) ∧ 1 ≤ n ∧ n ≤ 8 ∧ I 26 j = nI n ∧ I 52 j = nI n ∧ ∀ k, k < n → 2 ≤ P k ∧ P k ≤ 99 ∧ I 25 (8 * j + k) = nI (P k) ∧ I 51 (8 * j + k) = nI (P k)
theorem RR.set {I : PI} (r : RR I) : ∃ m : Nat, m ≤ 6 ∧ I 8 6 = nI m ∧ I 12 22 = nI m ∧ ∀ j, j < m → ∃ (n : Nat) (P : Nat → Nat), RSet I j n P := by
  obtain ⟨m, r1, r2, r3, r4⟩ := r
  refine ⟨m, r1, r2, r3, fun j hj => ?_⟩
  obtain ⟨n, g1, g2, g3, g4, g5⟩ := r4 j hj
  refine ⟨n, fun k => (I 25 (8 * j + k)).toNatClampNeg, ⟨m, r1, r2, r3, hj⟩, g1, g2, g3, g4, fun k hk => ?_⟩
  obtain ⟨p, p1, p2, p3, p4⟩ := g5 k hk
  show 2 ≤ (I 25 (8 * j + k)).toNatClampNeg ∧ (I 25 (8 * j + k)).toNatClampNeg ≤ 99 ∧ I 25 (8 * j + k) = nI (I 25 (8 * j + k)).toNatClampNeg ∧ I 51 (8 * j + k) = nI (I 25 (8 * j + k)).toNatClampNeg
  rw [p3, nI_clamp (by omega)]
  exact ⟨p1, p2, rfl, p4⟩
section SET
variable {N j n : Nat} {P : Nat → Nat} {I : PI} {L : PL}
theorem RSet.len (r : RSet I j n P) : f_X8_lengthOf N (nI j) I L = some (some (.int (nI n)), I, L) := by
  obtain ⟨⟨m, m1, m2, m3, m4⟩, h1, h2, h3, h4, h5⟩ := r
  exact len8_s (by omega) h3
theorem RSet.num {k : Nat} (r : RSet I j n P) (hk : k < n) : f_X8_number N (nI j) (nI k) I L = some (some (.int (nI (P k))), I, L) := by
  obtain ⟨⟨m, m1, m2, m3, m4⟩, h1, h2, h3, h4, h5⟩ := r
  rw [num8_s m1 m2 m4 h3 h2 hk, Nat.mul_comm j 8, (h5 k hk).2.2.1]
theorem RSet.numo {k : Nat} (r : RSet I j n P) (hk : n ≤ k) (hk2 : k < 2 ^ 31) : f_X8_number N (nI j) (nI k) I L = some (some (.int (-1)), I, L) := by
  obtain ⟨⟨m, m1, m2, m3, m4⟩, h1, h2, h3, h4, h5⟩ := r
  exact num8_o m1 m2 m4 h3 h2 hk hk2
theorem rem8_s {a d : Nat} (ha : a < 2 ^ 31) (h0 : 0 < d) (hd : d < 2 ^ 31) : f_X8_remainder N (nI a) (nI d) I L = some (some (.int (nI (a % d))), I, L) := by
  unfold f_X8_remainder
  rw [if_neg (nI_nle h0 hd), gd_ne h0 hd, jirem_n ha h0 hd]
theorem seenBy_s {a d z : Nat} (ha : a < 2 ^ 31) (h0 : 0 < d) (hd : d < 2 ^ 31) (hz : z ≤ 9) (h : I 13 0 = nI z) : f_X8_isSeenBy N (nI d) (nI a) I L = some (some (.int (bif decide (z ≤ a % d) then 1 else 0)), I, L) := by
  unfold f_X8_isSeenBy
  have hm : a % d < d := Nat.mod_lt _ h0
  rw [rem8_s ha h0 hd, bI_s, gd_in0 (by omega) (by omega), k0, k1, gd_t, gd_t, cl0, h]
  by_cases h1 : z ≤ a % d
  · rw [if_neg (nI_nlt h1 (by omega)), decide_eq_true h1]; rfl
  · rw [if_pos (nI_lt (by omega) (by omega)), decide_eq_false h1]; rfl
/-- number k of the set sees v -/
def sb (P : Nat → Nat) (z v k : Nat) : Bool := decide (z ≤ v % P k)
theorem seeingLp {z v : Nat} (hv : v < 2 ^ 31) (hz : z ≤ 9) (hz2 : I 13 0 = nI z) (r : RSet I j n P) : ∀ (m k i : Nat), i + m = n → m < k → F_X8_seeing_5 N k (nI j) (nI v) (nI (msk (sb P z v) i)) (nI i) I L = some (some (.int (nI (msk (sb P z v) n))), I, L) := by
  have r' := r
  obtain ⟨-, h1, h2, h3, h4, h5⟩ := r'
  intro m
  induction m with
  | zero =>
    intro k i hi hk
    obtain ⟨k, rfl⟩ : ∃ q, k = q + 1 := ⟨k - 1, by omega⟩
    rw [F_X8_seeing_5, r.len, bI_s, if_pos (nI_le (by omega) (by omega)), show i = n by omega]
  | succ m ih =>
    intro k i hi hk
    obtain ⟨k, rfl⟩ : ∃ q, k = q + 1 := ⟨k - 1, by omega⟩
    obtain ⟨p1, p2, -, -⟩ := h5 i (by omega)
    have e : msk (sb P z v) (i + 1) = bif sb P z v i then msk (sb P z v) i ||| 2 ^ i else msk (sb P z v) i := rfl
    rw [F_X8_seeing_5, r.len, bI_s, if_neg (nI_ge (by omega) (by omega)), r.num (by omega : i < n), bI_s, seenBy_s hv (by omega) (by omega) hz hz2, bI_s, nI_1]
    have e2 : sb P z v i = decide (z ≤ v % P i) := rfl
    cases hb : sb P z v i with
    | false =>
      rw [ifz_f (e2 ▸ hb)]
      rw [hb, cond_false] at e
      rw [← e]
      exact ih k (i + 1) (by omega) (by omega)
    | true =>
      rw [ifz_t (e2 ▸ hb), nmI_s, shl_n i (by omega), or_nI]
      rw [hb, cond_true] at e
      rw [← e]
      exact ih k (i + 1) (by omega) (by omega)
theorem seeing_s {z v : Nat} (hN : 20000 ≤ N) (hv : v < 2 ^ 31) (hz : z ≤ 9) (hz2 : I 13 0 = nI z) (r : RSet I j n P) : f_X8_seeing N (nI j) (nI v) I L = some (some (.int (nI (msk (sb P z v) n))), I, L) := by
  have h2 := r.2.2.1
  unfold f_X8_seeing
  exact seeingLp hv hz hz2 r n N 0 (by omega) (by omega)
theorem cnt_msk {b : Nat → Bool} (hn : n ≤ 8) : cnt (fun k => (msk b n).testBit k) 8 = cnt b n := by
  rw [cnt_ext hn (fun k hk => by rw [msk_bit, decide_eq_false (by omega)]; rfl)]
  refine cnt_congr (fun k hk => ?_)
  rw [msk_bit, decide_eq_true hk]; rfl
theorem sees_s {z b v : Nat} (hN : 20000 ≤ N) (hv : v < 2 ^ 31) (hz : z ≤ 9) (hz2 : I 13 0 = nI z) (hb : b ≤ 8) (hb2 : I 13 1 = nI b) (r : RSet I j n P) : f_X8_sees N (nI j) (nI v) I L = some (some (.int (bif decide (b ≤ cnt (sb P z v) n) then 1 else 0)), I, L) := by
  have h2 := r.2.2.1
  have h3 := cnt_le (b := sb P z v) n
  unfold f_X8_sees
  rw [seeing_s hN hv hz hz2 r, bI_s, bits_s (msk_lt8 h2), bI_s, cnt_msk h2, gd_in1 (by omega) (by omega), k0, k1, gd_t, gd_t, cl1, hb2]
  by_cases h1 : b ≤ cnt (sb P z v) n
  · rw [if_neg (nI_nlt h1 (by omega)), decide_eq_true h1]; rfl
  · rw [if_pos (nI_lt (by omega) (by omega)), decide_eq_false h1]; rfl
/-- number k of the set is in the choice m and sees v -/
def sbm (P : Nat → Nat) (z m v k : Nat) : Bool := m.testBit k && sb P z v k
theorem isSeenLp {z b v m : Nat} (hm : m < 256) (hv : v < 2 ^ 31) (hz : z ≤ 9) (hz2 : I 12 32 = nI z) (hb : b ≤ 8) (hb2 : I 12 33 = nI b) (r : RSet I j n P) : ∀ (t k i : Nat), i + t = n → t < k → F_X12_isSeen_6 N k (nI j) (nI m) (nI v) (nI (cnt (sbm P z m v) i)) (nI i) I L = some (some (.int (bif decide (b ≤ cnt (sbm P z m v) n) then 1 else 0)), I, L) := by
  have r' := r
  obtain ⟨⟨q, q1, q2, q3, q4⟩, h1, h2, h3, h4, h5⟩ := r'
  intro t
  induction t with
  | zero =>
    intro k i hi hk
    obtain ⟨k, rfl⟩ : ∃ q, k = q + 1 := ⟨k - 1, by omega⟩
    have h6 := cnt_le (b := sbm P z m v) n
    rw [F_X12_isSeen_6, gd_in (by omega) (by omega), nI_clamp (by omega), h4, if_pos (nI_le (by omega) (by omega)), show i = n by omega, hb2, k0, k1, gd_t, gd_t]
    by_cases h7 : b ≤ cnt (sbm P z m v) n
    · rw [if_neg (nI_nlt h7 (by omega)), decide_eq_true h7]; rfl
    · rw [if_pos (nI_lt (by omega) (by omega)), decide_eq_false h7]; rfl
  | succ t ih =>
    intro k i hi hk
    obtain ⟨k, rfl⟩ : ∃ q, k = q + 1 := ⟨k - 1, by omega⟩
    obtain ⟨p1, p2, -, p4⟩ := h5 i (by omega)
    have hm2 : v % P i < P i := Nat.mod_lt _ (by omega)
    have e8 : (8 : Int32) * nI j + nI i = nI (8 * j + i) := by rw [show (8 : Int32) = nI 8 from rfl, pk_mul, nI_add]
    have e : cnt (sbm P z m v) (i + 1) = cnt (sbm P z m v) i + (bif sbm P z m v i then 1 else 0) := rfl
    have f0 : F_X12_isSeen_53 N (F_X12_isSeen_6 N k) (nI j) (nI m) (nI v) (nI i) (nI (cnt (sbm P z m v) i)) I L = F_X12_isSeen_6 N k (nI j) (nI m) (nI v) (nI (cnt (sbm P z m v) i)) (nI (i + 1)) I L := by
      unfold F_X12_isSeen_53
      rw [nmI_s, nI_1, show (0 : Int32) = nI 0 from rfl, nI_add, Nat.add_zero]
    rw [F_X12_isSeen_6, gd_in (by omega) (by omega), nI_clamp (by omega), h4, if_neg (nI_ge (by omega) (by omega)), has12_s hm (by omega), bI_s]
    cases hh : m.testBit i with
    | false =>
      have e1 : sbm P z m v i = false := by unfold sbm; rw [hh]; rfl
      rw [e1, cond_false] at e
      rw [cond_false, if_pos rfl, f0, show cnt (sbm P z m v) i = cnt (sbm P z m v) (i + 1) from e.symm]
      exact ih k (i + 1) (by omega) (by omega)
    | true =>
      rw [cond_true, if_neg ne_10, e8, gd_in (by omega) (by omega), nI_clamp (by omega), p4, gd_ne (by omega) (by omega), jirem_n hv (by omega) (by omega), hz2]
      by_cases h7 : z ≤ v % P i
      · have e1 : sbm P z m v i = true := by unfold sbm sb; rw [hh, decide_eq_true h7]; rfl
        rw [e1, cond_true] at e
        rw [if_neg (nI_nlt h7 (by omega)), nmI_s, nI_1, nI_1, ← e]
        exact ih k (i + 1) (by omega) (by omega)
      · have e1 : sbm P z m v i = false := by unfold sbm sb; rw [hh, decide_eq_false h7]; rfl
        rw [e1, cond_false] at e
        rw [if_pos (nI_lt (by omega) (by omega)), f0, show cnt (sbm P z m v) i = cnt (sbm P z m v) (i + 1) from e.symm]
        exact ih k (i + 1) (by omega) (by omega)
theorem isSeen_s {z b v m : Nat} (hN : 20000 ≤ N) (hm : m < 256) (hv : v < 2 ^ 31) (hz : z ≤ 9) (hz2 : I 12 32 = nI z) (hb : b ≤ 8) (hb2 : I 12 33 = nI b) (r : RSet I j n P) : f_X12_isSeen N (nI j) (nI m) (nI v) I L = some (some (.int (bif decide (b ≤ cnt (sbm P z m v) n) then 1 else 0)), I, L) := by
  have h2 := r.2.2.1
  unfold f_X12_isSeen
  exact isSeenLp hm hv hz hz2 hb hb2 r n N 0 (by omega) (by omega)
theorem bit255 : ∀ k : Nat, k < 8 → (255 : Nat).testBit k = true := by decide
theorem cnt_255 {z v : Nat} (hn : n ≤ 8) : cnt (sbm P z 255 v) n = cnt (sb P z v) n := cnt_congr (fun k hk => by unfold sbm; rw [bit255 k (by omega)]; rfl)
theorem isSeen_a {z b v : Nat} (hN : 20000 ≤ N) (hv : v < 2 ^ 31) (hz : z ≤ 9) (hz2 : I 12 32 = nI z) (hb : b ≤ 8) (hb2 : I 12 33 = nI b) (r : RSet I j n P) : f_X12_isSeen N (nI j) 255 (nI v) I L = some (some (.int (bif decide (b ≤ cnt (sb P z v) n) then 1 else 0)), I, L) := by
  have e := isSeen_s (L := L) hN (m := 255) (by decide) hv hz hz2 hb hb2 r
  rw [cnt_255 r.2.2.1] at e
  exact e
end SET
