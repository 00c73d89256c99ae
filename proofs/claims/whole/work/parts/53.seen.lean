/-! seen, map -/
section SEEN
variable {N j n : Nat} {P : Nat → Nat} {I : PI} {L : PL}
/-- the settings of seeing, in both -/
def Sv (I : PI) (z b : Nat) : Prop := z ≤ 9 ∧ I 13 0 = nI z ∧ I 12 32 = nI z ∧ 1 ≤ b ∧ b ≤ 8 ∧ I 13 1 = nI b ∧ I 12 33 = nI b
theorem RS.sv (r : RS I) : ∃ z b : Nat, Sv I z b := by
  obtain ⟨e0, z, -, hz, hz2⟩ := r 0 (by omega)
  obtain ⟨e1, b, hb1, hb, hb2⟩ := r 1 (by omega)
  exact ⟨z, b, hz, hz2, e0.symm.trans hz2, hb1, hb, hb2, e1.symm.trans hb2⟩
def svm (P : Nat → Nat) (n z b m v : Nat) : Bool := decide (b ≤ cnt (sbm P z m v) n)
def sv (P : Nat → Nat) (n z b v : Nat) : Bool := decide (b ≤ cnt (sb P z v) n)
theorem svm_255 {z b v : Nat} (hn : n ≤ 8) : svm P n z b 255 v = sv P n z b v := by
  unfold svm sv
  rw [cnt_255 hn]
theorem Sv.sees {z b v : Nat} (s : Sv I z b) (hN : 20000 ≤ N) (hv : v < 2 ^ 31) (r : RSet I j n P) : f_X8_sees N (nI j) (nI v) I L = some (some (.int (bif sv P n z b v then 1 else 0)), I, L) := sees_s hN hv s.1 s.2.1 s.2.2.2.2.1 s.2.2.2.2.2.1 r
theorem Sv.isSeen {z b v m : Nat} (s : Sv I z b) (hN : 20000 ≤ N) (hm : m < 256) (hv : v < 2 ^ 31) (r : RSet I j n P) : f_X12_isSeen N (nI j) (nI m) (nI v) I L = some (some (.int (bif svm P n z b m v then 1 else 0)), I, L) := isSeen_s hN hm hv s.1 s.2.2.1 s.2.2.2.2.1 s.2.2.2.2.2.2 r
theorem Sv.isSeenA {z b v : Nat} (s : Sv I z b) (hN : 20000 ≤ N) (hv : v < 2 ^ 31) (r : RSet I j n P) : f_X12_isSeen N (nI j) 255 (nI v) I L = some (some (.int (bif sv P n z b v then 1 else 0)), I, L) := isSeen_a hN hv s.1 s.2.2.1 s.2.2.2.2.1 s.2.2.2.2.2.2 r
theorem seenTo8Lp {z b a : Nat} (s : Sv I z b) (hN : 20000 ≤ N) (ha : a ≤ 999) (r : RSet I j n P) : ∀ (t k i : Nat), i + t = a → t < k → F_X8_seenTo_5 N k (nI j) (nI a) (nI (cnt (fun v => sv P n z b (v + 1)) i)) (nI (i + 1)) I L = some (some (.int (nI (cnt (fun v => sv P n z b (v + 1)) a))), I, L) := by
  intro t
  induction t with
  | zero =>
    intro k i hi hk
    obtain ⟨k, rfl⟩ : ∃ q, k = q + 1 := ⟨k - 1, by omega⟩
    rw [F_X8_seenTo_5, if_pos (nI_lt (by omega) (by omega)), show i = a by omega]
  | succ t ih =>
    intro k i hi hk
    obtain ⟨k, rfl⟩ : ∃ q, k = q + 1 := ⟨k - 1, by omega⟩
    have e : cnt (fun v => sv P n z b (v + 1)) (i + 1) = cnt (fun v => sv P n z b (v + 1)) i + (bif sv P n z b (i + 1) then 1 else 0) := rfl
    rw [F_X8_seenTo_5, if_neg (nI_nlt (by omega) (by omega)), s.sees hN (by omega) r, bI_s, nI_1, nI_1]
    cases hb : sv P n z b (i + 1) with
    | false =>
      rw [ifz_f rfl]
      rw [hb, cond_false] at e
      rw [show cnt (fun v => sv P n z b (v + 1)) i = cnt (fun v => sv P n z b (v + 1)) (i + 1) from e.symm]
      exact ih k (i + 1) (by omega) (by omega)
    | true =>
      rw [ifz_t rfl]
      rw [hb, cond_true] at e
      rw [← e]
      exact ih k (i + 1) (by omega) (by omega)
theorem seenTo12Lp {z b a m : Nat} (s : Sv I z b) (hN : 20000 ≤ N) (hm : m < 256) (ha : a ≤ 999) (r : RSet I j n P) : ∀ (t k i : Nat), i + t = a → t < k → F_X12_seenTo_6 N k (nI j) (nI m) (nI a) (nI (cnt (fun v => svm P n z b m (v + 1)) i)) (nI (i + 1)) I L = some (some (.int (nI (cnt (fun v => svm P n z b m (v + 1)) a))), I, L) := by
  intro t
  induction t with
  | zero =>
    intro k i hi hk
    obtain ⟨k, rfl⟩ : ∃ q, k = q + 1 := ⟨k - 1, by omega⟩
    rw [F_X12_seenTo_6, if_pos (nI_lt (by omega) (by omega)), show i = a by omega]
  | succ t ih =>
    intro k i hi hk
    obtain ⟨k, rfl⟩ : ∃ q, k = q + 1 := ⟨k - 1, by omega⟩
    have e : cnt (fun v => svm P n z b m (v + 1)) (i + 1) = cnt (fun v => svm P n z b m (v + 1)) i + (bif svm P n z b m (i + 1) then 1 else 0) := rfl
    rw [F_X12_seenTo_6, if_neg (nI_nlt (by omega) (by omega)), s.isSeen hN hm (by omega) r, bI_s, nI_1, nI_1]
    cases hb : svm P n z b m (i + 1) with
    | false =>
      rw [ifz_f rfl, nmI_s, show (0 : Int32) = nI 0 from rfl, nI_add, Nat.add_zero]
      rw [hb, cond_false] at e
      rw [show cnt (fun v => svm P n z b m (v + 1)) i = cnt (fun v => svm P n z b m (v + 1)) (i + 1) from e.symm]
      exact ih k (i + 1) (by omega) (by omega)
    | true =>
      rw [ifz_t rfl, nmI_s]
      rw [hb, cond_true] at e
      rw [← e]
      exact ih k (i + 1) (by omega) (by omega)
theorem seenTo8_s {z b a : Nat} (s : Sv I z b) (hN : 20000 ≤ N) (ha : a ≤ 999) (r : RSet I j n P) : f_X8_seenTo N (nI j) (nI a) I L = some (some (.int (nI (cnt (fun v => sv P n z b (v + 1)) a))), I, L) := by
  unfold f_X8_seenTo
  exact seenTo8Lp s hN ha r a N 0 (by omega) (by omega)
theorem seenTo12_s {z b a m : Nat} (s : Sv I z b) (hN : 20000 ≤ N) (hm : m < 256) (ha : a ≤ 999) (r : RSet I j n P) : f_X12_seenTo N (nI j) (nI m) (nI a) I L = some (some (.int (nI (cnt (fun v => svm P n z b m (v + 1)) a))), I, L) := by
  unfold f_X12_seenTo
  exact seenTo12Lp s hN hm ha r a N 0 (by omega) (by omega)
theorem firstLp {z b a : Nat} (s : Sv I z b) (hN : 20000 ≤ N) (ha : a ≤ 999) (r : RSet I j n P) : ∀ (t k l i : Nat), i + t = a → t < k → t < l → ∃ x : Int32, F_X8_firstUnseen_2 N k (nI j) (nI a) (nI (i + 1)) I L = some (some (.int x), I, L) ∧ F_X12_map_49 N l (nI j) (nI a) (nI (i + 1)) I L = some (some (.int x), I, L) := by
  intro t
  induction t with
  | zero =>
    intro k l i hi hk hl
    obtain ⟨k, rfl⟩ : ∃ q, k = q + 1 := ⟨k - 1, by omega⟩
    obtain ⟨l, rfl⟩ : ∃ q, l = q + 1 := ⟨l - 1, by omega⟩
    refine ⟨-1, ?_, ?_⟩
    · rw [F_X8_firstUnseen_2, if_pos (nI_lt (by omega) (by omega))]
    · rw [F_X12_map_49, if_pos (nI_lt (by omega) (by omega))]
  | succ t ih =>
    intro k l i hi hk hl
    obtain ⟨k, rfl⟩ : ∃ q, k = q + 1 := ⟨k - 1, by omega⟩
    obtain ⟨l, rfl⟩ : ∃ q, l = q + 1 := ⟨l - 1, by omega⟩
    rw [F_X8_firstUnseen_2, if_neg (nI_nlt (by omega) (by omega)), s.sees hN (by omega) r, bI_s, nI_1, F_X12_map_49, if_neg (nI_nlt (by omega) (by omega)), s.isSeenA hN (by omega) r, bI_s, nI_1]
    cases hb : sv P n z b (i + 1) with
    | false => exact ⟨nI (i + 1), by rw [ifz_f rfl], by rw [ifz_f rfl]⟩
    | true =>
      rw [ifz_t rfl, ifz_t rfl]
      exact ih k l (i + 1) (by omega) (by omega) (by omega)
end SEEN
theorem case_seen {X : PI → Prop} {N : Nat} (hN : 20000 ≤ N) (a1 a2 : Int32) : CaseI (Inv X) (f_X11_seen N a1 a2) (f_X12_seen N a1 a2) := by
  intro I L hI
  have hI0 := hI
  obtain ⟨-, hS, -, hR, -⟩ := hI
  obtain ⟨z, b, s⟩ := hS.sv
  obtain ⟨m, r1, r2, r3, r4⟩ := hR.set
  cases hq : hz a1 m with
  | false =>
    refine ⟨-1, I, L, I, L, ?_, ?_, hI0⟩
    · unfold f_X11_seen
      rw [has8_s r1 r2, bI_s, ifz_f hq]
    · unfold f_X12_seen
      rw [isSet_s r3, bI_s, ifz_f hq]
  | true =>
    cases hw : wi a2 0 999 with
    | false =>
      refine ⟨-1, I, L, I, L, ?_, ?_, hI0⟩
      · unfold f_X11_seen
        rw [has8_s r1 r2, bI_s, ifz_t hq, within_s, bI_s, ifz_f hw]
      · unfold f_X12_seen
        rw [isSet_s r3, bI_s, ifz_t hq, in_s, bI_s, ifz_f hw]
    | true =>
      obtain ⟨j, hj, rfl⟩ := (hz_iff (by omega)).mp hq
      obtain ⟨v, hv, rfl⟩ := wi_nat (n := 999) rfl (by omega) hw
      obtain ⟨n, P, r⟩ := r4 j hj
      refine ⟨bif sv P n z b v then 1 else 0, I, L, I, L, ?_, ?_, hI0⟩
      · unfold f_X11_seen
        rw [has8_s r1 r2, bI_s, ifz_t hq, within_s, bI_s, ifz_t hw, s.sees hN (by omega) r, bI_s]
        cases hb : sv P n z b v with
        | false => rw [ifz_f rfl]; rfl
        | true => rw [ifz_t rfl]; rfl
      · unfold f_X12_seen
        rw [isSet_s r3, bI_s, ifz_t hq, in_s, bI_s, ifz_t hw, s.isSeenA hN (by omega) r, bI_s]
        cases hb : sv P n z b v with
        | false => rw [ifz_f rfl]; rfl
        | true => rw [ifz_t rfl]; rfl
theorem case_map {X : PI → Prop} {N : Nat} (hN : 20000 ≤ N) (a1 a2 a3 : Int32) : CaseI (Inv X) (f_X11_map N a1 a2 a3) (f_X12_map N a1 a2 a3) := by
  intro I L hI
  have hI0 := hI
  obtain ⟨-, hS, -, hR, -⟩ := hI
  obtain ⟨z, b, s⟩ := hS.sv
  obtain ⟨m, r1, r2, r3, r4⟩ := hR.set
  cases hq : hz a1 m with
  | false =>
    refine ⟨-1000000, I, L, I, L, ?_, ?_, hI0⟩
    · unfold f_X11_map
      rw [has8_s r1 r2, bI_s, ifz_f hq]
    · unfold f_X12_map
      rw [isSet_s r3, bI_s, ifz_f hq]
  | true =>
    cases hw : wi a2 1 999 with
    | false =>
      refine ⟨-1000000, I, L, I, L, ?_, ?_, hI0⟩
      · unfold f_X11_map
        rw [has8_s r1 r2, bI_s, ifz_t hq, within_s, bI_s, ifz_f hw]
      · unfold f_X12_map
        rw [isSet_s r3, bI_s, ifz_t hq, in_s, bI_s, ifz_f hw]
    | true =>
      cases hu : wi a3 0 1 with
      | false =>
        refine ⟨-1000000, I, L, I, L, ?_, ?_, hI0⟩
        · unfold f_X11_map
          rw [has8_s r1 r2, bI_s, ifz_t hq, within_s, bI_s, ifz_t hw, within_s, bI_s, ifz_f hu]
        · unfold f_X12_map
          rw [isSet_s r3, bI_s, ifz_t hq, in_s, bI_s, ifz_t hw, in_s, bI_s, ifz_f hu]
      | true =>
        obtain ⟨j, hj, rfl⟩ := (hz_iff (by omega)).mp hq
        obtain ⟨a, ha1, ha, rfl⟩ := wi_nat2 (m := 1) (n := 999) rfl rfl (by omega) (by omega) hw
        obtain ⟨n, P, r⟩ := r4 j hj
        by_cases h3 : a3 = 0
        · have e8 := seenTo8_s (L := L) s hN ha r
          have e12 := seenTo12_s (L := L) (m := 255) s hN (by decide) ha r
          have e : cnt (fun v => svm P n z b 255 (v + 1)) a = cnt (fun v => sv P n z b (v + 1)) a := cnt_congr (fun k _ => svm_255 r.2.2.1)
          rw [e] at e12
          refine ⟨nI (cnt (fun v => sv P n z b (v + 1)) a), I, L, I, L, ?_, ?_, hI0⟩
          · unfold f_X11_map
            rw [has8_s r1 r2, bI_s, ifz_t hq, within_s, bI_s, ifz_t hw, within_s, bI_s, ifz_t hu, if_pos h3, e8, bI_s]
          · unfold f_X12_map
            rw [isSet_s r3, bI_s, ifz_t hq, in_s, bI_s, ifz_t hw, in_s, bI_s, ifz_t hu, if_pos h3, show (255 : Int32) = nI 255 from rfl, e12, bI_s]
        · obtain ⟨x, f1, f2⟩ := firstLp (L := L) s hN ha r a N N 0 (by omega) (by omega) (by omega)
          refine ⟨x, I, L, I, L, ?_, ?_, hI0⟩
          · unfold f_X11_map f_X8_firstUnseen
            rw [has8_s r1 r2, bI_s, ifz_t hq, within_s, bI_s, ifz_t hw, within_s, bI_s, ifz_t hu, if_neg h3, show (1 : Int32) = nI (0 + 1) from rfl, f1, bI_s]
          · unfold f_X12_map
            rw [isSet_s r3, bI_s, ifz_t hq, in_s, bI_s, ifz_t hw, in_s, bI_s, ifz_t hu, if_neg h3, show (1 : Int32) = nI (0 + 1) from rfl, f2]
