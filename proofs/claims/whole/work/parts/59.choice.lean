/-! choice: seen by a choice of the rests, from the table of masks -/
section CHOICE
variable {N j n : Nat} {P : Nat → Nat} {I : PI} {L : PL}
def qw (b m w : Nat) : Bool := decide (b ≤ cnt (fun k => (w &&& m).testBit k) 8)
theorem and_lt {w m : Nat} (hm : m < 256) : w &&& m < 256 := Nat.lt_of_le_of_lt Nat.and_le_right hm
theorem qw_msk {z b m v : Nat} (hn : n ≤ 8) : qw b m (msk (sb P z v) n) = svm P n z b m v := by
  unfold qw svm
  rw [cnt_ext hn (fun k hk => by rw [Nat.testBit_and, msk_bit, decide_eq_false (by omega)]; rfl)]
  rw [cnt_congr (fun k hk => show (msk (sb P z v) n &&& m).testBit k = sbm P z m v k by rw [Nat.testBit_and, msk_bit, decide_eq_true hk, Bool.true_and, Bool.and_comm]; rfl)]
theorem sumU_le {f : Nat → Nat} {n m : Nat} (h : n ≤ m) : sumU f n ≤ sumU f m := by
  induction m with
  | zero => rw [show n = 0 by omega]; exact Nat.le_refl _
  | succ m ih =>
    by_cases hm : n = m + 1
    · rw [hm]; exact Nat.le_refl _
    · rw [sumU_s]
      have := ih (by omega)
      omega
theorem byChoiceLp {b m : Nat} {h : Nat → Nat} (hm : m < 256) (hb : b ≤ 8) (hb2 : I 13 1 = nI b) (hh : ∀ w, w < 256 → I 28 w = nI (h w)) : ∀ (t k i : Nat), i + t = 256 → t < k → F_X8_seenByChoice_4 N k (nI m) (nI (sumU (fun w => bif qw b m w then h w else 0) i)) (nI i) I L = some (some (.int (nI (sumU (fun w => bif qw b m w then h w else 0) 256))), I, L) := by
  intro t
  induction t with
  | zero =>
    intro k i hi hk
    obtain ⟨k, rfl⟩ : ∃ q, k = q + 1 := ⟨k - 1, by omega⟩
    rw [F_X8_seenByChoice_4, show (256 : Int32) = nI 256 from rfl, if_pos (nI_le (by omega) (by omega)), show i = 256 by omega]
  | succ t ih =>
    intro k i hi hk
    obtain ⟨k, rfl⟩ : ∃ q, k = q + 1 := ⟨k - 1, by omega⟩
    have hc := cnt_le (b := fun k => (i &&& m).testBit k) 8
    have e := sumU_s (f := fun w => bif qw b m w then h w else 0) (n := i)
    have h0 := ih k (i + 1) (by omega) (by omega)
    rw [F_X8_seenByChoice_4, show (256 : Int32) = nI 256 from rfl, if_neg (nI_ge (by omega) (by omega)), and_nI, bits_s (and_lt hm), bI_s, gd_in1 (by omega) (by omega), cl1, hb2, gd_in (by omega) (by omega), nI_clamp (by omega), hh i (by omega), nmI_s, nI_add, nI_1]
    by_cases hq : b ≤ cnt (fun k => (i &&& m).testBit k) 8
    · have e2 : qw b m i = true := decide_eq_true hq
      rw [if_neg (nI_nlt hq (by omega))]
      have e3 : sumU (fun w => bif qw b m w then h w else 0) (i + 1) = sumU (fun w => bif qw b m w then h w else 0) i + h i := by rw [e, e2]; rfl
      rw [← e3]
      exact h0
    · have e2 : qw b m i = false := decide_eq_false hq
      rw [if_pos (nI_lt (by omega) (by omega))]
      have e3 : sumU (fun w => bif qw b m w then h w else 0) (i + 1) = sumU (fun w => bif qw b m w then h w else 0) i := by rw [e, e2]; rfl
      rw [← e3]
      exact h0
theorem byChoice_s {z b m a : Nat} (hN : 20000 ≤ N) (hm : m < 256) (s : Sv I z b) (r : RSet I j n P) (hh : ∀ w, w < 256 → I 28 w = nI (hist (fun v => msk (sb P z v) n) a w)) : f_X8_seenByChoice N (nI m) I L = some (some (.int (nI (cnt (fun v => svm P n z b m (v + 1)) a))), I, L) := by
  have e := byChoiceLp (N := N) (L := L) hm s.2.2.2.2.1 s.2.2.2.2.2.1 hh 256 N 0 (by omega) (by omega)
  rw [hist_sum (M := fun v => msk (sb P z v) n) (Q := qw b m) (W := 256) a (fun v _ => msk_lt8 r.2.2.1), cnt_congr (b := fun v => qw b m (msk (sb P z (v + 1)) n)) (c := fun v => svm P n z b m (v + 1)) (fun k _ => qw_msk r.2.2.1)] at e
  unfold f_X8_seenByChoice
  exact e
end CHOICE
