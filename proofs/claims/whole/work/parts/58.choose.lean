/-! choice: the class's table of masks -/
section CHOOSE
variable {N j n : Nat} {P : Nat → Nat}
/-- what choosing may change: cell 28 and two numbers of the class -/
def dW (a k : Nat) : Prop := a = 28 ∨ (a = 8 ∧ (k = 7 ∨ k = 8))
theorem RSet.cong {I J : PI} (h : Kp dW I J) (r : RSet I j n P) : RSet J j n P := by
  obtain ⟨⟨m, m1, m2, m3, m4⟩, h1, h2, h3, h4, h5⟩ := r
  refine ⟨⟨m, m1, ?_, ?_, m4⟩, h1, h2, ?_, ?_, fun k hk => ?_⟩
  · rw [h 8 6 (by unfold dW; omega)]; exact m2
  · rw [h 12 22 (by unfold dW; omega)]; exact m3
  · rw [h 26 _ (by unfold dW; omega)]; exact h3
  · rw [h 52 _ (by unfold dW; omega)]; exact h4
  · rw [h 25 _ (by unfold dW; omega), h 51 _ (by unfold dW; omega)]; exact h5 k hk
theorem Sv.cong {I J : PI} {z b : Nat} (h : Kp dW I J) (s : Sv I z b) : Sv J z b := by
  obtain ⟨h1, h2, h3, h4, h5, h6, h7⟩ := s
  refine ⟨h1, ?_, ?_, h4, h5, ?_, ?_⟩
  · rw [h 13 0 (by unfold dW; omega)]; exact h2
  · rw [h 12 32 (by unfold dW; omega)]; exact h3
  · rw [h 13 1 (by unfold dW; omega)]; exact h6
  · rw [h 12 33 (by unfold dW; omega)]; exact h7
theorem fill28Lp : ∀ (t k i : Nat) (I : PI) (L : PL), i + t = 256 → t < k → F_J7_fill_53178_r28_5 N k 0 (nI i) 256 I L = some (none, fil I 28 i (fun _ => 0) t, L) := by
  intro t
  induction t with
  | zero =>
    intro k i I L hi hk
    obtain ⟨k, rfl⟩ : ∃ q, k = q + 1 := ⟨k - 1, by omega⟩
    rw [F_J7_fill_53178_r28_5, show (256 : Int32) = nI 256 from rfl, if_pos (nI_le (by omega) (by omega)), fil_0]
  | succ t ih =>
    intro k i I L hi hk
    obtain ⟨k, rfl⟩ : ∃ q, k = q + 1 := ⟨k - 1, by omega⟩
    rw [F_J7_fill_53178_r28_5, show (256 : Int32) = nI 256 from rfl, if_neg (nI_ge (by omega) (by omega)), gd_in (by omega) (by omega), nmW_s, nI_clamp (by omega), nI_1, show nI 256 = (256 : Int32) from rfl, ih k (i + 1) _ L (by omega) (by omega), ← fil_step]
    rfl
theorem chooseLp {z b a : Nat} {c : Int32} (hN : 20000 ≤ N) (ha : a ≤ 999) : ∀ (t k i : Nat) (I : PI) (L : PL), i + t = a → t < k → Sv I z b → RSet I j n P → (∀ w, w < 256 → I 28 w = nI (hist (fun v => msk (sb P z v) n) i w)) → ∃ J : PI, F_X8_choose_11 N k (nI j) c (nI a) (nI (i + 1)) I L = F_X8_choose_71 N N (nI j) c 1 J L ∧ J 8 7 = -1 ∧ J 8 8 = -1 ∧ (∀ w, w < 256 → J 28 w = nI (hist (fun v => msk (sb P z v) n) a w)) ∧ Kp dW I J := by
  intro t
  induction t with
  | zero =>
    intro k i I L hi hk s r h
    obtain ⟨k, rfl⟩ : ∃ q, k = q + 1 := ⟨k - 1, by omega⟩
    refine ⟨uI (uI I 8 7 (-1)) 8 8 (-1), ?_, ?_, uI_eq, fun w hw => ?_, (Kp.rf.up (by unfold dW; omega)).up (by unfold dW; omega)⟩
    · rw [F_X8_choose_11, if_pos (nI_lt (by omega) (by omega)), nmW_s, nmW_s]
    · rw [uI_ne (by omega), uI_eq]
    · rw [uI_ne (by omega), uI_ne (by omega), show a = i by omega]
      exact h w hw
  | succ t ih =>
    intro k i I L hi hk s r h
    obtain ⟨k, rfl⟩ : ∃ q, k = q + 1 := ⟨k - 1, by omega⟩
    obtain ⟨x, hx⟩ : ∃ x, x = msk (sb P z (i + 1)) n := ⟨_, rfl⟩
    have hx2 : x < 256 := hx ▸ msk_lt8 r.2.2.1
    have e := seeing_s (L := L) hN (by omega : i + 1 < 2 ^ 31) s.1 s.2.1 r
    rw [← hx] at e
    have kU : Kp dW I (uI I 28 x (nI (hist (fun v => msk (sb P z v) n) i x + 1))) := Kp.rf.up (Or.inl rfl)
    obtain ⟨J, g1, g2, g3, g4, g5⟩ := ih k (i + 1) (uI I 28 x (nI (hist (fun v => msk (sb P z v) n) i x + 1))) L (by omega) (by omega) (s.cong kU) (r.cong kU) (fun w hw => by
      have e1 : hist (fun v => msk (sb P z v) n) (i + 1) w = hist (fun v => msk (sb P z v) n) i w + (bif decide (msk (sb P z (i + 1)) n = w) then 1 else 0) := rfl
      by_cases hwx : w = x
      · subst hwx
        rw [uI_eq, e1, decide_eq_true hx.symm, cond_true]
      · rw [uI_ne (by omega), e1, decide_eq_false (fun q => hwx (by rw [hx, q])), cond_false, h w hw, Nat.add_zero])
    refine ⟨J, ?_, g2, g3, g4, kU.tr g5⟩
    rw [F_X8_choose_11, if_neg (nI_nlt (by omega) (by omega)), e, bI_s, if_neg (nI_pos (by omega)), show (256 : Int32) = nI 256 from rfl, if_neg (nI_ge hx2 (by omega)), gd_in hx2 (by omega), gd_in hx2 (by omega), nI_clamp (by omega), nmW_s, h x hx2, nI_1, nI_1]
    exact g1
end CHOOSE
