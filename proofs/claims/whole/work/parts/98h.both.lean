/-! the readers one after the other: the class, then the model from the class's state -/
section BOTH
variable {N n : Nat} {T : Nat → Nat} {L : PL}
theorem res_inj {x x' : Int32} {J J' : PI} {o : RES} (h : o = some (some (.int x), J, L)) (h' : o = some (some (.int x'), J', L)) : x' = x ∧ J' = J := by
  rw [h] at h'
  injection h' with h'
  injection h' with h1 h2
  injection h1 with h1
  injection h1 with h1
  injection h2 with h2 h3
  exact ⟨h1.symm, h2.symm⟩
theorem lawAll {s : Nat} {I : PI} (hN : 20000 ≤ N) (hs : s ≤ 6) (tI : TP I n T) : ∃ (x : Int32) (J : PI), f_X6_readLaw N I L = some (some (.int x), J, L) ∧ Kp dLC I J ∧ ∀ K : PI, TM K n T → ∃ K' : PI, f_X12_readLaw N (nI s) K L = some (some (.int x), K', L) ∧ Kp dLQ K K' ∧ (∀ j, j < 260 * s → K' 40 j = K 40 j ∧ K' 41 j = K 41 j) ∧ (∀ j, j ≠ s → K' 42 j = K 42 j ∧ K' 43 j = K 43 j) ∧ (∀ j, j < 90 * s → K' 44 j = K 44 j ∧ K' 45 j = K 45 j ∧ K' 46 j = K 46 j) ∧ (x = -1 → LW s 0 0 0 J K') := by
  obtain ⟨x, J, K, a1, -, a3, -⟩ := readLaw_ok (N := N) (L := L) hN hs tI tI.tm
  refine ⟨x, J, a1, a3, fun K tK => ?_⟩
  obtain ⟨x', J', K', b1, b2, b3, b4⟩ := readLaw_ok (N := N) (L := L) hN hs tI tK
  obtain ⟨e1, e2⟩ := res_inj a1 b1
  subst e1 e2
  exact ⟨K', b2, b4⟩
theorem lawBoth {s : Nat} {I : PI} (hN : 20000 ≤ N) (hs : s ≤ 6) (tI : TP I n T) : ∃ (x : Int32) (J K' : PI), f_X6_readLaw N I L = some (some (.int x), J, L) ∧ f_X12_readLaw N (nI s) J L = some (some (.int x), K', L) ∧ Kp dLC I J ∧ Kp dLQ J K' ∧ (∀ j, j < 260 * s → K' 40 j = J 40 j ∧ K' 41 j = J 41 j) ∧ (∀ j, j ≠ s → K' 42 j = J 42 j ∧ K' 43 j = J 43 j) ∧ (∀ j, j < 90 * s → K' 44 j = J 44 j ∧ K' 45 j = J 45 j ∧ K' 46 j = J 46 j) ∧ (x = -1 → LW s 0 0 0 J K') := by
  obtain ⟨x, J, a1, a3, h⟩ := lawAll (N := N) (L := L) hN hs tI
  obtain ⟨K', b1, b2⟩ := h J (tI.cong (dT_LC a3)).tm
  exact ⟨x, J, K', a1, b1, a3, b2⟩
theorem restsAll {m s : Nat} {I : PI} (hN : 20000 ≤ N) (hm : m ≤ 6) (hs : s ≤ 6) (tI : TP I n T) (h8 : I 8 6 = nI m) : ∃ (x : Int32) (J : PI), f_X8_readFrom N I L = some (some (.int x), J, L) ∧ Kp dRC I J ∧ (∀ a k, a = 25 → k < 8 * m → J a k = I a k) ∧ (∀ k, k ≠ m → J 26 k = I 26 k) ∧ ∀ K : PI, TM K n T → ∃ K' : PI, f_X12_readRests N (nI s) K L = some (some (.int x), K', L) ∧ Kp dRM K K' ∧ (∀ k, k < 8 * s → K' 51 k = K 51 k) ∧ (∀ k, k ≠ s → K' 52 k = K 52 k) ∧ (x = -1 → ∃ c, 1 ≤ c ∧ c ≤ 8 ∧ J 26 m = nI c ∧ K' 52 s = nI c ∧ rowE J K' m s c) := by
  have kI : Kp dRC I (uI I 10 2 0) := Kp.rf.up (by unfold dRC; omega)
  have kS : ∀ K : PI, Kp dRM K (uI (uI (uI K 12 3 0) 12 4 (-1)) 52 s 0) := fun K => ((Kp.rf.up (by unfold dRM; omega)).up (by unfold dRM; omega)).up (by unfold dRM; omega)
  have one : ∀ K : PI, TM K n T → ∃ (x : Int32) (J K' : PI), f_X8_readFrom N I L = some (some (.int x), J, L) ∧ f_X12_readRests N (nI s) K L = some (some (.int x), K', L) ∧ Kp dRC I J ∧ Kp dRM K K' ∧ (∀ a k, a = 25 → k < 8 * m → J a k = I a k) ∧ (∀ k, k ≠ m → J 26 k = I 26 k) ∧ (∀ k, k < 8 * s → K' 51 k = K 51 k) ∧ (∀ k, k ≠ s → K' 52 k = K 52 k) ∧ (x = -1 → ∃ c, 1 ≤ c ∧ c ≤ 8 ∧ J 26 m = nI c ∧ K' 52 s = nI c ∧ rowE J K' m s c) := by
    intro K tK
    have k2 := kS K
    obtain ⟨x, J, K', g1, g2, g3, g4, g5, g6, g7, g8, g9⟩ := restsLp (N := N) (L := L) hN hm hs 8 N N 0 0 (uI I 10 2 0) (uI (uI (uI K 12 3 0) 12 4 (-1)) 52 s 0) (by omega) (by omega) (by omega) (by omega) (tI.cong (dT_RC kI)) (tK.cong (dT_RM k2)) (by omega) uI_eq (by rw [uI_ne (by omega), uI_ne (by omega), uI_eq]; rfl) (by rw [uI_ne (by omega), uI_eq]) ((uI_ne (by omega)).trans h8) uI_eq (fun j hj => by omega)
    refine ⟨x, J, K', ?_, ?_, kI.tr g3, k2.tr g4, fun a k ha hk => (g5 a k ha hk).trans (uI_ne (by omega)), fun k hk => (g6 k hk).trans (uI_ne (by omega)), fun k hk => (g7 k hk).trans (by rw [uI_ne (by omega), uI_ne (by omega), uI_ne (by omega)]), fun k hk => (g8 k hk).trans (by rw [uI_ne (by omega), uI_ne (by omega), uI_ne (by omega)]), g9⟩
    · unfold f_X8_readFrom f_X10_start
      rw [nmW_s, bV_s]
      exact g1
    · unfold f_X12_readRests
      rw [nmW_s, nmW_s, gd_in (by omega) (by omega), nI_clamp (by omega), nmW_s]
      exact g2
  obtain ⟨x, J, K, a1, -, a3, -, a5, a6, -⟩ := one I tI.tm
  refine ⟨x, J, a1, a3, a5, a6, fun K tK => ?_⟩
  obtain ⟨x', J', K', b1, b2, -, b4, -, -, b7⟩ := one K tK
  obtain ⟨e1, e2⟩ := res_inj a1 b1
  subst e1 e2
  exact ⟨K', b2, b4, b7⟩
theorem restsBoth {m s : Nat} {I : PI} (hN : 20000 ≤ N) (hm : m ≤ 6) (hs : s ≤ 6) (tI : TP I n T) (h8 : I 8 6 = nI m) : ∃ (x : Int32) (J K' : PI), f_X8_readFrom N I L = some (some (.int x), J, L) ∧ f_X12_readRests N (nI s) J L = some (some (.int x), K', L) ∧ Kp dRC I J ∧ Kp dRM J K' ∧ (∀ a k, a = 25 → k < 8 * m → J a k = I a k) ∧ (∀ k, k ≠ m → J 26 k = I 26 k) ∧ (∀ k, k < 8 * s → K' 51 k = J 51 k) ∧ (∀ k, k ≠ s → K' 52 k = J 52 k) ∧ (x = -1 → ∃ c, 1 ≤ c ∧ c ≤ 8 ∧ J 26 m = nI c ∧ K' 52 s = nI c ∧ rowE J K' m s c) := by
  obtain ⟨x, J, a1, a3, a5, a6, h⟩ := restsAll (N := N) (L := L) hN hm hs tI h8
  obtain ⟨K', b1, b2, b3⟩ := h J (tI.cong (dT_RC a3)).tm
  exact ⟨x, J, K', a1, b1, a3, b2, a5, a6, b3⟩
end BOTH
