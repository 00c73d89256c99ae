section LAWA
variable {N s n : Nat} {T : Nat → Nat} {L : PL}
theorem letter_s {p : Nat} {K I : PI} (t : TM I n T) : f_X12_letterOf N (cpM T n p) K L = some (some (.int (if isCh T n p 107 = true then 0 else if isCh T n p 110 = true then 1 else if isCh T n p 97 = true then 2 else if isCh T n p 98 = true then 3 else -1)), K, L) := by
  unfold f_X12_letterOf
  cases h1 : isCh T n p 107 with
  | true => rw [if_pos (chM_y t h1 (x := 107) (a := 107) rfl (by omega)), if_pos rfl]
  | false =>
    rw [if_neg (chM_n t h1 (x := 107) (a := 107) rfl (by omega)), if_neg (show ¬ (false = true) by decide)]
    cases h2 : isCh T n p 110 with
    | true => rw [if_pos (chM_y t h2 (x := 110) (a := 110) rfl (by omega)), if_pos rfl]
    | false =>
      rw [if_neg (chM_n t h2 (x := 110) (a := 110) rfl (by omega)), if_neg (show ¬ (false = true) by decide)]
      cases h3 : isCh T n p 97 with
      | true => rw [if_pos (chM_y t h3 (x := 97) (a := 97) rfl (by omega)), if_pos rfl]
      | false =>
        rw [if_neg (chM_n t h3 (x := 97) (a := 97) rfl (by omega)), if_neg (show ¬ (false = true) by decide)]
        cases h4 : isCh T n p 98 with
        | true => rw [if_pos (chM_y t h4 (x := 98) (a := 98) rfl (by omega)), if_pos rfl]
        | false => rw [if_neg (chM_n t h4 (x := 98) (a := 98) rfl (by omega)), if_neg (show ¬ (false = true) by decide)]
/-- a step over a sign, and what both then write -/
theorem write_J {p m c d k v : Nat} {r : Nat} {I K : PI} (j : JS s n T p m c d I K) (hp : p < n) (hg : Gd false r [(k, v)]) : JW false r s n T p m c d (uI (uI (uI I 10 2 (nI (p + 1))) 17 m (eC (k, v))) 6 2 (nI (m + 1))) (uI (uI (uI (uI K 12 3 (nI (p + 1))) 40 (260 * s + c) (nI k)) 41 (260 * s + c) (nI v)) 42 s (nI (c + 1))) := by
  have hm := j.2.2.2.2.2.2.2.2.2.2.1
  have hc := j.2.2.2.2.2.2.2.2.2.2.2.1
  refine ⟨[(k, v)], p + 1, hg, by omega, Nat.le_of_eq (Nat.add_comm 1 p), (j.step hp).write (by omega) (by omega), seg_one ?_, seg_one ?_, seg_one ?_⟩
  · rw [uI_ne (by omega), uI_eq]
  · rw [uI_ne (by omega), uI_ne (by omega), uI_eq]
  · rw [uI_ne (by omega), uI_eq]
theorem JW.of {lg : Bool} {r r' p0 p m c d : Nat} {J K : PI} (h : JW lg r s n T p m c d J K) (hp : p0 ≤ p) (hr : r ≤ r') : JW lg r' s n T p0 m c d J K := by
  obtain ⟨w, p', h1, h2, h3, h4⟩ := h
  exact ⟨w, p', h1.mono hr, by omega, by omega, h4⟩
theorem gd01 {x : Int32} {o : RES} (h : x = 0 ∨ x = 1) : gd (decide (x &&& 1 = x)) o = o := by
  rcases h with rfl | rfl
  · rw [show decide ((0 : Int32) &&& 1 = 0) = true by decide, gd_t]
  · rw [show decide ((1 : Int32) &&& 1 = 1) = true by decide, gd_t]
theorem number_ok {p m c d r : Nat} {I K : PI} (hN : 20000 ≤ N) (j : JS s n T p m c d I K) (hd : isDg T n p = true) (hr : 1 ≤ r) : ∃ (x : Int32) (J K' : PI) (v : Nat) (K1 : PI), f_X6_number N I L = some (some (.int x), J, L) ∧ f_X12_plainNumber N K L = some (some (.int (nI v)), K1, L) ∧ f_X12_put N 0 (nI v) K1 L = some (none, K', L) ∧ (x = 0 ∨ x = 1) ∧ OUT false r s n T p m c d I K x J K' := by
  obtain ⟨q, v, J, K1, g1, g2, g3, g4, g5, g6, g7, g8, g9⟩ := numLp (N := N) (L := L) 4 N N 0 0 p I K (by omega) (by omega) (by omega) (by omega) j
  have hq := g4 hd (by omega)
  have hjm : m ≤ p := j.2.2.2.2.2.2.2.2.2.2.1
  have hjc : c ≤ p := j.2.2.2.2.2.2.2.2.2.2.2.1
  obtain ⟨h1, h2, h3, h4, h5, h6, h7, h8, h9, h10, h11, h12, h13, h14⟩ := g7
  have hn := h1.1
  have eC0 : f_X6_number N I L = some (some (.int 1), uI (uI J 17 m (nI v)) 6 2 (nI (m + 1)), L) := by
    unfold f_X6_number
    refine Eq.trans g5 ?_
    unfold F_X6_number_46
    rw [if_neg (show ¬ nI (0 + (q - p)) = (0 : Int32) from fun z => by have := (nI_eq (b := 0) (by omega) (by omega)).mp z; omega), make_s h7 (by omega), bV_s, gd_k1]
  have kC : KLC m I (uI (uI J 17 m (nI v)) 6 2 (nI (m + 1))) := (k10_LC (m := m) g8).tr makeK (Nat.le_refl _)
  cases hdq : isDg T n q with
  | false =>
    have eM : f_X12_plainNumber N K L = some (some (.int (nI v)), K1, L) := by
      unfold f_X12_plainNumber
      refine Eq.trans g6 ?_
      unfold F_X12_plainNumber_48
      rw [here12 h2 h3 h5, bI_s, dg12 h2, bI_s, hdq, ifz_f rfl]
    refine ⟨1, _, _, v, K1, eC0, eM, putM_s h14 h8 h9 (by omega), Or.inr rfl, kC, (k345_LM (d12_345 g9)).tr putK (Nat.le_refl _), Or.inl ⟨rfl, [(0, v)], q, (Gd_num g3).mono hr, hq, by show 1 + p ≤ q; omega, ?_, seg_one (by rw [uI_ne (by omega), uI_eq]; rfl), seg_one (by rw [uI_ne (by omega), uI_ne (by omega), uI_eq]; rfl), seg_one (by rw [uI_ne (by omega), uI_eq])⟩⟩
    exact JS.write ⟨h1, h2, h3, h4, h5, h6, h7, h8, h9, h10, h11, h12, h13, h14⟩ (by have := j.2.2.2.2.2.2.2.2.2.2.1; omega) (by have := j.2.2.2.2.2.2.2.2.2.2.2.1; omega)
  | true =>
    have eM : f_X12_plainNumber N K L = some (some (.int (nI v)), uI K1 12 4 (nI q), L) := by
      unfold f_X12_plainNumber
      refine Eq.trans g6 ?_
      unfold F_X12_plainNumber_48
      rw [here12 h2 h3 h5, bI_s, dg12 h2, bI_s, hdq, ifz_t rfl, bad12 h5 h6, bV_s]
    have kM : KLM s c K (uI K1 12 4 (nI q)) := k345_LM ((d12_345 g9).up (by unfold d345; omega))
    refine ⟨1, _, _, v, uI K1 12 4 (nI q), eC0, eM, putM_s h14 (by rw [uI_ne (by omega)]; exact h8) (by rw [uI_ne (by omega)]; exact h9) (by omega), Or.inr rfl, kC, kM.tr putK (Nat.le_refl _), Or.inr ⟨q, m + 1, c + 1, by omega, h3, by omega, by omega, h1.cong (dT_LC (makeK (m := m)).1), (h2.cong (fun a k q => uI_ne (by unfold dT at q; omega))).cong (dT_LM (putK (s := s) (c := c)).1), ?_, ?_, uI_eq, ?_, uI_eq, Or.inr ⟨rfl, hdq⟩⟩⟩
    · rw [uI_ne (by omega), uI_ne (by omega), h4]
    · rw [uI_ne (by omega), uI_ne (by omega), uI_ne (by omega), uI_eq]
    · rw [uI_ne (by omega), uI_ne (by omega), uI_ne (by omega), uI_ne (by omega), h8]
end LAWA
