section LAWM
variable {N s n : Nat} {T : Nat → Nat} {L : PL}
theorem JW.next {lg : Bool} {r p m c d : Nat} {J K : PI} (hN : 20000 ≤ N) (h : JW lg r s n T p m c d J K) : ∃ (q : Nat) (J1 K1 : PI), f_X10_next N J L = some (some (.int (cpC T n q)), J1, L) ∧ f_X12_look N K L = some (some (.int (cpM T n q)), K1, L) ∧ Kp d10 J J1 ∧ Kp d12 K K1 ∧ ∃ (w : List (Nat × Nat)), Gd lg r w ∧ p < q ∧ w.length + p ≤ q ∧ JS s n T q (m + w.length) (c + w.length) d J1 K1 ∧ seg (J1 17) eC m w ∧ seg (K1 40) (fun t => nI t.1) (260 * s + c) w ∧ seg (K1 41) (fun t => nI t.2) (260 * s + c) w := by
  obtain ⟨w, p', g1, g2, g3, g4, g5, g6, g7⟩ := h
  obtain ⟨I1, K1, e1, f1, j1, c1, m1⟩ := g4.next (N := N) (L := L) hN
  have hsk := skp_le (T := T) g4.2.2.1
  exact ⟨skp T n p', I1, K1, e1, f1, c1, m1, w, g1, by omega, by omega, j1, seg_cong w (fun j _ => c1 17 j (by unfold d10; omega)) g5, seg_cong w (fun j _ => m1 40 j (by unfold d12; omega)) g6, seg_cong w (fun j _ => m1 41 j (by unfold d12; omega)) g7⟩
/-- a condition whose first sum is read already -/
theorem flag_ok {p m c : Nat} {J K : PI} (hN : 20000 ≤ N) (hm : m ≤ p) (hc : c ≤ p) (jw : JW false 16 s n T p m c 0 J K) : ∃ (x : Int32) (J2 K2 K3 K4 : PI), f_X6_chain N 0 0 1 J L = some (some (.int x), J2, L) ∧ f_X12_compare N K L = some (none, K3, L) ∧ f_X12_goOnAnd N K3 L = some (none, K4, L) ∧ f_X12_goOnOr N K4 L = some (none, K2, L) ∧ OUT true 18 s n T p m c 0 J K x J2 K2 := by
  have hk0 := jw
  obtain ⟨q, J1, K1, e1, f1, c1, m1, w, g1, g2, g3, g4, g5, g6, g7⟩ := jw.next (N := N) (L := L) hN
  -- the comparison, from the state after one look of the class
  obtain ⟨w0, p0, z1, z2, z3, z4, z5, z6, z7⟩ := hk0
  obtain ⟨Ja, ea, ka, qa⟩ := next10 (N := N) (L := L) hN z4.1 z4.2.2.1 z4.2.2.2.1
  have hsk := skp_le (T := T) z4.2.2.1
  obtain ⟨Kz, ez, kz, qz⟩ := look12 (N := N) (L := L) hN z4.2.1 z4.2.2.1 z4.2.2.2.2.1
  -- the model looks twice alike
  have jwa : JW false 16 s n T p m c 0 J1 K1 := ⟨w, q, g1, g2, g3, g4, g5, g6, g7⟩
  obtain ⟨y, J2, K2, v1, v2, v3⟩ := cmp_ok (N := N) (L := L) (ca := (grp_X6_atom N 95).1) (cc := (grp_X6_atom N 95).2.1) (cp := (grp_X6_atom N 95).2.2.1) (cu := (grp_X6_atom N 95).2.2.2) hN (sum_at (N := N) (s := s) (n := n) (T := T) (L := L) (d := 0) (e := 6) (G := 95) hN (by omega) (by omega)) hm hc jwa
  have v2' : f_X12_compare N K L = some (none, K2, L) := by
    have hw : K 12 4 = -1 := z4.2.2.2.2.2.1
    have hw1 : K1 12 4 = -1 := g4.2.2.2.2.2.1
    have hid : ∃ Kb, f_X12_look N K1 L = some (some (.int (cpM T n q)), Kb, L) ∧ Kb = K1 := by
      unfold f_X12_compare at v2
      obtain ⟨M, rfl⟩ : ∃ M, N = M + 1 := ⟨N - 1, by omega⟩
      refine ⟨K1, ?_, rfl⟩
      -- the place is no blank
      have hq : skp T n q = q := by
        have := qz
        have e : q = skp T n p0 := by
          have h1 := f1.symm.trans ez
          have h2 : K1 = Kz := by
            injection h1 with h1
            injection h1 with h1 h2
            injection h2 with h2 h3
          have h3 := g4.2.2.2.2.1
          rw [h2, qz] at h3
          have hn := z4.1.1
          exact ((nI_eq (by omega) (by have := g4.2.2.1; omega)).mp h3).symm
        rw [e]
        exact skp_id z4.2.2.1
      have hh := here12 (N := M + 1) (L := L) g4.2.1 g4.2.2.1 g4.2.2.2.2.1
      unfold f_X12_look
      rw [F_X12_look_0, hh, bI_s]
      by_cases h32 : q < n ∧ T q = 32
      · exact absurd (skp_b h32.1 h32.2) (by
          rw [hq]
          have := skp_le (T := T) (n := n) (p := q + 1) (by omega)
          omega)
      · have hne : ¬ cpM T n q = (32 : Int32) := fun z => by
          have := (chM_eq (c := 32) g4.2.1 (by omega)).mp z
          exact h32 (of_decide_eq_true this)
        rw [if_neg hne, hh, bI_s]
    obtain ⟨Kb, hb1, hb2⟩ := hid
    subst hb2
    unfold f_X12_compare at v2 ⊢
    rw [if_pos hw1, hb1, bI_s] at v2
    rw [if_pos hw, f1, bI_s]
    exact v2
  have u96 : RJ L s n T 0 true 16 ((grp_X6_atom N 97).2.2.1 1 (nI 0) 0) ((grp_X12_condition N 99).2.2.2) := (unit_all (N := N) (s := s) (n := n) (T := T) (L := L) hN 6 0 96 99 (by omega) (by omega) (by omega)).wrap
  obtain ⟨y3, J3, K3, x1, x2, x3⟩ := goOnAnd_go (N := N) (L := L) (x := y) (ca := (grp_X6_atom N 97).1) (cc := (grp_X6_atom N 97).2.1) (cp := (grp_X6_atom N 97).2.2.1) (cu := (grp_X6_atom N 97).2.2.2) (m1 := (grp_X12_condition N 99).1) (m2 := (grp_X12_condition N 99).2.1) (m3 := (grp_X12_condition N 99).2.2.1) hN u96 hm hc v3
  have a98 : RJ L s n T 0 true 17 ((grp_X6_atom N 99).2.2.1 0 (nI 0) 0) (fun K L => bV ((grp_X12_condition N 99).2.2.2 K L) (fun I2 L3 => (grp_X12_condition N 99).2.1 I2 L3)) := (and_at (g := 99) (g' := 98) (G := 96) hN (unit_all (N := N) (s := s) (n := n) (T := T) (L := L) hN 6 0 96 99 (by omega) (by omega) (by omega)) (unit_all (N := N) (s := s) (n := n) (T := T) (L := L) hN 6 0 96 98 (by omega) (by omega) (by omega))).wrap
  obtain ⟨y4, J4, K4, w1, w2, w3⟩ := goOnOr_go (N := N) (L := L) (x := y3) (ca := (grp_X6_atom N 99).1) (cc := (grp_X6_atom N 99).2.1) (cp := (grp_X6_atom N 99).2.2.1) (cu := (grp_X6_atom N 99).2.2.2) (m1 := (grp_X12_condition N 99).1) (m2 := (grp_X12_condition N 99).2.1) (m3 := (grp_X12_condition N 99).2.2.1) (m4 := (grp_X12_condition N 99).2.2.2) hN a98 hm hc x3
  refine ⟨y4, J4, K4, K2, K3, ?_, v2', x2, w2, w3.of (k10_LC c1) (k345_LM (d12_345 m1)) (Nat.le_refl _) (Nat.le_refl _)⟩
  show fo_X6_chain N (grp_X6_atom N 99).1 (grp_X6_atom N 99).2.1 (grp_X6_atom N 99).2.2.1 (grp_X6_atom N 99).2.2.2 0 0 1 J L = _
  have cu : (grp_X6_atom N 96).2.2.2 0 1 J L = some (some (.int y), J2, L) := by
    show fo_X6_unit N (grp_X6_atom N 95).1 (grp_X6_atom N 95).2.1 (grp_X6_atom N 95).2.2.1 (grp_X6_atom N 95).2.2.2 0 1 J L = _
    unfold fo_X6_unit
    rw [e1, bI_s, if_neg ne_10]
    unfold F_X6_unit_47
    rw [if_neg ne_10]
    unfold F_X6_unit_95
    rw [if_neg ne_10]
    exact v1
  have c98 : (grp_X6_atom N 98).2.1 1 0 1 J L = some (some (.int y3), J3, L) := by
    show fo_X6_chain N (grp_X6_atom N 97).1 (grp_X6_atom N 97).2.1 (grp_X6_atom N 97).2.2.1 (grp_X6_atom N 97).2.2.2 1 0 1 J L = _
    unfold fo_X6_chain
    have cp : (grp_X6_atom N 97).2.2.1 1 0 1 J L = some (some (.int y), J2, L) := by
      show bI ((grp_X6_atom N 96).2.2.2 0 1 J L) (fun x7 I8 L9 => gd (decide (x7 &&& 1 = x7)) (some (some (.int x7), I8, L9))) = _
      rw [cu, bI_s, gd01 v3.x01]
    rw [cp, bI_s]
    exact x1
  unfold fo_X6_chain
  have cp : (grp_X6_atom N 99).2.2.1 0 0 1 J L = some (some (.int y3), J3, L) := by
    show bI ((grp_X6_atom N 98).2.1 1 0 1 J L) (fun x7 I8 L9 => gd (decide (x7 &&& 1 = x7)) (some (some (.int x7), I8, L9))) = _
    rw [c98, bI_s, gd01 x3.x01]
  rw [cp, bI_s]
  exact w1
end LAWM
