section LAWF
variable {N s n : Nat} {T : Nat → Nat} {L : PL}
theorem term_ok {d r : Nat} {ca : Int32 → PI → PL → RES} {cc cp : Int32 → Int32 → Int32 → PI → PL → RES} {cu : Int32 → Int32 → PI → PL → RES} {m1 m2 m3 : PI → PL → RES} (hN : 20000 ≤ N) (hsub : RJ L s n T d false r (cp 3 (nI d) 0) m1) : RJ L s n T d false (r + 1) (fo_X6_chain N ca cc cp cu 3 (nI d) 0) (fo_X12_term N m1 m2 m3) := by
  intro p m c I K j
  obtain ⟨x, J, K1, u1, u2, u3, u4, u5⟩ := hsub p m c I K j
  have hmp : m ≤ p := j.2.2.2.2.2.2.2.2.2.2.1
  have hcp : c ≤ p := j.2.2.2.2.2.2.2.2.2.2.2.1
  unfold fo_X6_chain fo_X12_term
  rw [u1, bI_s, u2, bV_s]
  rcases u5 with ⟨ex, w, p', g1, g2, g3, g4, g5, g6, g7⟩ | jx
  · subst ex
    have hn := g4.1.1
    have hp' := g4.2.2.1
    rw [if_neg ne_10, if_pos g4.2.2.2.2.2.1]
    obtain ⟨x, J2, K2, v1, v2, v3⟩ := termChLp (N := N) (L := L) (ca := ca) (cc := cc) (cp := cp) (cu := cu) (m1 := m1) (m2 := m2) (m3 := m3) hN hsub (n - p') N N 0 p' m c p w J K1 (by omega) (by omega) (by omega) (by omega) g4 (g1.mono (by omega)) g2 g3 hmp hcp g5 g6 g7
    exact ⟨x, J2, K2, v1, v2, v3.of u3 u4 (Nat.le_refl _) (Nat.le_refl _)⟩
  · obtain ⟨M, rfl⟩ : ∃ M, N = M + 1 := ⟨N - 1, by omega⟩
    rw [if_neg jx.ne, F_X12_term_21, if_neg (show ¬ (-1 : Int32) = 42 by decide), if_neg (show ¬ (-1 : Int32) = 47 by decide)]
    by_cases hx : x = 0
    · rw [if_pos hx, gd_k0]
      exact ⟨0, J, K1, rfl, rfl, u3, u4, Or.inr jx.z⟩
    · obtain ⟨J5, q5, g1, g2, g3, g4, -, g5⟩ := jx.nx (N := M + 1) (L := L) hN hx
      rw [if_neg hx, F_X6_chain_15, show (120 : Int32) = nI 120 from rfl, if_neg (show ¬ nI 120 ≤ (0 : Int32) by decide +kernel), g1, bI_s, joins3, if_neg (chC_n (x := 42) (a := 42) g5 (isDg_ch g2 (by omega)) rfl (by omega) (by omega)), if_neg (chC_n (x := 47) (a := 47) g5 (isDg_ch g2 (by omega)) rfl (by omega) (by omega)), bI_s, if_pos rfl, gd_k1]
      exact ⟨1, J5, K1, rfl, rfl, u3.tr (k10_LC (m := m) g3) (by omega), u4, Or.inr g4⟩
theorem sum_ok {d r : Nat} {ca : Int32 → PI → PL → RES} {cc cp : Int32 → Int32 → Int32 → PI → PL → RES} {cu : Int32 → Int32 → PI → PL → RES} {m1 m2 m3 : PI → PL → RES} (hN : 20000 ≤ N) (hsub : RJ L s n T d false r (cp 2 (nI d) 0) m3) : RJ L s n T d false (r + 1) (fo_X6_chain N ca cc cp cu 2 (nI d) 0) (fo_X12_sum N m1 m2 m3) := by
  intro p m c I K j
  obtain ⟨x, J, K1, u1, u2, u3, u4, u5⟩ := hsub p m c I K j
  have hmp : m ≤ p := j.2.2.2.2.2.2.2.2.2.2.1
  have hcp : c ≤ p := j.2.2.2.2.2.2.2.2.2.2.2.1
  unfold fo_X6_chain fo_X12_sum
  rw [u1, bI_s, u2, bV_s]
  rcases u5 with ⟨ex, w, p', g1, g2, g3, g4, g5, g6, g7⟩ | jx
  · subst ex
    have hn := g4.1.1
    have hp' := g4.2.2.1
    rw [if_neg ne_10, if_pos g4.2.2.2.2.2.1]
    obtain ⟨x, J2, K2, v1, v2, v3⟩ := sumChLp (N := N) (L := L) (ca := ca) (cc := cc) (cp := cp) (cu := cu) (m1 := m1) (m2 := m2) (m3 := m3) hN hsub (n - p') N N 0 p' m c p w J K1 (by omega) (by omega) (by omega) (by omega) g4 (g1.mono (by omega)) g2 g3 hmp hcp g5 g6 g7
    exact ⟨x, J2, K2, v1, v2, v3.of u3 u4 (Nat.le_refl _) (Nat.le_refl _)⟩
  · obtain ⟨M, rfl⟩ : ∃ M, N = M + 1 := ⟨N - 1, by omega⟩
    rw [if_neg jx.ne, F_X12_sum_21, if_neg (show ¬ (-1 : Int32) = 43 by decide), if_neg (show ¬ (-1 : Int32) = 45 by decide)]
    by_cases hx : x = 0
    · rw [if_pos hx, gd_k0]
      exact ⟨0, J, K1, rfl, rfl, u3, u4, Or.inr jx.z⟩
    · obtain ⟨J5, q5, g1, g2, g3, g4, -, g5⟩ := jx.nx (N := M + 1) (L := L) hN hx
      rw [if_neg hx, F_X6_chain_15, show (120 : Int32) = nI 120 from rfl, if_neg (show ¬ nI 120 ≤ (0 : Int32) by decide +kernel), g1, bI_s, joins2, if_neg (chC_n (x := 43) (a := 43) g5 (isDg_ch g2 (by omega)) rfl (by omega) (by omega)), if_neg (chC_n (x := 45) (a := 45) g5 (isDg_ch g2 (by omega)) rfl (by omega) (by omega)), bI_s, if_pos rfl, gd_k1]
      exact ⟨1, J5, K1, rfl, rfl, u3.tr (k10_LC (m := m) g3) (by omega), u4, Or.inr g4⟩
theorem OUT.x01 {lg : Bool} {r p m c d : Nat} {I K J K' : PI} {x : Int32} (h : OUT lg r s n T p m c d I K x J K') : x = 0 ∨ x = 1 := by
  rcases h.2.2 with ⟨h, -⟩ | ⟨p', m', c', h1, h2, h3, h4, h5, h6, h7, h8, h9, h10, h11, h | h⟩
  · exact Or.inr h
  · exact Or.inl h
  · exact Or.inr h.1
theorem RJ.wrap {d : Nat} {lg : Bool} {r : Nat} {f fm : PI → PL → RES} (h : RJ L s n T d lg r f fm) : RJ L s n T d lg r (fun I L => bI (f I L) (fun x1 I2 L3 => gd (decide (x1 &&& 1 = x1)) (some (some (.int x1), I2, L3)))) fm := by
  intro p m c I K j
  obtain ⟨x, J, K1, u1, u2, u3⟩ := h p m c I K j
  refine ⟨x, J, K1, ?_, u2, u3⟩
  show bI (f I L) _ = _
  rw [u1, bI_s, gd01 u3.x01]
theorem RJ.mono {d : Nat} {lg : Bool} {r r' : Nat} {f fm : PI → PL → RES} (h : RJ L s n T d lg r f fm) (hr : r ≤ r') : RJ L s n T d lg r' f fm := by
  intro p m c I K j
  obtain ⟨x, J, K1, u1, u2, u3⟩ := h p m c I K j
  exact ⟨x, J, K1, u1, u2, u3.of KLC.rf KLM.rf (Nat.le_refl _) hr⟩
/-- sums, at every depth -/
theorem sum_all (hN : 20000 ≤ N) : ∀ (e d G G' : Nat), d + e = 6 → 5 * e ≤ G → 3 * e ≤ G' → RJ L s n T d false (3 + 2 * e) ((grp_X6_atom N (G + 5)).2.1 2 (nI d) 0) ((grp_X12_atom N (G' + 3)).2.1) := by
  intro e
  induction e with
  | zero =>
    intro d G G' hd hG hG'
    have h1 : RJ L s n T d false 1 ((grp_X6_atom N (G + 1)).1 (nI d)) ((grp_X12_atom N (G' + 1)).1) := atom_ok (ca := (grp_X6_atom N G).1) (cc := (grp_X6_atom N G).2.1) (cp := (grp_X6_atom N G).2.2.1) (cu := (grp_X6_atom N G).2.2.2) (ma := (grp_X12_atom N G').1) (ms := (grp_X12_atom N G').2.1) (mt := (grp_X12_atom N G').2.2) (r' := 0) hN (fun q => by omega) (Nat.le_refl _)
    have h2 : RJ L s n T d false 1 ((grp_X6_atom N (G + 2)).2.2.1 3 (nI d) 0) ((grp_X12_atom N (G' + 1)).1) := h1.wrap
    have h3 : RJ L s n T d false 2 ((grp_X6_atom N (G + 3)).2.1 3 (nI d) 0) ((grp_X12_atom N (G' + 2)).2.2) := term_ok (ca := (grp_X6_atom N (G + 2)).1) (cc := (grp_X6_atom N (G + 2)).2.1) (cp := (grp_X6_atom N (G + 2)).2.2.1) (cu := (grp_X6_atom N (G + 2)).2.2.2) (m1 := (grp_X12_atom N (G' + 1)).1) (m2 := (grp_X12_atom N (G' + 1)).2.1) (m3 := (grp_X12_atom N (G' + 1)).2.2) hN h2
    have h4 : RJ L s n T d false 2 ((grp_X6_atom N (G + 4)).2.2.1 2 (nI d) 0) ((grp_X12_atom N (G' + 2)).2.2) := h3.wrap
    exact sum_ok (ca := (grp_X6_atom N (G + 4)).1) (cc := (grp_X6_atom N (G + 4)).2.1) (cp := (grp_X6_atom N (G + 4)).2.2.1) (cu := (grp_X6_atom N (G + 4)).2.2.2) (m1 := (grp_X12_atom N (G' + 2)).1) (m2 := (grp_X12_atom N (G' + 2)).2.1) (m3 := (grp_X12_atom N (G' + 2)).2.2) hN h4
  | succ e ih =>
    intro d G G' hd hG hG'
    obtain ⟨G, rfl⟩ : ∃ q, G = q + 5 := ⟨G - 5, by omega⟩
    obtain ⟨G', rfl⟩ : ∃ q, G' = q + 3 := ⟨G' - 3, by omega⟩
    have h0 := ih (d + 1) G G' (by omega) (by omega) (by omega)
    have h1 : RJ L s n T d false (3 + 2 * e) ((grp_X6_atom N (G + 5 + 1)).1 (nI d)) ((grp_X12_atom N (G' + 3 + 1)).1) := atom_ok (ca := (grp_X6_atom N (G + 5)).1) (cc := (grp_X6_atom N (G + 5)).2.1) (cp := (grp_X6_atom N (G + 5)).2.2.1) (cu := (grp_X6_atom N (G + 5)).2.2.2) (ma := (grp_X12_atom N (G' + 3)).1) (ms := (grp_X12_atom N (G' + 3)).2.1) (mt := (grp_X12_atom N (G' + 3)).2.2) hN (fun q => ⟨Nat.le_refl _, h0⟩) (by omega)
    have h2 : RJ L s n T d false (3 + 2 * e) ((grp_X6_atom N (G + 5 + 2)).2.2.1 3 (nI d) 0) ((grp_X12_atom N (G' + 3 + 1)).1) := h1.wrap
    have h3 : RJ L s n T d false (3 + 2 * e + 1) ((grp_X6_atom N (G + 5 + 3)).2.1 3 (nI d) 0) ((grp_X12_atom N (G' + 3 + 2)).2.2) := term_ok (ca := (grp_X6_atom N (G + 5 + 2)).1) (cc := (grp_X6_atom N (G + 5 + 2)).2.1) (cp := (grp_X6_atom N (G + 5 + 2)).2.2.1) (cu := (grp_X6_atom N (G + 5 + 2)).2.2.2) (m1 := (grp_X12_atom N (G' + 3 + 1)).1) (m2 := (grp_X12_atom N (G' + 3 + 1)).2.1) (m3 := (grp_X12_atom N (G' + 3 + 1)).2.2) hN h2
    have h4 : RJ L s n T d false (3 + 2 * e + 1) ((grp_X6_atom N (G + 5 + 4)).2.2.1 2 (nI d) 0) ((grp_X12_atom N (G' + 3 + 2)).2.2) := h3.wrap
    rw [show 3 + 2 * (e + 1) = 3 + 2 * e + 1 + 1 by omega]
    exact sum_ok (ca := (grp_X6_atom N (G + 5 + 4)).1) (cc := (grp_X6_atom N (G + 5 + 4)).2.1) (cp := (grp_X6_atom N (G + 5 + 4)).2.2.1) (cu := (grp_X6_atom N (G + 5 + 4)).2.2.2) (m1 := (grp_X12_atom N (G' + 3 + 2)).1) (m2 := (grp_X12_atom N (G' + 3 + 2)).2.1) (m3 := (grp_X12_atom N (G' + 3 + 2)).2.2) hN h4
end LAWF
