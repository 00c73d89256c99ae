section LAWI
variable {N s n : Nat} {T : Nat → Nat} {L : PL}
theorem and_ok {d r : Nat} {ca : Int32 → PI → PL → RES} {cc cp : Int32 → Int32 → Int32 → PI → PL → RES} {cu : Int32 → Int32 → PI → PL → RES} {mu m1 m2 m3 m4 : PI → PL → RES} (hN : 20000 ≤ N) (hf : RJ L s n T d true r (cp 1 (nI d) 0) mu) (hsub : RJ L s n T d true r (cp 1 (nI d) 0) m4) : RJ L s n T d true (r + 1) (fo_X6_chain N ca cc cp cu 1 (nI d) 0) (fun K L => bV (mu K L) (fun I2 L3 => F_X12_goOnAnd_0 N m1 m2 m3 m4 N I2 L3)) := by
  intro p m c I K j
  obtain ⟨x, J, K1, u1, u2, u3⟩ := hf p m c I K j
  obtain ⟨y, J2, K2, v1, v2, v3⟩ := goOnAnd_go (ca := ca) (cc := cc) (cu := cu) (m1 := m1) (m2 := m2) (m3 := m3) hN hsub j.2.2.2.2.2.2.2.2.2.2.1 j.2.2.2.2.2.2.2.2.2.2.2.1 u3
  refine ⟨y, J2, K2, ?_, ?_, v3⟩
  · unfold fo_X6_chain
    rw [u1, bI_s, v1]
  · show bV (mu K L) _ = _
    rw [u2, bV_s, v2]
theorem or_ok {d r : Nat} {ca : Int32 → PI → PL → RES} {cc cp : Int32 → Int32 → Int32 → PI → PL → RES} {cu : Int32 → Int32 → PI → PL → RES} {mu m1 m2 m3 m4 : PI → PL → RES} (hN : 20000 ≤ N) (hf : RJ L s n T d true r (cp 0 (nI d) 0) mu) (hsub : RJ L s n T d true r (cp 0 (nI d) 0) (fun K L => bV (m4 K L) (fun I6 L7 => m2 I6 L7))) : RJ L s n T d true (r + 1) (fo_X6_chain N ca cc cp cu 0 (nI d) 0) (fun K L => bV (mu K L) (fun I2 L3 => F_X12_goOnOr_0 N m1 m2 m3 m4 N I2 L3)) := by
  intro p m c I K j
  obtain ⟨x, J, K1, u1, u2, u3⟩ := hf p m c I K j
  obtain ⟨y, J2, K2, v1, v2, v3⟩ := goOnOr_go (ca := ca) (cc := cc) (cu := cu) (m1 := m1) (m3 := m3) hN hsub j.2.2.2.2.2.2.2.2.2.2.1 j.2.2.2.2.2.2.2.2.2.2.2.1 u3
  refine ⟨y, J2, K2, ?_, ?_, v3⟩
  · unfold fo_X6_chain
    rw [u1, bI_s, v1]
  · show bV (mu K L) _ = _
    rw [u2, bV_s, v2]
theorem cond_fm {a : RES} {f g : PI → PL → RES} {K : PI} {L1 : PL} (h : bV (bV a f) g = some (none, K, L1)) : bV a (fun I2 L3 => bV (f I2 L3) (fun I5 L6 => bV (g I5 L6) (fun I8 L9 => some (none, I8, L9)))) = some (none, K, L1) := by
  obtain ⟨I1, L1', h1, h2⟩ := bV_some h
  obtain ⟨I2, L2, h3, h4⟩ := bV_some h1
  rw [h3, bV_s, h4, bV_s, h2, bV_s]
theorem sum_at {d e G : Nat} (hN : 20000 ≤ N) (hd : d + e = 6) (hG : 5 * e + 5 ≤ G) : RJ L s n T d false (3 + 2 * e) ((grp_X6_atom N G).2.1 2 (nI d) 0) (f_X12_sum N) := by
  obtain ⟨G, rfl⟩ : ∃ q, G = q + 5 := ⟨G - 5, by omega⟩
  exact sum_all (N := N) (s := s) (n := n) (T := T) (L := L) hN e d G 97 hd (by omega) (by omega)
/-- the two kinds of chains, from units -/
theorem and_at {d r : Nat} (hN : 20000 ≤ N) {G g g' : Nat} (hu : RJ L s n T d true r ((grp_X6_atom N G).2.2.2 (nI d) 0) ((grp_X12_condition N g).2.2.2)) (hu' : RJ L s n T d true r ((grp_X6_atom N G).2.2.2 (nI d) 0) ((grp_X12_condition N g').2.2.2)) : RJ L s n T d true (r + 1) ((grp_X6_atom N (G + 2)).2.1 1 (nI d) 0) (fun K L => bV ((grp_X12_condition N g).2.2.2 K L) (fun I2 L3 => (grp_X12_condition N (g' + 1)).2.1 I2 L3)) := by
  have w1 : RJ L s n T d true r ((grp_X6_atom N (G + 1)).2.2.1 1 (nI d) 0) ((grp_X12_condition N g).2.2.2) := hu.wrap
  have w2 : RJ L s n T d true r ((grp_X6_atom N (G + 1)).2.2.1 1 (nI d) 0) ((grp_X12_condition N g').2.2.2) := hu'.wrap
  exact and_ok (ca := (grp_X6_atom N (G + 1)).1) (cc := (grp_X6_atom N (G + 1)).2.1) (cp := (grp_X6_atom N (G + 1)).2.2.1) (cu := (grp_X6_atom N (G + 1)).2.2.2) (m1 := (grp_X12_condition N g').1) (m2 := (grp_X12_condition N g').2.1) (m3 := (grp_X12_condition N g').2.2.1) (m4 := (grp_X12_condition N g').2.2.2) hN w1 w2
theorem or_at {d r : Nat} (hN : 20000 ≤ N) {G g : Nat} (hu : ∀ g', g ≤ g' → RJ L s n T d true r ((grp_X6_atom N G).2.2.2 (nI d) 0) ((grp_X12_condition N g').2.2.2)) : RJ L s n T d true (r + 2) ((grp_X6_atom N (G + 4)).2.1 0 (nI d) 0) ((grp_X12_condition N (g + 3)).1) := by
  have a1 : RJ L s n T d true (r + 1) ((grp_X6_atom N (G + 2)).2.1 1 (nI d) 0) (fun K L => bV ((grp_X12_condition N (g + 2)).2.2.2 K L) (fun I2 L3 => (grp_X12_condition N (g + 1 + 1)).2.1 I2 L3)) := and_at hN (hu _ (by omega)) (hu _ (by omega))
  have a2 : RJ L s n T d true (r + 1) ((grp_X6_atom N (G + 2)).2.1 1 (nI d) 0) (fun K L => bV ((grp_X12_condition N (g + 1)).2.2.2 K L) (fun I2 L3 => (grp_X12_condition N (g + 1)).2.1 I2 L3)) := and_at hN (hu _ (by omega)) (hu _ (by omega))
  have w1 : RJ L s n T d true (r + 1) ((grp_X6_atom N (G + 3)).2.2.1 0 (nI d) 0) (fun K L => bV ((grp_X12_condition N (g + 2)).2.2.2 K L) (fun I2 L3 => (grp_X12_condition N (g + 1 + 1)).2.1 I2 L3)) := a1.wrap
  have w2 : RJ L s n T d true (r + 1) ((grp_X6_atom N (G + 3)).2.2.1 0 (nI d) 0) (fun K L => bV ((grp_X12_condition N (g + 1)).2.2.2 K L) (fun I2 L3 => (grp_X12_condition N (g + 1)).2.1 I2 L3)) := a2.wrap
  have o := or_ok (ca := (grp_X6_atom N (G + 3)).1) (cc := (grp_X6_atom N (G + 3)).2.1) (cp := (grp_X6_atom N (G + 3)).2.2.1) (cu := (grp_X6_atom N (G + 3)).2.2.2) (m1 := (grp_X12_condition N (g + 1)).1) (m2 := (grp_X12_condition N (g + 1)).2.1) (m3 := (grp_X12_condition N (g + 1)).2.2.1) (m4 := (grp_X12_condition N (g + 1)).2.2.2) hN w1 w2
  intro p m c I K j
  obtain ⟨x, J, K1, u1, u2, u3⟩ := o p m c I K j
  exact ⟨x, J, K1, u1, cond_fm u2, u3⟩
theorem unit_all (hN : 20000 ≤ N) : ∀ (e d G g : Nat), d + e = 6 → 10 * e + 6 ≤ G → 4 * e + 1 ≤ g → RJ L s n T d true (4 + 2 * e) ((grp_X6_atom N G).2.2.2 (nI d) 0) ((grp_X12_condition N g).2.2.2) := by
  intro e
  induction e with
  | zero =>
    intro d G g hd hG hg
    obtain ⟨G, rfl⟩ : ∃ q, G = q + 1 := ⟨G - 1, by omega⟩
    obtain ⟨g, rfl⟩ : ∃ q, g = q + 1 := ⟨g - 1, by omega⟩
    exact unit_ok (ca := (grp_X6_atom N G).1) (cc := (grp_X6_atom N G).2.1) (cp := (grp_X6_atom N G).2.2.1) (cu := (grp_X6_atom N G).2.2.2) (m1 := (grp_X12_condition N g).1) (m2 := (grp_X12_condition N g).2.1) (m3 := (grp_X12_condition N g).2.2.1) (m4 := (grp_X12_condition N g).2.2.2) hN (sum_at (e := 0) hN hd (by omega)) (fun q => by omega) (fun q => by omega) (Nat.le_refl _)
  | succ e ih =>
    intro d G g hd hG hg
    obtain ⟨G, rfl⟩ : ∃ q, G = q + 5 := ⟨G - 5, by omega⟩
    obtain ⟨g, rfl⟩ : ∃ q, g = q + 4 := ⟨g - 4, by omega⟩
    have hun : RJ L s n T (d + 1) true (4 + 2 * (e + 1)) ((grp_X6_atom N (G + 4)).2.2.2 (nI (d + 1)) 0) ((grp_X12_condition N (g + 3)).2.2.2) := (ih (d + 1) (G + 4) (g + 3) (by omega) (by omega) (by omega)).mono (by omega)
    have hco : RJ L s n T (d + 1) true (4 + 2 * e + 2) ((grp_X6_atom N (G + 4)).2.1 0 (nI (d + 1)) 0) ((grp_X12_condition N (g + 3)).1) := or_at hN (fun g' q => ih (d + 1) G g' (by omega) (by omega) (by omega))
    exact unit_ok (ca := (grp_X6_atom N (G + 4)).1) (cc := (grp_X6_atom N (G + 4)).2.1) (cp := (grp_X6_atom N (G + 4)).2.2.1) (cu := (grp_X6_atom N (G + 4)).2.2.2) (m1 := (grp_X12_condition N (g + 3)).1) (m2 := (grp_X12_condition N (g + 3)).2.1) (m3 := (grp_X12_condition N (g + 3)).2.2.1) (m4 := (grp_X12_condition N (g + 3)).2.2.2) hN (sum_at (e := e + 1) hN hd (by omega)) (fun _ => hun) (fun _ => hco.mono (by omega)) (by omega)
end LAWI
