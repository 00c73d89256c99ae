section LAWC
variable {N s n : Nat} {T : Nat → Nat} {L : PL}
theorem opens_d {K K' : PI} (h : Kp d345 K K') : Kp dLM K K' := d345_LM h
theorem atom_ok {d r r' : Nat} {ca : Int32 → PI → PL → RES} {cc cp : Int32 → Int32 → Int32 → PI → PL → RES} {cu : Int32 → Int32 → PI → PL → RES} {ma ms mt : PI → PL → RES} (hN : 20000 ≤ N) (hsub : d < 6 → r' ≤ r ∧ RJ L s n T (d + 1) false r' (cc 2 (nI (d + 1)) 0) ms) (hr : 1 ≤ r) : RJ L s n T d false r (fo_X6_atom N ca cc cp cu (nI d)) (fo_X12_atom N ma ms mt) := by
  intro p m c I K j
  obtain ⟨I1, K1, e1, f1, j1, c1, m1⟩ := j.next (N := N) (L := L) hN
  have hsk := skp_le (T := T) j.2.2.1
  obtain ⟨q, hq⟩ : ∃ q, q = skp T n p := ⟨_, rfl⟩
  rw [← hq] at e1 f1 j1 hsk
  have j1' := j1
  obtain ⟨h1, h2, h3, h4, h5, h6, h7, h8, h9, h10, h11, h12, h13, h14⟩ := j1
  have kc := k10_LC (m := m) c1
  have km := k345_LM (s := s) (c := c) (d12_345 m1)
  unfold fo_X6_atom fo_X12_atom
  rw [e1, bI_s, f1, bI_s, dg12 h2, bI_s]
  cases hdg : isDg T n q with
  | true =>
    rw [if_neg (chC_n (x := 91) (a := 91) h1 (isDg_ch hdg (by omega)) rfl (by omega) (by omega)), if_neg (chC_n (x := 107) (a := 107) h1 (isDg_ch hdg (by omega)) rfl (by omega) (by omega)), if_neg (chC_n (x := 110) (a := 110) h1 (isDg_ch hdg (by omega)) rfl (by omega) (by omega)), if_neg (chC_n (x := 97) (a := 97) h1 (isDg_ch hdg (by omega)) rfl (by omega) (by omega)), if_neg (chC_n (x := 98) (a := 98) h1 (isDg_ch hdg (by omega)) rfl (by omega) (by omega)), ifz_t rfl]
    obtain ⟨x, J, K', v, K2, g1, g2, g3, g4, g5⟩ := number_ok (N := N) (L := L) hN j1' hdg hr
    rw [g1, bI_s, gd01 g4, g2, bI_s, g3, bV_s]
    exact ⟨x, J, K', rfl, rfl, g5.of kc km (by omega) (Nat.le_refl _)⟩
  | false =>
    rw [ifz_f rfl, letter_s h2, bI_s]
    have hlet : ∀ (a v : Nat) (x : Int32), x = nI a → isCh T n q a = true → v < 4 → chT (1, v) = a → (cpM T n q = x → f_X12_letterOf N (cpM T n q) (uI K1 12 3 (nI (q + 1))) L = some (some (.int (nI v)), uI K1 12 3 (nI (q + 1)), L)) → 1 ≤ a → a < 2 ^ 31 → ∃ (J K' : PI), F_X6_atom_76 N ca cc cp cu (cpC T n q) I1 L = some (some (.int 1), J, L) ∧ (nmW (uI K1 12 3 ((K1 12 3) + 1)) (fun I22 => bI (f_X12_letterOf N (cpM T n q) I22 L) (fun x23 I24 L25 => bV (f_X12_put N 1 x23 I24 L25) (fun I27 L28 => some (none, I27, L28))))) = some (none, K', L) ∧ OUT false r s n T p m c d I K 1 J K' := by
      intro a v x hx hc hv hch hle ha ha2
      have hqn := isCh_n hc
      unfold F_X6_atom_76
      have hn := h1.1
      rw [step10 h1 hqn h4, bV_s, makeSign_s (m := m) (by rw [uI_ne (by omega)]; exact h7) (by omega), bV_s, gd_k1, h5, nI_1, nmW_s, hle (chM_y h2 hc hx ha2), bI_s, putM_s (s := s) (c := c) h14 (by rw [uI_ne (by omega)]; exact h8) (by rw [uI_ne (by omega)]; exact h9) (by omega), bV_s]
      refine ⟨_, _, rfl, rfl, ?_⟩
      have hw := write_J (k := 1) (v := v) (r := r) j1' hqn ((Gd_let hv).mono hr)
      rw [show eC (1, v) = -(cpC T n q) by rw [chC_y h1 hc hx ha ha2, hx, ← hch]; rfl] at hw
      exact ⟨(kc.tr (k10_LC (m := m) (Kp.rf.up ⟨rfl, rfl⟩)) (Nat.le_refl _)).tr makeK (Nat.le_refl _), (km.tr (k345_LM (s := s) (c := c) (d12_345 (Kp.rf.up ⟨rfl, rfl⟩))) (Nat.le_refl _)).tr putK (Nat.le_refl _), Or.inl ⟨rfl, hw.of (by omega) (Nat.le_refl _)⟩⟩
    have hls : ∀ K2 : PI, f_X12_letterOf N (cpM T n q) K2 L = _ := fun K2 => letter_s (K := K2) h2
    cases hk : isCh T n q 107 with
    | true =>
      rw [if_neg (chC_n (x := 91) (a := 91) h1 (isCh_u hk (by omega)) rfl (by omega) (by omega)), if_pos (chC_y (x := 107) (a := 107) h1 hk rfl (by omega) (by omega)), if_pos rfl, if_neg (show ¬ (0 : Int32) = -1 by decide)]
      obtain ⟨J, K', g1, g2, g3⟩ := hlet 107 0 107 rfl hk (by omega) rfl (fun _ => by rw [hls, hk, if_pos rfl]; rfl) (by omega) (by omega)
      exact ⟨1, J, K', g1, g2, g3⟩
    | false =>
    rw [if_neg (show ¬ (false = true) by decide)]
    cases hnn : isCh T n q 110 with
    | true =>
      rw [if_neg (chC_n (x := 91) (a := 91) h1 (isCh_u hnn (by omega)) rfl (by omega) (by omega)), if_neg (chC_n (x := 107) (a := 107) h1 hk rfl (by omega) (by omega)), if_pos (chC_y (x := 110) (a := 110) h1 hnn rfl (by omega) (by omega)), if_pos rfl, if_neg (show ¬ (1 : Int32) = -1 by decide)]
      obtain ⟨J, K', g1, g2, g3⟩ := hlet 110 1 110 rfl hnn (by omega) rfl (fun _ => by rw [hls, hk, hnn, if_neg (show ¬ (false = true) by decide), if_pos rfl]; rfl) (by omega) (by omega)
      exact ⟨1, J, K', g1, g2, g3⟩
    | false =>
    rw [if_neg (show ¬ (false = true) by decide)]
    cases ha : isCh T n q 97 with
    | true =>
      rw [if_neg (chC_n (x := 91) (a := 91) h1 (isCh_u ha (by omega)) rfl (by omega) (by omega)), if_neg (chC_n (x := 107) (a := 107) h1 hk rfl (by omega) (by omega)), if_neg (chC_n (x := 110) (a := 110) h1 hnn rfl (by omega) (by omega)), if_pos (chC_y (x := 97) (a := 97) h1 ha rfl (by omega) (by omega)), if_pos rfl, if_neg (show ¬ (2 : Int32) = -1 by decide)]
      obtain ⟨J, K', g1, g2, g3⟩ := hlet 97 2 97 rfl ha (by omega) rfl (fun _ => by rw [hls, hk, hnn, ha, if_neg (show ¬ (false = true) by decide), if_neg (show ¬ (false = true) by decide), if_pos rfl]; rfl) (by omega) (by omega)
      exact ⟨1, J, K', g1, g2, g3⟩
    | false =>
    rw [if_neg (show ¬ (false = true) by decide)]
    cases hb : isCh T n q 98 with
    | true =>
      rw [if_neg (chC_n (x := 91) (a := 91) h1 (isCh_u hb (by omega)) rfl (by omega) (by omega)), if_neg (chC_n (x := 107) (a := 107) h1 hk rfl (by omega) (by omega)), if_neg (chC_n (x := 110) (a := 110) h1 hnn rfl (by omega) (by omega)), if_neg (chC_n (x := 97) (a := 97) h1 ha rfl (by omega) (by omega)), if_pos (chC_y (x := 98) (a := 98) h1 hb rfl (by omega) (by omega)), if_pos rfl, if_neg (show ¬ (3 : Int32) = -1 by decide)]
      obtain ⟨J, K', g1, g2, g3⟩ := hlet 98 3 98 rfl hb (by omega) rfl (fun _ => by rw [hls, hk, hnn, ha, hb, if_neg (show ¬ (false = true) by decide), if_neg (show ¬ (false = true) by decide), if_neg (show ¬ (false = true) by decide), if_pos rfl]; rfl) (by omega) (by omega)
      exact ⟨1, J, K', g1, g2, g3⟩
    | false =>
    rw [if_neg (show ¬ (false = true) by decide), if_pos rfl]
    cases hbr : isCh T n q 91 with
    | true =>
      have hqn := isCh_n hbr
      rw [if_pos (chC_y (x := 91) (a := 91) h1 hbr rfl (by omega) (by omega)), if_pos (chM_y (x := 91) (a := 91) h2 hbr rfl (by omega))]
      rcases deeper_ok (N := N) (L := L) h14 j1' hqn with ⟨hd, J, K2, g1, g2, g3, g4, g5⟩ | ⟨hd, K2, g1, g2, g3, g4, g5⟩
      · obtain ⟨hrr, hs⟩ := hsub hd
        obtain ⟨x, J3, K3, u1, u2, u3⟩ := hs (q + 1) m c J K2 g3
        obtain ⟨x4, J4, K4, v1, v2, v3, v4⟩ := close_ok (N := N) (L := L) (a := 93) (y := 93) hN h14 hd rfl (by omega) (by omega) (by omega) u3
        rw [g1, bI_s, if_neg ne_10, nI_1, u1, bI_s, v1, g2, bV_s, if_pos g3.2.2.2.2.2.1, u2, bV_s, v2, bV_s]
        exact ⟨x4, J4, K4, rfl, rfl, v4.of (kc.tr (k10_LC (m := m) g4) (Nat.le_refl _)) (km.tr (k345_LM (s := s) (c := c) g5) (Nat.le_refl _)) (by omega) hrr⟩
      · rw [g1, bI_s, if_pos rfl, gd_k0, g2, bV_s, if_neg g3]
        exact ⟨0, I1, K2, rfl, rfl, kc, km.tr (k345_LM (s := s) (c := c) g5) (Nat.le_refl _), Or.inr (g4.of (by omega) (by omega) (by omega))⟩
    | false =>
      rw [if_neg (chC_n (x := 91) (a := 91) h1 hbr rfl (by omega) (by omega)), if_neg (chC_n (x := 107) (a := 107) h1 hk rfl (by omega) (by omega)), if_neg (chC_n (x := 110) (a := 110) h1 hnn rfl (by omega) (by omega)), if_neg (chC_n (x := 97) (a := 97) h1 ha rfl (by omega) (by omega)), if_neg (chC_n (x := 98) (a := 98) h1 hb rfl (by omega) (by omega)), if_neg (chM_n (x := 91) (a := 91) h2 hbr rfl (by omega)), bad12 h5 h6, bV_s]
      obtain ⟨M, rfl⟩ : ∃ M, N = M + 1 := ⟨N - 1, by omega⟩
      unfold f_X6_number
      rw [F_X6_number_4, if_neg (show ¬ (4 : Int32) ≤ 0 by decide), dg10 h1 h3 h4, bI_s, hdg, if_neg (show ¬ (false = true) by decide), if_pos rfl]
      unfold F_X6_number_46
      rw [if_pos rfl, gd_k0, bI_s, gd01 (Or.inl rfl)]
      exact ⟨0, I1, _, rfl, rfl, kc, km.tr (k345_LM (s := s) (c := c) (Kp.rf.up (by unfold d345; omega))) (Nat.le_refl _), Or.inr (j1'.bad.of (by omega) (by omega) (by omega))⟩
end LAWC
