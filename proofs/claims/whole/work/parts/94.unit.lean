section LAWH
variable {N s n : Nat} {T : Nat → Nat} {L : PL}
theorem cmp6 {x : Int32} {I : PI} : f_X6_compares N x I L = some (some (.int (if x = 61 then 1 else if x = 60 then 1 else if x = 62 then 1 else 0)), I, L) := by
  unfold f_X6_compares F_X6_compares_18
  rw [gd_k1, gd_k0]
  by_cases h : x = 61
  · rw [if_pos h, if_pos h]
  · rw [if_neg h, if_neg h]
    by_cases h2 : x = 60
    · rw [if_pos h2, if_pos h2]
    · rw [if_neg h2, if_neg h2]
      by_cases h3 : x = 62
      · rw [if_pos h3, if_pos h3]
      · rw [if_neg h3, if_neg h3]
theorem sig12 {x : Int32} {I : PI} : f_X12_isSign N x I L = some (some (.int (if x = 61 then 1 else if x = 60 then 1 else if x = 62 then 1 else 0)), I, L) := by
  unfold f_X12_isSign F_X12_isSign_18
  rw [gd_k1, gd_k0]
  by_cases h : x = 61
  · rw [if_pos h, if_pos h]
  · rw [if_neg h, if_neg h]
    by_cases h2 : x = 60
    · rw [if_pos h2, if_pos h2]
    · rw [if_neg h2, if_neg h2]
      by_cases h3 : x = 62
      · rw [if_pos h3, if_pos h3]
      · rw [if_neg h3, if_neg h3]
/-- a comparison after a sum that is read -/
theorem cmp_ok {d r p m c : Nat} {ca : Int32 → PI → PL → RES} {cc cp : Int32 → Int32 → Int32 → PI → PL → RES} {cu : Int32 → Int32 → PI → PL → RES} {I K : PI} (hN : 20000 ≤ N) (hsub : RJ L s n T d false r (cc 2 (nI d) 0) (f_X12_sum N)) (hm : m ≤ p) (hc : c ≤ p) (jw0 : JW false (r + 1) s n T p m c d I K) : ∃ (y : Int32) (J2 K2 : PI), F_X6_unit_111 N ca cc cp cu (nI d) I L = some (some (.int y), J2, L) ∧ f_X12_compare N K L = some (none, K2, L) ∧ OUT true (r + 1) s n T p m c d I K y J2 K2 := by
  obtain ⟨w, p1, hg, hp1, hwl, j, sC, s0, s1⟩ := jw0
  obtain ⟨I1, K1, e1, f1, j1, c1, m1'⟩ := j.next (N := N) (L := L) hN
  have hsk := skp_le (T := T) j.2.2.1
  obtain ⟨q, hq⟩ : ∃ q, q = skp T n p1 := ⟨_, rfl⟩
  rw [← hq] at e1 f1 j1 hsk
  have j1' := j1
  have hw4 := j.2.2.2.2.2.1
  obtain ⟨h1, h2, h3, h4, h5, h6, h7, h8, h9, h10, h11, h12, h13, h14⟩ := j1
  have hn := h1.1
  have kc := k10_LC (m := m) c1
  have km := k345_LM (s := s) (c := c) (d12_345 m1')
  have sC1 : seg (I1 17) eC m w := seg_cong w (fun j _ => c1 17 j (by unfold d10; omega)) sC
  have s01 : seg (K1 40) (fun t => nI t.1) (260 * s + c) w := seg_cong w (fun j _ => m1' 40 j (by unfold d12; omega)) s0
  have s11 : seg (K1 41) (fun t => nI t.2) (260 * s + c) w := seg_cong w (fun j _ => m1' 41 j (by unfold d12; omega)) s1
  unfold F_X6_unit_111 f_X12_compare
  rw [e1, bI_s, cmp6, bI_s, if_pos hw4, f1, bI_s]
  unfold F_X12_compare_16
  rw [sig12, bI_s]
  have go : ∀ (a kk : Nat) (x : Int32), x = nI a → chT (kk, 0) = a → 6 ≤ kk → kk ≤ 8 → q < n → ∀ f : PI → PL → RES, (∀ (I6 : PI) (L7 : PL), f I6 L7 = F_X12_compare_68 N (nI kk) I6 L7) → ∃ (y : Int32) (J K' : PI), bV (f_X10_step N I1 L) (fun I11 L12 => bI (cc 2 (nI d) 0 I11 L12) (fun x13 I14 L15 => (if x13 = 0 then gd (decide (0 &&& 1 = 0)) (some (some (.int 0), I14, L15)) else bV (f_X6_makeSign N x I14 L15) (fun I17 L18 => gd (decide (1 &&& 1 = 1)) (some (some (.int 1), I17, L18)))))) = some (some (.int y), J, L) ∧ nmW (uI K1 12 3 ((K1 12 3) + 1)) (fun I4 => bV (f_X12_sum N I4 L) (fun I6 L7 => f I6 L7)) = some (none, K', L) ∧ OUT true (r + 1) s n T p m c d I K y J K' := by
    intro a kk x hx hch hk1 hk2 hqn f hf
    obtain ⟨y, J3, K3, u1, u2, u3, u4, u5⟩ := hsub (q + 1) (m + w.length) (c + w.length) _ _ (j1'.step hqn)
    have kc3 : KLC m I J3 := (kc.tr (k10_LC (m := m + w.length) (Kp.rf.up ⟨rfl, rfl⟩)) (by omega)).tr u3 (by omega)
    have km3 : KLM s c K K3 := (km.tr (k345_LM (s := s) (c := c + w.length) (d12_345 (Kp.rf.up ⟨rfl, rfl⟩))) (by omega)).tr u4 (by omega)
    rw [step10 h1 hqn h4, bV_s, u1, bI_s, h5, nI_1, nmW_s, u2, bV_s, hf]
    unfold F_X12_compare_68
    rcases u5 with ⟨ex, jw⟩ | jx
    · subst ex
      have sC3 : seg (J3 17) eC m w := seg_cong w (fun j hj => (u3.2 j hj).trans (uI_ne (by omega))) sC1
      have s03 : seg (K3 40) (fun t => nI t.1) (260 * s + c) w := seg_cong w (fun j hj => ((u4.2.1 j (by omega)).1).trans (uI_ne (by omega))) s01
      have s13 : seg (K3 41) (fun t => nI t.2) (260 * s + c) w := seg_cong w (fun j hj => ((u4.2.1 j (by omega)).2).trans (uI_ne (by omega))) s11
      obtain ⟨J4, K4, p4, u, v1, v2, v3, v4, v5, v6, v7, v8, v9, v10, v11⟩ := JW.join (N := N) (L := L) (lg := true) (k := kk) (x := x) (p0 := p) (p1 := q) (by omega) (by omega) jw hm hc (by omega) sC3 s03 s13 (fun u hu => by
        have := Gd_op (r := r + 1) hg hu (by omega) (by omega) hk2
        rw [show decide (6 ≤ kk) = true from decide_eq_true hk1] at this
        exact this) (by rw [hx, hch])
      rw [if_neg ne_10, v1, bV_s, gd_k1, v2, bV_s]
      exact ⟨1, J4, K4, rfl, rfl, kc3.tr v10 (by omega), km3.tr v11 (by omega), Or.inl ⟨rfl, u, p4, v5, by omega, v4, v6, v7, v8, v9⟩⟩
    · obtain ⟨J4, K4, v1, v2, v3, v4, v5, v6, v7⟩ := JX.put (N := N) (L := L) (p0 := p) (m0 := m) (c0 := c) (e := x) (a := nI kk) (b := 0) h14 jx (by omega) ⟨hm, hc⟩ (by omega) (by omega)
      rw [v1, bV_s]
      by_cases hy : y = 0
      · rw [if_pos hy, gd_k0]
        exact ⟨0, J3, K4, rfl, rfl, kc3, km3.tr v4 (by omega), Or.inr v5⟩
      · rw [if_neg hy, v2, bV_s, gd_k1]
        exact ⟨1, J4, K4, rfl, rfl, kc3.tr v3 (by omega), km3.tr v4 (by omega), Or.inr (v6 hy)⟩
  cases hA : isCh T n q 61 with
  | true =>
    have ec := chC_y (x := 61) (a := 61) h1 hA rfl (by omega) (by omega)
    have em := chM_y (x := 61) (a := 61) h2 hA rfl (by omega)
    rw [ec, em, if_pos rfl, if_neg ne_10, if_neg ne_10]
    exact go 61 6 61 rfl rfl (by omega) (by omega) (isCh_n hA) _ (fun I6 L7 => by rw [if_pos rfl]; rfl)
  | false =>
    cases hB : isCh T n q 60 with
    | true =>
      have ec := chC_y (x := 60) (a := 60) h1 hB rfl (by omega) (by omega)
      have em := chM_y (x := 60) (a := 60) h2 hB rfl (by omega)
      rw [ec, em, if_neg (show ¬ (60 : Int32) = 61 by decide), if_pos rfl, if_neg ne_10, if_neg ne_10]
      exact go 60 7 60 rfl rfl (by omega) (by omega) (isCh_n hB) _ (fun I6 L7 => by rw [if_neg (show ¬ (60 : Int32) = 61 by decide), if_pos rfl]; rfl)
    | false =>
      cases hC : isCh T n q 62 with
      | true =>
        have ec := chC_y (x := 62) (a := 62) h1 hC rfl (by omega) (by omega)
        have em := chM_y (x := 62) (a := 62) h2 hC rfl (by omega)
        rw [ec, em, if_neg (show ¬ (62 : Int32) = 61 by decide), if_neg (show ¬ (62 : Int32) = 60 by decide), if_pos rfl, if_neg ne_10, if_neg ne_10]
        exact go 62 8 62 rfl rfl (by omega) (by omega) (isCh_n hC) _ (fun I6 L7 => by rw [if_neg (show ¬ (62 : Int32) = 61 by decide), if_neg (show ¬ (62 : Int32) = 60 by decide)]; rfl)
      | false =>
        rw [if_neg (chC_n (x := 61) (a := 61) h1 hA rfl (by omega) (by omega)), if_neg (chC_n (x := 60) (a := 60) h1 hB rfl (by omega) (by omega)), if_neg (chC_n (x := 62) (a := 62) h1 hC rfl (by omega) (by omega)), if_pos rfl, gd_k0, if_neg (chM_n (x := 61) (a := 61) h2 hA rfl (by omega)), if_neg (chM_n (x := 60) (a := 60) h2 hB rfl (by omega)), if_neg (chM_n (x := 62) (a := 62) h2 hC rfl (by omega)), if_pos rfl, bad12 h5 h6, bV_s]
        exact ⟨0, I1, _, rfl, rfl, kc, km.tr (k345_LM (s := s) (c := c) (Kp.rf.up (by unfold d345; omega))) (Nat.le_refl _), Or.inr (j1'.bad.of (by omega) (by omega) (by omega))⟩
theorem unit_ok {d r R : Nat} {ca : Int32 → PI → PL → RES} {cc cp : Int32 → Int32 → Int32 → PI → PL → RES} {cu : Int32 → Int32 → PI → PL → RES} {m1 m2 m3 m4 : PI → PL → RES} (hN : 20000 ≤ N) (hsub : RJ L s n T d false r (cc 2 (nI d) 0) (f_X12_sum N)) (hun : d < 6 → RJ L s n T (d + 1) true R (cu (nI (d + 1)) 0) m4) (hco : d < 6 → RJ L s n T (d + 1) true R (cc 0 (nI (d + 1)) 0) m1) (hR : r + 1 ≤ R) : RJ L s n T d true R (fo_X6_unit N ca cc cp cu (nI d) 0) (fo_X12_unit N m1 m2 m3 m4) := by
  intro p m c I K j
  obtain ⟨I1, K1, e1, f1, j1, c1, m1'⟩ := j.next (N := N) (L := L) hN
  have hsk := skp_le (T := T) j.2.2.1
  obtain ⟨q, hq⟩ : ∃ q, q = skp T n p := ⟨_, rfl⟩
  rw [← hq] at e1 f1 j1 hsk
  have j1' := j1
  have hmp : m ≤ p := j.2.2.2.2.2.2.2.2.2.2.1
  have hcp : c ≤ p := j.2.2.2.2.2.2.2.2.2.2.2.1
  obtain ⟨h1, h2, h3, h4, h5, h6, h7, h8, h9, h10, h11, h12, h13, h14⟩ := j1
  have hn := h1.1
  have kc := k10_LC (m := m) c1
  have km := k345_LM (s := s) (c := c) (d12_345 m1')
  unfold fo_X6_unit fo_X12_unit
  rw [e1, bI_s, if_pos rfl, f1, bI_s]
  cases hA : isCh T n q 33 with
  | true =>
    have hqn := isCh_n hA
    rw [if_pos (chC_y (x := 33) (a := 33) h1 hA rfl (by omega) (by omega)), if_pos (chM_y (x := 33) (a := 33) h2 hA rfl (by omega))]
    rcases deeper_ok (N := N) (L := L) h14 j1' hqn with ⟨hd, J, K2, g1, g2, g3, g4, g5⟩ | ⟨hd, K2, g1, g2, g3, g4, g5⟩
    · obtain ⟨y, J3, K3, u1, u2, u3, u4, u5⟩ := hun hd (q + 1) m c J K2 g3
      have kc3 : KLC m I J3 := (kc.tr (k10_LC (m := m) g4) (Nat.le_refl _)).tr u3 (Nat.le_refl _)
      have km3 : KLM s c K K3 := (km.tr (k345_LM (s := s) (c := c) g5) (Nat.le_refl _)).tr u4 (Nat.le_refl _)
      rw [g1, bI_s, if_neg ne_10, nI_1, u1, bI_s, g2, bV_s, if_pos g3.2.2.2.2.2.1, u2, bV_s]
      rcases u5 with ⟨ex, w, p', x1, x2, x3, x4, x5, x6, x7⟩ | jx
      · subst ex
        have x4' := x4
        obtain ⟨i1, i2, i3, i4, i5, i6, i7, i8, i9, i10, i11, i12, i13, i14⟩ := x4
        have kC := makeK (m := m + w.length) (a := -33) (I := J3)
        have kM := putK (s := s) (c := c + w.length) (a := nI 9) (b := 0) (K := K3)
        have kD : Kp d345 (uI (uI (uI K3 40 (260 * s + (c + w.length)) (nI 9)) 41 (260 * s + (c + w.length)) 0) 42 s (nI (c + w.length + 1))) (uI (uI (uI (uI K3 40 (260 * s + (c + w.length)) (nI 9)) 41 (260 * s + (c + w.length)) 0) 42 s (nI (c + w.length + 1))) 12 5 (nI d)) := Kp.rf.up (by unfold d345; omega)
        have el : (w ++ [(9, 0)]).length = w.length + 1 := by rw [List.length_append]; rfl
        rw [if_neg ne_10, makeSign_s i7 (by omega), bV_s, gd_k1, show (9 : Int32) = nI 9 from rfl, putM_s i14 i8 i9 (by omega), bV_s, show (uI (uI (uI K3 40 (260 * s + (c + w.length)) (nI 9)) 41 (260 * s + (c + w.length)) 0) 42 s (nI (c + w.length + 1))) 12 5 = nI (d + 1) by rw [uI_ne (by omega), uI_ne (by omega), uI_ne (by omega), i10], nsub1 (by omega), Nat.add_sub_cancel, nmW_s]
        refine ⟨1, _, _, rfl, rfl, kc3.tr kC (by omega), (km3.tr kM (by omega)).tr (k345_LM (s := s) (c := c) kD) (Nat.le_refl _), Or.inl ⟨rfl, w ++ [(9, 0)], p', Gd_not x1, by omega, by omega, ?_, ?_, ?_, ?_⟩⟩
        · rw [el]
          obtain ⟨t1, t2, t3, t4, t5, t6, t7, t8, t9, t10, t11, t12, t13, t14⟩ := x4'.write (a := nI 9) (b := 0) (e := -33) (by omega) (by omega)
          exact ⟨t1, t2.cong (fun a k q => uI_ne (by unfold dT at q; omega)), t3, t4, (uI_ne (by omega)).trans t5, (uI_ne (by omega)).trans t6, t7, (uI_ne (by omega)).trans t8, (uI_ne (by omega)).trans t9, uI_eq, t11, t12, by omega, t14⟩
        · refine seg_app w (seg_cong w (fun j hj => kC.2 j hj) x5) (seg_one ?_)
          rw [uI_ne (by omega), uI_eq]
          rfl
        · refine seg_app w (seg_cong w (fun j hj => (kD 40 j (by unfold d345; omega)).trans (kM.2.1 j (by omega)).1) x6) (seg_one ?_)
          rw [uI_ne (by omega), uI_ne (by omega), uI_ne (by omega), show 260 * s + c + w.length = 260 * s + (c + w.length) by omega, uI_eq]
        · refine seg_app w (seg_cong w (fun j hj => (kD 41 j (by unfold d345; omega)).trans (kM.2.1 j (by omega)).2) x7) (seg_one ?_)
          rw [uI_ne (by omega), uI_ne (by omega), show 260 * s + c + w.length = 260 * s + (c + w.length) by omega, uI_eq]
          rfl
      · obtain ⟨J4, K4, v1, v2, v3, v4, v5, v6, v7⟩ := JX.put (N := N) (L := L) (p0 := p) (m0 := m) (c0 := c) (e := 33) (a := 9) (b := 0) h14 jx (by omega) ⟨hmp, hcp⟩ (by omega) (by omega)
        rw [v1, bV_s, nmW_s]
        have kE : Kp d35 K4 (uI K4 12 5 ((K4 12 5) - 1)) := Kp.rf.up (by unfold d35; omega)
        have kmE := (km3.tr v4 (by omega)).tr (k345_LM (s := s) (c := c) (d35_345 kE)) (Nat.le_refl _)
        by_cases hy : y = 0
        · rw [if_pos hy, gd_k0]
          exact ⟨0, J3, _, rfl, rfl, kc3, kmE, Or.inr (v5.km h14 kE)⟩
        · rw [if_neg hy, v2, bV_s, gd_k1]
          exact ⟨1, J4, _, rfl, rfl, kc3.tr v3 (by omega), kmE, Or.inr ((v6 hy).km h14 kE)⟩
    · rw [g1, bI_s, if_pos rfl, gd_k0, g2, bV_s, if_neg g3]
      exact ⟨0, I1, K2, rfl, rfl, kc, km.tr (k345_LM (s := s) (c := c) g5) (Nat.le_refl _), Or.inr (g4.of (by omega) (by omega) (by omega))⟩
  | false =>
    rw [if_neg (chC_n (x := 33) (a := 33) h1 hA rfl (by omega) (by omega)), if_neg (chM_n (x := 33) (a := 33) h2 hA rfl (by omega))]
    unfold F_X6_unit_47
    rw [if_pos rfl]
    cases hB : isCh T n q 40 with
    | true =>
      have hqn := isCh_n hB
      rw [if_pos (chC_y (x := 40) (a := 40) h1 hB rfl (by omega) (by omega)), if_pos (chM_y (x := 40) (a := 40) h2 hB rfl (by omega))]
      rcases deeper_ok (N := N) (L := L) h14 j1' hqn with ⟨hd, J, K2, g1, g2, g3, g4, g5⟩ | ⟨hd, K2, g1, g2, g3, g4, g5⟩
      · obtain ⟨x, J3, K3, u1, u2, u3⟩ := hco hd (q + 1) m c J K2 g3
        obtain ⟨x4, J4, K4, v1, v2, v3, v4⟩ := close_ok (N := N) (L := L) (a := 41) (y := 41) hN h14 hd rfl (by omega) (by omega) (by omega) u3
        rw [g1, bI_s, if_neg ne_10, nI_1, u1, bI_s, v1, g2, bV_s, if_pos g3.2.2.2.2.2.1, u2, bV_s, v2, bV_s]
        exact ⟨x4, J4, K4, rfl, rfl, v4.of (kc.tr (k10_LC (m := m) g4) (Nat.le_refl _)) (km.tr (k345_LM (s := s) (c := c) g5) (Nat.le_refl _)) (by omega) (Nat.le_refl _)⟩
      · rw [g1, bI_s, if_pos rfl, gd_k0, g2, bV_s, if_neg g3]
        exact ⟨0, I1, K2, rfl, rfl, kc, km.tr (k345_LM (s := s) (c := c) g5) (Nat.le_refl _), Or.inr (g4.of (by omega) (by omega) (by omega))⟩
    | false =>
      rw [if_neg (chC_n (x := 40) (a := 40) h1 hB rfl (by omega) (by omega)), if_neg (chM_n (x := 40) (a := 40) h2 hB rfl (by omega))]
      unfold F_X6_unit_95
      rw [if_pos rfl]
      obtain ⟨x, J3, K3, u1, u2, u3, u4, u5⟩ := hsub q m c I1 K1 j1'
      rw [u1, bI_s, u2, bV_s]
      have kc3 := kc.tr u3 (Nat.le_refl _)
      have km3 := km.tr u4 (Nat.le_refl _)
      rcases u5 with ⟨ex, jw⟩ | jx
      · subst ex
        have hw4 : K3 12 4 = -1 := by
          obtain ⟨w, p', x1, x2, x3, x4, x5⟩ := jw
          exact x4.2.2.2.2.2.1
        obtain ⟨y, J4, K4, v1, v2, v3⟩ := cmp_ok (N := N) (L := L) (ca := ca) (cc := cc) (cp := cp) (cu := cu) hN hsub h11 h12 (jw.of (Nat.le_refl _) (show r ≤ r + 1 by omega))
        rw [if_neg ne_10, v1, if_pos hw4, v2, bV_s]
        exact ⟨y, J4, K4, rfl, rfl, v3.of kc3 km3 (by omega) hR⟩
      · rw [if_neg jx.ne]
        by_cases hx : x = 0
        · rw [if_pos hx, gd_k0]
          exact ⟨0, J3, K3, rfl, rfl, kc3, km3, Or.inr (jx.z.of (by omega) (by omega) (by omega))⟩
        · obtain ⟨J5, q5, g1, g2, g3, g4, -, g5⟩ := jx.nx (N := N) (L := L) hN hx
          unfold F_X6_unit_111
          rw [if_neg hx, g1, bI_s, cmp6, bI_s, if_neg (chC_n (x := 61) (a := 61) g5 (isDg_ch g2 (by omega)) rfl (by omega) (by omega)), if_neg (chC_n (x := 60) (a := 60) g5 (isDg_ch g2 (by omega)) rfl (by omega) (by omega)), if_neg (chC_n (x := 62) (a := 62) g5 (isDg_ch g2 (by omega)) rfl (by omega) (by omega)), if_pos rfl, gd_k0]
          exact ⟨0, J5, K3, rfl, rfl, kc3.tr (k10_LC (m := m) g3) (Nat.le_refl _), km3, Or.inr (g4.z.of (by omega) (by omega) (by omega))⟩
end LAWH
