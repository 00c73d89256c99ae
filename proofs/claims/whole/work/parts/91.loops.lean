section LAWE
variable {N s n : Nat} {T : Nat → Nat} {L : PL}
theorem termChLp {d r : Nat} {ca : Int32 → PI → PL → RES} {cc cp : Int32 → Int32 → Int32 → PI → PL → RES} {cu : Int32 → Int32 → PI → PL → RES} {m1 m2 m3 : PI → PL → RES} (hN : 20000 ≤ N) (hsub : RJ L s n T d false r (cp 3 (nI d) 0) m1) : ∀ (t k l i p m c p0 : Nat) (w : List (Nat × Nat)) (I K : PI), p + t = n → t < k → t < l → i < p → JS s n T p (m + w.length) (c + w.length) d I K → Gd false (r + 1) w → p0 < p → w.length + p0 ≤ p → m ≤ p0 → c ≤ p0 → seg (I 17) eC m w → seg (K 40) (fun t => nI t.1) (260 * s + c) w → seg (K 41) (fun t => nI t.2) (260 * s + c) w → ∃ (x : Int32) (J K' : PI), F_X6_chain_15 N ca cc cp cu k 3 (nI d) (nI i) I L = some (some (.int x), J, L) ∧ bI (f_X12_look N K L) (fun x14 I15 L16 => F_X12_term_21 N m1 m2 m3 l x14 I15 L16) = some (none, K', L) ∧ OUT false (r + 1) s n T p0 m c d I K x J K' := by
  intro t
  induction t using Nat.strongRecOn with
  | ind t ih =>
    intro k l i p m c p0 w I K hi hk hl hip j hg hp0 hwl hm hc sC s0 s1
    obtain ⟨k, rfl⟩ : ∃ q, k = q + 1 := ⟨k - 1, by omega⟩
    obtain ⟨l, rfl⟩ : ∃ q, l = q + 1 := ⟨l - 1, by omega⟩
    obtain ⟨I1, K1, e1, f1, j1, c1, m1'⟩ := j.next (N := N) (L := L) hN
    have hsk := skp_le (T := T) j.2.2.1
    obtain ⟨q, hq⟩ : ∃ q, q = skp T n p := ⟨_, rfl⟩
    rw [← hq] at e1 f1 j1 hsk
    have j1' := j1
    obtain ⟨h1, h2, h3, h4, h5, h6, h7, h8, h9, h10, h11, h12, h13, h14⟩ := j1
    have hn := h1.1
    have kc := k10_LC (m := m) c1
    have km := k345_LM (s := s) (c := c) (d12_345 m1')
    have sC1 : seg (I1 17) eC m w := seg_cong w (fun j _ => c1 17 j (by unfold d10; omega)) sC
    have s01 : seg (K1 40) (fun t => nI t.1) (260 * s + c) w := seg_cong w (fun j _ => m1' 40 j (by unfold d12; omega)) s0
    have s11 : seg (K1 41) (fun t => nI t.2) (260 * s + c) w := seg_cong w (fun j _ => m1' 41 j (by unfold d12; omega)) s1
    -- one more part
    have go : ∀ (a kk : Nat) (x : Int32), x = nI a → chT (kk, 0) = a → 2 ≤ kk → kk ≤ 5 → q < n → ∃ (y : Int32) (J K' : PI), bV (f_X10_step N I1 L) (fun I11 L12 => bI (cp 3 (nI d) 0 I11 L12) (fun x13 I14 L15 => (if x13 = 0 then gd (decide (0 &&& 1 = 0)) (some (some (.int 0), I14, L15)) else bV (f_X6_makeSign N x I14 L15) (fun I17 L18 => (F_X6_chain_15 N ca cc cp cu k) 3 (nI d) (nI i + 1) I17 L18)))) = some (some (.int y), J, L) ∧ nmW (uI K1 12 3 ((K1 12 3) + 1)) (fun I4 => bV (m1 I4 L) (fun I6 L7 => F_X12_term_59 N m1 m2 m3 (F_X12_term_21 N m1 m2 m3 l) (nI kk) I6 L7)) = some (none, K', L) ∧ OUT false (r + 1) s n T p0 m c d I K y J K' := by
      intro a kk x hx hch hk1 hk2 hqn
      obtain ⟨y, J3, K3, u1, u2, u3, u4, u5⟩ := hsub (q + 1) (m + w.length) (c + w.length) _ _ (j1'.step hqn)
      have kc3 : KLC m I J3 := (kc.tr (k10_LC (m := m + w.length) (Kp.rf.up ⟨rfl, rfl⟩)) (by omega)).tr u3 (by omega)
      have km3 : KLM s c K K3 := (km.tr (k345_LM (s := s) (c := c + w.length) (d12_345 (Kp.rf.up ⟨rfl, rfl⟩))) (by omega)).tr u4 (by omega)
      rw [step10 h1 hqn h4, bV_s, u1, bI_s, h5, nI_1, nI_1, nmW_s, u2, bV_s]
      unfold F_X12_term_59
      rcases u5 with ⟨ex, jw⟩ | jx
      · subst ex
        have sC3 : seg (J3 17) eC m w := seg_cong w (fun j hj => (u3.2 j hj).trans (uI_ne (by omega))) sC1
        have s03 : seg (K3 40) (fun t => nI t.1) (260 * s + c) w := seg_cong w (fun j hj => ((u4.2.1 j (by omega)).1).trans (uI_ne (by omega))) s01
        have s13 : seg (K3 41) (fun t => nI t.2) (260 * s + c) w := seg_cong w (fun j hj => ((u4.2.1 j (by omega)).2).trans (uI_ne (by omega))) s11
        obtain ⟨J4, K4, p4, u, v1, v2, v3, v4, v5, v6, v7, v8, v9, v10, v11⟩ := JW.join (N := N) (L := L) (lg := false) (k := kk) (x := x) (p0 := p0) (p1 := q) (by omega) (by omega) jw hm hc hk1 sC3 s03 s13 (fun u hu => by
          have := Gd_op (r := r + 1) hg hu (by omega) hk1 (by omega)
          rw [show decide (6 ≤ kk) = false from decide_eq_false (by omega)] at this
          exact this) (by rw [hx, hch])
        rw [if_neg ne_10, v1, bV_s, v2, bV_s, if_pos v6.2.2.2.2.2.1]
        have hp4 := v6.2.2.1
        obtain ⟨y, J5, K5, g1, g2, g3⟩ := ih (n - p4) (by omega) k l (i + 1) p4 m c p0 u J4 K4 (by omega) (by omega) (by omega) (by omega) v6 v5 (by omega) v4 hm hc v7 v8 v9
        exact ⟨y, J5, K5, g1, g2, g3.of (kc3.tr v10 (by omega)) (km3.tr v11 (by omega)) (Nat.le_refl _) (Nat.le_refl _)⟩
      · obtain ⟨J4, K4, v1, v2, v3, v4, v5, v6, v7⟩ := JX.put (N := N) (L := L) (p0 := p0) (m0 := m) (c0 := c) (e := x) (a := nI kk) (b := 0) h14 jx (by omega) ⟨hm, hc⟩ (by omega) (by omega)
        obtain ⟨l, rfl⟩ : ∃ q, l = q + 1 := ⟨l - 1, by omega⟩
        rw [v1, bV_s, if_neg v7, F_X12_term_21, if_neg (show ¬ (-1 : Int32) = 42 by decide), if_neg (show ¬ (-1 : Int32) = 47 by decide)]
        by_cases hy : y = 0
        · rw [if_pos hy, gd_k0]
          exact ⟨0, J3, K4, rfl, rfl, kc3, km3.tr v4 (by omega), Or.inr v5⟩
        · obtain ⟨k, rfl⟩ : ∃ q, k = q + 1 := ⟨k - 1, by omega⟩
          obtain ⟨J5, q5, g1, g2, g3, g4, -, g5⟩ := (v6 hy).nx (N := N) (L := L) hN (by decide)
          rw [if_neg hy, v2, bV_s, F_X6_chain_15, show (120 : Int32) = nI 120 from rfl, if_neg (nI_ge (by omega) (by omega)), g1, bI_s, joins3, if_neg (chC_n (x := 42) (a := 42) g5 (isDg_ch g2 (by omega)) rfl (by omega) (by omega)), if_neg (chC_n (x := 47) (a := 47) g5 (isDg_ch g2 (by omega)) rfl (by omega) (by omega)), bI_s, if_pos rfl, gd_k1]
          exact ⟨1, J5, K4, rfl, rfl, (kc3.tr v3 (by omega)).tr (k10_LC (m := m) g3) (by omega), km3.tr v4 (by omega), Or.inr g4⟩
    rw [F_X6_chain_15, show (120 : Int32) = nI 120 from rfl, if_neg (nI_ge (by omega) (by omega)), e1, bI_s, joins3, bI_s, f1, bI_s, F_X12_term_21]
    cases hA : isCh T n q 42 with
    | true =>
      have ec := chC_y (x := 42) (a := 42) h1 hA rfl (by omega) (by omega)
      have em := chM_y (x := 42) (a := 42) h2 hA rfl (by omega)
      rw [ec, em, if_pos rfl, if_neg ne_10, if_pos rfl]
      unfold F_X12_term_33
      obtain ⟨y, J, K', g1, g2, g3⟩ := go 42 4 42 rfl rfl (by omega) (by omega) (isCh_n hA)
      exact ⟨y, J, K', g1, g2, g3⟩
    | false =>
      cases hB : isCh T n q 47 with
      | true =>
        have ec := chC_y (x := 47) (a := 47) h1 hB rfl (by omega) (by omega)
        have em := chM_y (x := 47) (a := 47) h2 hB rfl (by omega)
        rw [ec, em, if_neg (show ¬ (47 : Int32) = 42 by decide), if_pos rfl, if_neg ne_10, if_neg (show ¬ (47 : Int32) = 42 by decide), if_pos rfl]
        unfold F_X12_term_33
        obtain ⟨y, J, K', g1, g2, g3⟩ := go 47 5 47 rfl rfl (by omega) (by omega) (isCh_n hB)
        exact ⟨y, J, K', g1, g2, g3⟩
      | false =>
        rw [if_neg (chC_n (x := 42) (a := 42) h1 hA rfl (by omega) (by omega)), if_neg (chC_n (x := 47) (a := 47) h1 hB rfl (by omega) (by omega)), if_pos rfl, gd_k1, if_neg (chM_n (x := 42) (a := 42) h2 hA rfl (by omega)), if_neg (chM_n (x := 47) (a := 47) h2 hB rfl (by omega))]
        exact ⟨1, I1, K1, rfl, rfl, kc, km, Or.inl ⟨rfl, w, q, hg, by omega, by omega, j1', sC1, s01, s11⟩⟩
theorem sumChLp {d r : Nat} {ca : Int32 → PI → PL → RES} {cc cp : Int32 → Int32 → Int32 → PI → PL → RES} {cu : Int32 → Int32 → PI → PL → RES} {m1 m2 m3 : PI → PL → RES} (hN : 20000 ≤ N) (hsub : RJ L s n T d false r (cp 2 (nI d) 0) m3) : ∀ (t k l i p m c p0 : Nat) (w : List (Nat × Nat)) (I K : PI), p + t = n → t < k → t < l → i < p → JS s n T p (m + w.length) (c + w.length) d I K → Gd false (r + 1) w → p0 < p → w.length + p0 ≤ p → m ≤ p0 → c ≤ p0 → seg (I 17) eC m w → seg (K 40) (fun t => nI t.1) (260 * s + c) w → seg (K 41) (fun t => nI t.2) (260 * s + c) w → ∃ (x : Int32) (J K' : PI), F_X6_chain_15 N ca cc cp cu k 2 (nI d) (nI i) I L = some (some (.int x), J, L) ∧ bI (f_X12_look N K L) (fun x14 I15 L16 => F_X12_sum_21 N m1 m2 m3 l x14 I15 L16) = some (none, K', L) ∧ OUT false (r + 1) s n T p0 m c d I K x J K' := by
  intro t
  induction t using Nat.strongRecOn with
  | ind t ih =>
    intro k l i p m c p0 w I K hi hk hl hip j hg hp0 hwl hm hc sC s0 s1
    obtain ⟨k, rfl⟩ : ∃ q, k = q + 1 := ⟨k - 1, by omega⟩
    obtain ⟨l, rfl⟩ : ∃ q, l = q + 1 := ⟨l - 1, by omega⟩
    obtain ⟨I1, K1, e1, f1, j1, c1, m1'⟩ := j.next (N := N) (L := L) hN
    have hsk := skp_le (T := T) j.2.2.1
    obtain ⟨q, hq⟩ : ∃ q, q = skp T n p := ⟨_, rfl⟩
    rw [← hq] at e1 f1 j1 hsk
    have j1' := j1
    obtain ⟨h1, h2, h3, h4, h5, h6, h7, h8, h9, h10, h11, h12, h13, h14⟩ := j1
    have hn := h1.1
    have kc := k10_LC (m := m) c1
    have km := k345_LM (s := s) (c := c) (d12_345 m1')
    have sC1 : seg (I1 17) eC m w := seg_cong w (fun j _ => c1 17 j (by unfold d10; omega)) sC
    have s01 : seg (K1 40) (fun t => nI t.1) (260 * s + c) w := seg_cong w (fun j _ => m1' 40 j (by unfold d12; omega)) s0
    have s11 : seg (K1 41) (fun t => nI t.2) (260 * s + c) w := seg_cong w (fun j _ => m1' 41 j (by unfold d12; omega)) s1
    -- one more part
    have go : ∀ (a kk : Nat) (x : Int32), x = nI a → chT (kk, 0) = a → 2 ≤ kk → kk ≤ 5 → q < n → ∃ (y : Int32) (J K' : PI), bV (f_X10_step N I1 L) (fun I11 L12 => bI (cp 2 (nI d) 0 I11 L12) (fun x13 I14 L15 => (if x13 = 0 then gd (decide (0 &&& 1 = 0)) (some (some (.int 0), I14, L15)) else bV (f_X6_makeSign N x I14 L15) (fun I17 L18 => (F_X6_chain_15 N ca cc cp cu k) 2 (nI d) (nI i + 1) I17 L18)))) = some (some (.int y), J, L) ∧ nmW (uI K1 12 3 ((K1 12 3) + 1)) (fun I4 => bV (m3 I4 L) (fun I6 L7 => F_X12_sum_59 N m1 m2 m3 (F_X12_sum_21 N m1 m2 m3 l) (nI kk) I6 L7)) = some (none, K', L) ∧ OUT false (r + 1) s n T p0 m c d I K y J K' := by
      intro a kk x hx hch hk1 hk2 hqn
      obtain ⟨y, J3, K3, u1, u2, u3, u4, u5⟩ := hsub (q + 1) (m + w.length) (c + w.length) _ _ (j1'.step hqn)
      have kc3 : KLC m I J3 := (kc.tr (k10_LC (m := m + w.length) (Kp.rf.up ⟨rfl, rfl⟩)) (by omega)).tr u3 (by omega)
      have km3 : KLM s c K K3 := (km.tr (k345_LM (s := s) (c := c + w.length) (d12_345 (Kp.rf.up ⟨rfl, rfl⟩))) (by omega)).tr u4 (by omega)
      rw [step10 h1 hqn h4, bV_s, u1, bI_s, h5, nI_1, nI_1, nmW_s, u2, bV_s]
      unfold F_X12_sum_59
      rcases u5 with ⟨ex, jw⟩ | jx
      · subst ex
        have sC3 : seg (J3 17) eC m w := seg_cong w (fun j hj => (u3.2 j hj).trans (uI_ne (by omega))) sC1
        have s03 : seg (K3 40) (fun t => nI t.1) (260 * s + c) w := seg_cong w (fun j hj => ((u4.2.1 j (by omega)).1).trans (uI_ne (by omega))) s01
        have s13 : seg (K3 41) (fun t => nI t.2) (260 * s + c) w := seg_cong w (fun j hj => ((u4.2.1 j (by omega)).2).trans (uI_ne (by omega))) s11
        obtain ⟨J4, K4, p4, u, v1, v2, v3, v4, v5, v6, v7, v8, v9, v10, v11⟩ := JW.join (N := N) (L := L) (lg := false) (k := kk) (x := x) (p0 := p0) (p1 := q) (by omega) (by omega) jw hm hc hk1 sC3 s03 s13 (fun u hu => by
          have := Gd_op (r := r + 1) hg hu (by omega) hk1 (by omega)
          rw [show decide (6 ≤ kk) = false from decide_eq_false (by omega)] at this
          exact this) (by rw [hx, hch])
        rw [if_neg ne_10, v1, bV_s, v2, bV_s, if_pos v6.2.2.2.2.2.1]
        have hp4 := v6.2.2.1
        obtain ⟨y, J5, K5, g1, g2, g3⟩ := ih (n - p4) (by omega) k l (i + 1) p4 m c p0 u J4 K4 (by omega) (by omega) (by omega) (by omega) v6 v5 (by omega) v4 hm hc v7 v8 v9
        exact ⟨y, J5, K5, g1, g2, g3.of (kc3.tr v10 (by omega)) (km3.tr v11 (by omega)) (Nat.le_refl _) (Nat.le_refl _)⟩
      · obtain ⟨J4, K4, v1, v2, v3, v4, v5, v6, v7⟩ := JX.put (N := N) (L := L) (p0 := p0) (m0 := m) (c0 := c) (e := x) (a := nI kk) (b := 0) h14 jx (by omega) ⟨hm, hc⟩ (by omega) (by omega)
        obtain ⟨l, rfl⟩ : ∃ q, l = q + 1 := ⟨l - 1, by omega⟩
        rw [v1, bV_s, if_neg v7, F_X12_sum_21, if_neg (show ¬ (-1 : Int32) = 43 by decide), if_neg (show ¬ (-1 : Int32) = 45 by decide)]
        by_cases hy : y = 0
        · rw [if_pos hy, gd_k0]
          exact ⟨0, J3, K4, rfl, rfl, kc3, km3.tr v4 (by omega), Or.inr v5⟩
        · obtain ⟨k, rfl⟩ : ∃ q, k = q + 1 := ⟨k - 1, by omega⟩
          obtain ⟨J5, q5, g1, g2, g3, g4, -, g5⟩ := (v6 hy).nx (N := N) (L := L) hN (by decide)
          rw [if_neg hy, v2, bV_s, F_X6_chain_15, show (120 : Int32) = nI 120 from rfl, if_neg (nI_ge (by omega) (by omega)), g1, bI_s, joins2, if_neg (chC_n (x := 43) (a := 43) g5 (isDg_ch g2 (by omega)) rfl (by omega) (by omega)), if_neg (chC_n (x := 45) (a := 45) g5 (isDg_ch g2 (by omega)) rfl (by omega) (by omega)), bI_s, if_pos rfl, gd_k1]
          exact ⟨1, J5, K4, rfl, rfl, (kc3.tr v3 (by omega)).tr (k10_LC (m := m) g3) (by omega), km3.tr v4 (by omega), Or.inr g4⟩
    rw [F_X6_chain_15, show (120 : Int32) = nI 120 from rfl, if_neg (nI_ge (by omega) (by omega)), e1, bI_s, joins2, bI_s, f1, bI_s, F_X12_sum_21]
    cases hA : isCh T n q 43 with
    | true =>
      have ec := chC_y (x := 43) (a := 43) h1 hA rfl (by omega) (by omega)
      have em := chM_y (x := 43) (a := 43) h2 hA rfl (by omega)
      rw [ec, em, if_pos rfl, if_neg ne_10, if_pos rfl]
      unfold F_X12_sum_33
      obtain ⟨y, J, K', g1, g2, g3⟩ := go 43 2 43 rfl rfl (by omega) (by omega) (isCh_n hA)
      exact ⟨y, J, K', g1, g2, g3⟩
    | false =>
      cases hB : isCh T n q 45 with
      | true =>
        have ec := chC_y (x := 45) (a := 45) h1 hB rfl (by omega) (by omega)
        have em := chM_y (x := 45) (a := 45) h2 hB rfl (by omega)
        rw [ec, em, if_neg (show ¬ (45 : Int32) = 43 by decide), if_pos rfl, if_neg ne_10, if_neg (show ¬ (45 : Int32) = 43 by decide), if_pos rfl]
        unfold F_X12_sum_33
        obtain ⟨y, J, K', g1, g2, g3⟩ := go 45 3 45 rfl rfl (by omega) (by omega) (isCh_n hB)
        exact ⟨y, J, K', g1, g2, g3⟩
      | false =>
        rw [if_neg (chC_n (x := 43) (a := 43) h1 hA rfl (by omega) (by omega)), if_neg (chC_n (x := 45) (a := 45) h1 hB rfl (by omega) (by omega)), if_pos rfl, gd_k1, if_neg (chM_n (x := 43) (a := 43) h2 hA rfl (by omega)), if_neg (chM_n (x := 45) (a := 45) h2 hB rfl (by omega))]
        exact ⟨1, I1, K1, rfl, rfl, kc, km, Or.inl ⟨rfl, w, q, hg, by omega, by omega, j1', sC1, s01, s11⟩⟩
end LAWE
