section LAWG
variable {N s n : Nat} {T : Nat → Nat} {L : PL}
theorem goOnAndLp {d r : Nat} {ca : Int32 → PI → PL → RES} {cc cp : Int32 → Int32 → Int32 → PI → PL → RES} {cu : Int32 → Int32 → PI → PL → RES} {m1 m2 m3 m4 : PI → PL → RES} (hN : 20000 ≤ N) (hsub : RJ L s n T d true r (cp 1 (nI d) 0) m4) : ∀ (t k l i p m c p0 : Nat) (w : List (Nat × Nat)) (I K : PI), p + t = n → t < k → t < l → i < p → JS s n T p (m + w.length) (c + w.length) d I K → Gd true (r + 1) w → p0 < p → w.length + p0 ≤ p → m ≤ p0 → c ≤ p0 → seg (I 17) eC m w → seg (K 40) (fun t => nI t.1) (260 * s + c) w → seg (K 41) (fun t => nI t.2) (260 * s + c) w → ∃ (x : Int32) (J K' : PI), F_X6_chain_15 N ca cc cp cu k 1 (nI d) (nI i) I L = some (some (.int x), J, L) ∧ F_X12_goOnAnd_0 N m1 m2 m3 m4 l K L = some (none, K', L) ∧ OUT true (r + 1) s n T p0 m c d I K x J K' := by
  intro t
  induction t using Nat.strongRecOn with
  | ind t ih =>
    intro k l i p m c p0 w I K hi hk hl hip j hg hp0 hwl hm hc sC s0 s1
    obtain ⟨k, rfl⟩ : ∃ q, k = q + 1 := ⟨k - 1, by omega⟩
    obtain ⟨l, rfl⟩ : ∃ q, l = q + 1 := ⟨l - 1, by omega⟩
    obtain ⟨I1, K1, e1, f1, j1, c1, m1'⟩ := j.next (N := N) (L := L) hN
    have hsk := skp_le (T := T) j.2.2.1
    obtain ⟨q, hq⟩ : ∃ q, q = skp T n p := ⟨_, rfl⟩
    rw [← hq] at e1 f1 j1 hsk
    have j1' := j1
    have hw4 := j.2.2.2.2.2.1
    obtain ⟨h1, h2, h3, h4, h5, h6, h7, h8, h9, h10, h11, h12, h13, h14⟩ := j1
    have hn := h1.1
    have kc := k10_LC (m := m) c1
    have km := k345_LM (s := s) (c := c) (d12_345 m1')
    have sC1 : seg (I1 17) eC m w := seg_cong w (fun j _ => c1 17 j (by unfold d10; omega)) sC
    have s01 : seg (K1 40) (fun t => nI t.1) (260 * s + c) w := seg_cong w (fun j _ => m1' 40 j (by unfold d12; omega)) s0
    have s11 : seg (K1 41) (fun t => nI t.2) (260 * s + c) w := seg_cong w (fun j _ => m1' 41 j (by unfold d12; omega)) s1
    rw [F_X6_chain_15, show (120 : Int32) = nI 120 from rfl, if_neg (nI_ge (by omega) (by omega)), e1, bI_s, joins1, bI_s, F_X12_goOnAnd_0, if_pos hw4, f1, bI_s]
    cases hA : isCh T n q 38 with
    | true =>
      have ec := chC_y (x := 38) (a := 38) h1 hA rfl (by omega) (by omega)
      have em := chM_y (x := 38) (a := 38) h2 hA rfl (by omega)
      have hqn := isCh_n hA
      obtain ⟨y, J3, K3, u1, u2, u3, u4, u5⟩ := hsub (q + 1) (m + w.length) (c + w.length) _ _ (j1'.step hqn)
      have kc3 : KLC m I J3 := (kc.tr (k10_LC (m := m + w.length) (Kp.rf.up ⟨rfl, rfl⟩)) (by omega)).tr u3 (by omega)
      have km3 : KLM s c K K3 := (km.tr (k345_LM (s := s) (c := c + w.length) (d12_345 (Kp.rf.up ⟨rfl, rfl⟩))) (by omega)).tr u4 (by omega)
      rw [ec, em, if_pos rfl, if_neg ne_10, if_pos rfl, step10 h1 hqn h4, bV_s, u1, bI_s, h5, nI_1, nI_1, nmW_s]
      rw [u2, bV_s]
      rcases u5 with ⟨ex, jw⟩ | jx
      · subst ex
        have sC3 : seg (J3 17) eC m w := seg_cong w (fun j hj => (u3.2 j hj).trans (uI_ne (by omega))) sC1
        have s03 : seg (K3 40) (fun t => nI t.1) (260 * s + c) w := seg_cong w (fun j hj => ((u4.2.1 j (by omega)).1).trans (uI_ne (by omega))) s01
        have s13 : seg (K3 41) (fun t => nI t.2) (260 * s + c) w := seg_cong w (fun j hj => ((u4.2.1 j (by omega)).2).trans (uI_ne (by omega))) s11
        obtain ⟨J4, K4, p4, u, v1, v2, v3, v4, v5, v6, v7, v8, v9, v10, v11⟩ := JW.join (N := N) (L := L) (lg := true) (k := 10) (x := 38) (p0 := p0) (p1 := q) (by omega) (by omega) jw hm hc (by omega) sC3 s03 s13 (fun u hu => Gd_lg (r := r + 1) hg hu (by omega) (Or.inl rfl)) rfl
        rw [show (10 : Int32) = nI 10 from rfl, if_neg ne_10, v1, bV_s, v2, bV_s]
        have hp4 := v6.2.2.1
        obtain ⟨y, J5, K5, g1, g2, g3⟩ := ih (n - p4) (by omega) k l (i + 1) p4 m c p0 u J4 K4 (by omega) (by omega) (by omega) (by omega) v6 v5 (by omega) v4 hm hc v7 v8 v9
        exact ⟨y, J5, K5, g1, g2, g3.of (kc3.tr v10 (by omega)) (km3.tr v11 (by omega)) (Nat.le_refl _) (Nat.le_refl _)⟩
      · obtain ⟨J4, K4, v1, v2, v3, v4, v5, v6, v7⟩ := JX.put (N := N) (L := L) (p0 := p0) (m0 := m) (c0 := c) (e := 38) (a := 10) (b := 0) h14 jx (by omega) ⟨hm, hc⟩ (by omega) (by omega)
        obtain ⟨l, rfl⟩ : ∃ q, l = q + 1 := ⟨l - 1, by omega⟩
        rw [v1, bV_s, F_X12_goOnAnd_0, if_neg v7]
        by_cases hy : y = 0
        · rw [if_pos hy, gd_k0]
          exact ⟨0, J3, K4, rfl, rfl, kc3, km3.tr v4 (by omega), Or.inr v5⟩
        · obtain ⟨k, rfl⟩ : ∃ q, k = q + 1 := ⟨k - 1, by omega⟩
          obtain ⟨J5, q5, g1, g2, g3, g4, -, g5⟩ := (v6 hy).nx (N := N) (L := L) hN (by decide)
          rw [if_neg hy, v2, bV_s, F_X6_chain_15, show (120 : Int32) = nI 120 from rfl, if_neg (nI_ge (by omega) (by omega)), g1, bI_s, joins1, if_neg (chC_n (x := 38) (a := 38) g5 (isDg_ch g2 (by omega)) rfl (by omega) (by omega)), bI_s, if_pos rfl, gd_k1]
          exact ⟨1, J5, K4, rfl, rfl, (kc3.tr v3 (by omega)).tr (k10_LC (m := m) g3) (by omega), km3.tr v4 (by omega), Or.inr g4⟩
    | false =>
      rw [if_neg (chC_n (x := 38) (a := 38) h1 hA rfl (by omega) (by omega)), if_pos rfl, gd_k1, if_neg (chM_n (x := 38) (a := 38) h2 hA rfl (by omega))]
      exact ⟨1, I1, K1, rfl, rfl, kc, km, Or.inl ⟨rfl, w, q, hg, by omega, by omega, j1', sC1, s01, s11⟩⟩
/-- a chain whose first part is read -/
theorem goOnAnd_go {d r p m c : Nat} {x : Int32} {ca : Int32 → PI → PL → RES} {cc cp : Int32 → Int32 → Int32 → PI → PL → RES} {cu : Int32 → Int32 → PI → PL → RES} {m1 m2 m3 m4 : PI → PL → RES} {I K J K1 : PI} (hN : 20000 ≤ N) (hsub : RJ L s n T d true r (cp 1 (nI d) 0) m4) (hmp : m ≤ p) (hcp : c ≤ p) (o : OUT true r s n T p m c d I K x J K1) : ∃ (y : Int32) (J2 K2 : PI), (if x = 0 then gd (decide (0 &&& 1 = 0)) (some (some (.int 0), J, L)) else F_X6_chain_15 N ca cc cp cu N 1 (nI d) 0 J L) = some (some (.int y), J2, L) ∧ F_X12_goOnAnd_0 N m1 m2 m3 m4 N K1 L = some (none, K2, L) ∧ OUT true (r + 1) s n T p m c d I K y J2 K2 := by
  obtain ⟨u3, u4, u5⟩ := o
  rcases u5 with ⟨ex, w, p', g1, g2, g3, g4, g5, g6, g7⟩ | jx
  · subst ex
    have hn := g4.1.1
    have hp' := g4.2.2.1
    rw [if_neg ne_10]
    obtain ⟨x, J2, K2, v1, v2, v3⟩ := goOnAndLp (N := N) (L := L) (ca := ca) (cc := cc) (cp := cp) (cu := cu) (m1 := m1) (m2 := m2) (m3 := m3) (m4 := m4) hN hsub (n - p') N N 0 p' m c p w J K1 (by omega) (by omega) (by omega) (by omega) g4 (g1.mono (by omega)) g2 g3 hmp hcp g5 g6 g7
    exact ⟨x, J2, K2, v1, v2, v3.of u3 u4 (Nat.le_refl _) (Nat.le_refl _)⟩
  · obtain ⟨M, rfl⟩ : ∃ M, N = M + 1 := ⟨N - 1, by omega⟩
    rw [F_X12_goOnAnd_0, if_neg jx.ne]
    by_cases hx : x = 0
    · rw [if_pos hx, gd_k0]
      exact ⟨0, J, K1, rfl, rfl, u3, u4, Or.inr jx.z⟩
    · obtain ⟨J5, q5, g1, g2, g3, g4, -, g5⟩ := jx.nx (N := M + 1) (L := L) hN hx
      rw [if_neg hx, F_X6_chain_15, show (120 : Int32) = nI 120 from rfl, if_neg (show ¬ nI 120 ≤ (0 : Int32) by decide +kernel), g1, bI_s, joins1, if_neg (chC_n (x := 38) (a := 38) g5 (isDg_ch g2 (by omega)) rfl (by omega) (by omega)), bI_s, if_pos rfl, gd_k1]
      exact ⟨1, J5, K1, rfl, rfl, u3.tr (k10_LC (m := m) g3) (by omega), u4, Or.inr g4⟩
theorem goOnOrLp {d r : Nat} {ca : Int32 → PI → PL → RES} {cc cp : Int32 → Int32 → Int32 → PI → PL → RES} {cu : Int32 → Int32 → PI → PL → RES} {m1 m2 m3 m4 : PI → PL → RES} (hN : 20000 ≤ N) (hsub : RJ L s n T d true r (cp 0 (nI d) 0) (fun K L => bV (m4 K L) (fun I6 L7 => m2 I6 L7))) : ∀ (t k l i p m c p0 : Nat) (w : List (Nat × Nat)) (I K : PI), p + t = n → t < k → t < l → i < p → JS s n T p (m + w.length) (c + w.length) d I K → Gd true (r + 1) w → p0 < p → w.length + p0 ≤ p → m ≤ p0 → c ≤ p0 → seg (I 17) eC m w → seg (K 40) (fun t => nI t.1) (260 * s + c) w → seg (K 41) (fun t => nI t.2) (260 * s + c) w → ∃ (x : Int32) (J K' : PI), F_X6_chain_15 N ca cc cp cu k 0 (nI d) (nI i) I L = some (some (.int x), J, L) ∧ F_X12_goOnOr_0 N m1 m2 m3 m4 l K L = some (none, K', L) ∧ OUT true (r + 1) s n T p0 m c d I K x J K' := by
  intro t
  induction t using Nat.strongRecOn with
  | ind t ih =>
    intro k l i p m c p0 w I K hi hk hl hip j hg hp0 hwl hm hc sC s0 s1
    obtain ⟨k, rfl⟩ : ∃ q, k = q + 1 := ⟨k - 1, by omega⟩
    obtain ⟨l, rfl⟩ : ∃ q, l = q + 1 := ⟨l - 1, by omega⟩
    obtain ⟨I1, K1, e1, f1, j1, c1, m1'⟩ := j.next (N := N) (L := L) hN
    have hsk := skp_le (T := T) j.2.2.1
    obtain ⟨q, hq⟩ : ∃ q, q = skp T n p := ⟨_, rfl⟩
    rw [← hq] at e1 f1 j1 hsk
    have j1' := j1
    have hw4 := j.2.2.2.2.2.1
    obtain ⟨h1, h2, h3, h4, h5, h6, h7, h8, h9, h10, h11, h12, h13, h14⟩ := j1
    have hn := h1.1
    have kc := k10_LC (m := m) c1
    have km := k345_LM (s := s) (c := c) (d12_345 m1')
    have sC1 : seg (I1 17) eC m w := seg_cong w (fun j _ => c1 17 j (by unfold d10; omega)) sC
    have s01 : seg (K1 40) (fun t => nI t.1) (260 * s + c) w := seg_cong w (fun j _ => m1' 40 j (by unfold d12; omega)) s0
    have s11 : seg (K1 41) (fun t => nI t.2) (260 * s + c) w := seg_cong w (fun j _ => m1' 41 j (by unfold d12; omega)) s1
    rw [F_X6_chain_15, show (120 : Int32) = nI 120 from rfl, if_neg (nI_ge (by omega) (by omega)), e1, bI_s, joins0, bI_s, F_X12_goOnOr_0, if_pos hw4, f1, bI_s]
    cases hA : isCh T n q 124 with
    | true =>
      have ec := chC_y (x := 124) (a := 124) h1 hA rfl (by omega) (by omega)
      have em := chM_y (x := 124) (a := 124) h2 hA rfl (by omega)
      have hqn := isCh_n hA
      obtain ⟨y, J3, K3, u1, u2, u3, u4, u5⟩ := hsub (q + 1) (m + w.length) (c + w.length) _ _ (j1'.step hqn)
      have kc3 : KLC m I J3 := (kc.tr (k10_LC (m := m + w.length) (Kp.rf.up ⟨rfl, rfl⟩)) (by omega)).tr u3 (by omega)
      have km3 : KLM s c K K3 := (km.tr (k345_LM (s := s) (c := c + w.length) (d12_345 (Kp.rf.up ⟨rfl, rfl⟩))) (by omega)).tr u4 (by omega)
      rw [ec, em, if_pos rfl, if_neg ne_10, if_pos rfl, step10 h1 hqn h4, bV_s, u1, bI_s, h5, nI_1, nI_1, nmW_s]
      obtain ⟨Kb, Lb, ub1, ub2⟩ := bV_some u2
      rw [ub1, bV_s, ub2, bV_s]
      rcases u5 with ⟨ex, jw⟩ | jx
      · subst ex
        have sC3 : seg (J3 17) eC m w := seg_cong w (fun j hj => (u3.2 j hj).trans (uI_ne (by omega))) sC1
        have s03 : seg (K3 40) (fun t => nI t.1) (260 * s + c) w := seg_cong w (fun j hj => ((u4.2.1 j (by omega)).1).trans (uI_ne (by omega))) s01
        have s13 : seg (K3 41) (fun t => nI t.2) (260 * s + c) w := seg_cong w (fun j hj => ((u4.2.1 j (by omega)).2).trans (uI_ne (by omega))) s11
        obtain ⟨J4, K4, p4, u, v1, v2, v3, v4, v5, v6, v7, v8, v9, v10, v11⟩ := JW.join (N := N) (L := L) (lg := true) (k := 11) (x := 124) (p0 := p0) (p1 := q) (by omega) (by omega) jw hm hc (by omega) sC3 s03 s13 (fun u hu => Gd_lg (r := r + 1) hg hu (by omega) (Or.inr rfl)) rfl
        rw [show (11 : Int32) = nI 11 from rfl, if_neg ne_10, v1, bV_s, v2, bV_s]
        have hp4 := v6.2.2.1
        obtain ⟨y, J5, K5, g1, g2, g3⟩ := ih (n - p4) (by omega) k l (i + 1) p4 m c p0 u J4 K4 (by omega) (by omega) (by omega) (by omega) v6 v5 (by omega) v4 hm hc v7 v8 v9
        exact ⟨y, J5, K5, g1, g2, g3.of (kc3.tr v10 (by omega)) (km3.tr v11 (by omega)) (Nat.le_refl _) (Nat.le_refl _)⟩
      · obtain ⟨J4, K4, v1, v2, v3, v4, v5, v6, v7⟩ := JX.put (N := N) (L := L) (p0 := p0) (m0 := m) (c0 := c) (e := 124) (a := 11) (b := 0) h14 jx (by omega) ⟨hm, hc⟩ (by omega) (by omega)
        obtain ⟨l, rfl⟩ : ∃ q, l = q + 1 := ⟨l - 1, by omega⟩
        rw [v1, bV_s, F_X12_goOnOr_0, if_neg v7]
        by_cases hy : y = 0
        · rw [if_pos hy, gd_k0]
          exact ⟨0, J3, K4, rfl, rfl, kc3, km3.tr v4 (by omega), Or.inr v5⟩
        · obtain ⟨k, rfl⟩ : ∃ q, k = q + 1 := ⟨k - 1, by omega⟩
          obtain ⟨J5, q5, g1, g2, g3, g4, -, g5⟩ := (v6 hy).nx (N := N) (L := L) hN (by decide)
          rw [if_neg hy, v2, bV_s, F_X6_chain_15, show (120 : Int32) = nI 120 from rfl, if_neg (nI_ge (by omega) (by omega)), g1, bI_s, joins0, if_neg (chC_n (x := 124) (a := 124) g5 (isDg_ch g2 (by omega)) rfl (by omega) (by omega)), bI_s, if_pos rfl, gd_k1]
          exact ⟨1, J5, K4, rfl, rfl, (kc3.tr v3 (by omega)).tr (k10_LC (m := m) g3) (by omega), km3.tr v4 (by omega), Or.inr g4⟩
    | false =>
      rw [if_neg (chC_n (x := 124) (a := 124) h1 hA rfl (by omega) (by omega)), if_pos rfl, gd_k1, if_neg (chM_n (x := 124) (a := 124) h2 hA rfl (by omega))]
      exact ⟨1, I1, K1, rfl, rfl, kc, km, Or.inl ⟨rfl, w, q, hg, by omega, by omega, j1', sC1, s01, s11⟩⟩
/-- a chain whose first part is read -/
theorem goOnOr_go {d r p m c : Nat} {x : Int32} {ca : Int32 → PI → PL → RES} {cc cp : Int32 → Int32 → Int32 → PI → PL → RES} {cu : Int32 → Int32 → PI → PL → RES} {m1 m2 m3 m4 : PI → PL → RES} {I K J K1 : PI} (hN : 20000 ≤ N) (hsub : RJ L s n T d true r (cp 0 (nI d) 0) (fun K L => bV (m4 K L) (fun I6 L7 => m2 I6 L7))) (hmp : m ≤ p) (hcp : c ≤ p) (o : OUT true r s n T p m c d I K x J K1) : ∃ (y : Int32) (J2 K2 : PI), (if x = 0 then gd (decide (0 &&& 1 = 0)) (some (some (.int 0), J, L)) else F_X6_chain_15 N ca cc cp cu N 0 (nI d) 0 J L) = some (some (.int y), J2, L) ∧ F_X12_goOnOr_0 N m1 m2 m3 m4 N K1 L = some (none, K2, L) ∧ OUT true (r + 1) s n T p m c d I K y J2 K2 := by
  obtain ⟨u3, u4, u5⟩ := o
  rcases u5 with ⟨ex, w, p', g1, g2, g3, g4, g5, g6, g7⟩ | jx
  · subst ex
    have hn := g4.1.1
    have hp' := g4.2.2.1
    rw [if_neg ne_10]
    obtain ⟨x, J2, K2, v1, v2, v3⟩ := goOnOrLp (N := N) (L := L) (ca := ca) (cc := cc) (cp := cp) (cu := cu) (m1 := m1) (m2 := m2) (m3 := m3) (m4 := m4) hN hsub (n - p') N N 0 p' m c p w J K1 (by omega) (by omega) (by omega) (by omega) g4 (g1.mono (by omega)) g2 g3 hmp hcp g5 g6 g7
    exact ⟨x, J2, K2, v1, v2, v3.of u3 u4 (Nat.le_refl _) (Nat.le_refl _)⟩
  · obtain ⟨M, rfl⟩ : ∃ M, N = M + 1 := ⟨N - 1, by omega⟩
    rw [F_X12_goOnOr_0, if_neg jx.ne]
    by_cases hx : x = 0
    · rw [if_pos hx, gd_k0]
      exact ⟨0, J, K1, rfl, rfl, u3, u4, Or.inr jx.z⟩
    · obtain ⟨J5, q5, g1, g2, g3, g4, -, g5⟩ := jx.nx (N := M + 1) (L := L) hN hx
      rw [if_neg hx, F_X6_chain_15, show (120 : Int32) = nI 120 from rfl, if_neg (show ¬ nI 120 ≤ (0 : Int32) by decide +kernel), g1, bI_s, joins0, if_neg (chC_n (x := 124) (a := 124) g5 (isDg_ch g2 (by omega)) rfl (by omega) (by omega)), bI_s, if_pos rfl, gd_k1]
      exact ⟨1, J5, K1, rfl, rfl, u3.tr (k10_LC (m := m) g3) (by omega), u4, Or.inr g4⟩
end LAWG
