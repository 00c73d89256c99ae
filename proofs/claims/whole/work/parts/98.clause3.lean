section LAWN
variable {N s n : Nat} {T : Nat → Nat} {L : PL}
/-- a clause without a condition, its sum read: what the model does -/
theorem plain183 {k c c' : Nat} {K : PI} (hs : s ≤ 6) (hk : k < 90) (h14 : K 12 14 = nI s) (h42 : K 42 s = nI c') (h44 : K 44 (90 * s + k) = nI c) : ∃ K2, F_X12_clause_165 N (nI (90 * s + k)) K L = some (none, K2, L) ∧ Kp (dTb s k) K K2 ∧ K2 46 (90 * s + k) = nI c' ∧ K2 43 s = K 43 s + 1 ∧ K2 44 (90 * s + k) = nI c ∧ K2 45 (90 * s + k) = nI c := by
  unfold F_X12_clause_165 F_X12_clause_166
  rw [if_pos rfl]
  unfold F_X12_clause_183
  rw [gd_in (by omega) (by omega), gd_in (by omega) (by omega), nI_clamp (by omega), h44, nmW_s, if_pos rfl]
  obtain ⟨K6, w1, w2, w3, w4, w5, w6⟩ := c250 (N := N) (L := L) (k := k) (K := uI K 45 (90 * s + k) (nI c)) hs hk ((uI_ne (by omega)).trans h14) ((uI_ne (by omega)).trans h42)
  refine ⟨K6, w1, (Kp.rf.up (by unfold dTb; omega)).tr w2, w3, w4.trans (by rw [uI_ne (by omega)]), w5.trans (by rw [uI_ne (by omega), h44]), w6.trans uI_eq⟩
theorem clause_ok {p m c k : Nat} {I K : PI} (hN : 20000 ≤ N) (hk : k < 90) (j : JS s n T p m c 0 I K) (h43 : K 43 s = nI k) : ∃ (x : Int32) (J K' : PI), f_X6_clause N I L = some (some (.int x), J, L) ∧ f_X12_clause N K L = some (none, K', L) ∧ OC s n T p m c k I K x J K' := by
  have hs : s ≤ 6 := j.2.2.2.2.2.2.2.2.2.2.2.2.2
  have hmp : m ≤ p := j.2.2.2.2.2.2.2.2.2.2.1
  have hcp : c ≤ p := j.2.2.2.2.2.2.2.2.2.2.2.1
  obtain ⟨q, I1, K1, hq, hpq, f1, j1, c1, m1, ht⟩ := j.take (N := N) (L := L) (x := 121) (a := 121) hN rfl (by omega) (by omega)
  unfold f_X6_clause f_X12_clause
  rw [j.2.2.2.2.2.2.2.1, gd_in (by omega) (by omega), nI_clamp (by omega), h43, show (90 : Int32) = nI 90 from rfl, pk_mul, nI_add, nmI_s, if_pos j.2.2.2.2.2.1, f1, bI_s]
  have kc1 : KLC m I I1 := k10_LC c1
  have km1 : KLN s c k K K1 := (k345_LM (s := s) (c := c) (d12_345 m1)).ln
  rcases ht with ⟨hqn, hcpm, ht⟩ | ⟨hcpm, ht⟩
  · rw [ht, bI_s, if_neg ne_10, if_pos hcpm]
    unfold F_X12_clause_39
    rw [j1.2.2.2.2.1, nI_1, nmW_s]
    have js := j1.step hqn
    obtain ⟨I2, hI2⟩ : ∃ Q : PI, Q = uI I1 10 2 (nI (q + 1)) := ⟨_, rfl⟩
    obtain ⟨K2, hK2⟩ : ∃ Q : PI, Q = uI K1 12 3 (nI (q + 1)) := ⟨_, rfl⟩
    rw [← hI2, ← hK2] at js
    rw [← hI2, ← hK2]
    have kc2 : KLC m I I2 := kc1.tr (k10_LC (m := m) (show Kp d10 I1 I2 from hI2 ▸ Kp.rf.up ⟨rfl, rfl⟩)) (Nat.le_refl _)
    have km2 : KLN s c k K K2 := km1.tr (k345_LM (s := s) (c := c) (d12_345 (show Kp d12 K1 K2 from hK2 ▸ Kp.rf.up ⟨rfl, rfl⟩))).ln (Nat.le_refl _) (Nat.le_refl _)
    have kd2 : Kp d12 K K2 := m1.tr (show Kp d12 K1 K2 from hK2 ▸ Kp.rf.up ⟨rfl, rfl⟩)
    obtain ⟨q2, I3, K3, hq2, hpq2, f3, j3, c3, m3, ht3⟩ := js.take (N := N) (L := L) (x := 58) (a := 58) hN rfl (by omega) (by omega)
    rw [if_pos js.2.2.2.2.2.1, f3, bI_s]
    have kc3 : KLC m I I3 := kc2.tr (k10_LC (m := m) c3) (Nat.le_refl _)
    have km3 : KLN s c k K K3 := km2.tr (k345_LM (s := s) (c := c) (d12_345 m3)).ln (Nat.le_refl _) (Nat.le_refl _)
    rcases ht3 with ⟨hqn2, hcpm2, ht3⟩ | ⟨hcpm2, ht3⟩
    · rw [ht3, bI_s, if_neg ne_10, if_pos hcpm2]
      unfold F_X12_clause_70
      rw [j3.2.2.2.2.1, nI_1, nmW_s]
      have js4 := j3.step hqn2
      obtain ⟨I4, hI4⟩ : ∃ Q : PI, Q = uI I3 10 2 (nI (q2 + 1)) := ⟨_, rfl⟩
      obtain ⟨K4, hK4⟩ : ∃ Q : PI, Q = uI K3 12 3 (nI (q2 + 1)) := ⟨_, rfl⟩
      rw [← hI4, ← hK4] at js4
      rw [← hI4, ← hK4]
      have kc4 : KLC m I I4 := kc3.tr (k10_LC (m := m) (show Kp d10 I3 I4 from hI4 ▸ Kp.rf.up ⟨rfl, rfl⟩)) (Nat.le_refl _)
      have km4 : KLN s c k K K4 := km3.tr (k345_LM (s := s) (c := c) (d12_345 (show Kp d12 K3 K4 from hK4 ▸ Kp.rf.up ⟨rfl, rfl⟩))).ln (Nat.le_refl _) (Nat.le_refl _)
      have kd4 : Kp d12 K K4 := (kd2.tr m3).tr (show Kp d12 K3 K4 from hK4 ▸ Kp.rf.up ⟨rfl, rfl⟩)
      rw [if_pos js4.2.2.2.2.2.1, js4.2.2.2.2.2.2.2.1, gd_in (by omega) (by omega), gd_in (by omega) (by omega), nI_clamp (by omega), nI_clamp (by omega), js4.2.2.2.2.2.2.2.2.1, nmW_s]
      have kB : Kp (dTb s k) K4 (uI K4 44 (90 * s + k) (nI c)) := Kp.rf.up (by unfold dTb; omega)
      obtain ⟨K5, hK5⟩ : ∃ Q : PI, Q = uI K4 44 (90 * s + k) (nI c) := ⟨_, rfl⟩
      have b44 : K5 44 (90 * s + k) = nI c := by rw [hK5, uI_eq]
      rw [← hK5] at kB ⊢
      have b43 : K5 43 s = nI k := by rw [hK5, uI_ne (by omega), kd4 43 s (by unfold d12; omega), h43]
      have js5 := js4.kb kB
      have km5 : KLN s c k K K5 := km4.tr (dTb_ln (c := c) kB) (Nat.le_refl _) (Nat.le_refl _)
      obtain ⟨I6, K6, e6, f6, j6, c6, m6⟩ := js5.next (N := N) (L := L) hN
      have hsk := skp_le (T := T) js5.2.2.1
      obtain ⟨q3, hq3⟩ : ∃ q, q = skp T n (q2 + 1) := ⟨_, rfl⟩
      have hid : skp T n q3 = q3 := by rw [hq3]; exact skp_id js5.2.2.1
      rw [← hq3] at e6 f6 j6 hsk
      rw [e6, bI_s, f6, bI_s]
      have kc6 : KLC m I I6 := kc4.tr (k10_LC (m := m) c6) (Nat.le_refl _)
      have km6 : KLN s c k K K6 := km5.tr (k345_LM (s := s) (c := c) (d12_345 m6)).ln (Nat.le_refl _) (Nat.le_refl _)
      -- a whole condition
      have cond : ∀ (I7 K7 : PI), JS s n T q3 m c 0 I7 K7 → KLC m I I7 → KLN s c k K K7 → K7 43 s = nI k → K7 44 (90 * s + k) = nI c → ∃ (x : Int32) (J K' : PI), F_X6_clause_50 N I7 L = some (some (.int x), J, L) ∧ F_X12_clause_122 N (nI (90 * s + k)) K7 L = some (none, K', L) ∧ OC s n T p m c k I K x J K' := by
        intro I7 K7 j7 kc7 km7 g43 g44
        unfold F_X6_clause_50 F_X6_clause_55 F_X12_clause_122 F_X12_clause_127
        rw [if_neg ne_10, if_neg ne_10]
        unfold F_X6_clause_93
        rw [if_neg ne_10]
        unfold F_X6_clause_105
        have ho := or_at (g := 97) (G := 96) (N := N) (s := s) (n := n) (T := T) (L := L) (d := 0) hN (fun g' q => unit_all (N := N) (s := s) (n := n) (T := T) (L := L) hN 6 0 96 g' (by omega) (by omega) (by omega))
        obtain ⟨x, J8, K8, u1, u2, u3⟩ := ho q3 m c I7 K7 j7
        have u1' : f_X6_chain N 0 0 0 I7 L = some (some (.int x), J8, L) := u1
        have u2' : f_X12_condition N K7 L = some (none, K8, L) := u2
        obtain ⟨y, J9, K9, v1, v2, v3, v4, v5⟩ := tail_ok (N := N) (L := L) hN hk (by omega) (by omega) g43 g44 hs u3
        rw [u1', bI_s, u2', bV_s]
        refine ⟨y, J9, K9, v1, v2, kc7.tr v3 (Nat.le_refl _), km7.tr v4 (Nat.le_refl _) (Nat.le_refl _), ?_⟩
        rcases v5 with ⟨ey, wc, wv, p', a1, a2, a3, a4, a5⟩ | jx
        · exact Or.inl ⟨ey, wc, wv, p', a1, a2, by omega, by omega, a5⟩
        · exact Or.inr (jx.of (by omega) (by omega) (by omega))
      have g43 : K6 43 s = nI k := (m6 43 s (by unfold d12; omega)).trans b43
      have g44 : K6 44 (90 * s + k) = nI c := (m6 44 _ (by unfold d12; omega)).trans b44
      cases h33 : isCh T n q3 33 with
      | true =>
        rw [if_pos (chC_y (x := 33) (a := 33) j6.1 h33 rfl (by omega) (by omega)), if_pos (chM_y (x := 33) (a := 33) j6.2.1 h33 rfl (by omega))]
        exact cond I6 K6 j6 kc6 km6 g43 g44
      | false =>
        rw [if_neg (chC_n (x := 33) (a := 33) j6.1 h33 rfl (by omega) (by omega)), if_neg (chM_n (x := 33) (a := 33) j6.2.1 h33 rfl (by omega))]
        obtain ⟨I7, K7, e7, f7, j7, c7, m7⟩ := j6.nx (N := N) (L := L) hN hid
        rw [e7, bI_s, f7, bI_s]
        have kc7 : KLC m I I7 := kc6.tr (k10_LC (m := m) c7) (Nat.le_refl _)
        have km7 : KLN s c k K K7 := km6.tr (k345_LM (s := s) (c := c) (d12_345 m7)).ln (Nat.le_refl _) (Nat.le_refl _)
        have i43 : K7 43 s = nI k := (m7 43 s (by unfold d12; omega)).trans g43
        have i44 : K7 44 (90 * s + k) = nI c := (m7 44 _ (by unfold d12; omega)).trans g44
        cases h40 : isCh T n q3 40 with
        | true =>
          rw [if_pos (chC_y (x := 40) (a := 40) j7.1 h40 rfl (by omega) (by omega)), if_pos (chM_y (x := 40) (a := 40) j7.2.1 h40 rfl (by omega))]
          exact cond I7 K7 j7 kc7 km7 i43 i44
        | false =>
          rw [if_neg (chC_n (x := 40) (a := 40) j7.1 h40 rfl (by omega) (by omega)), if_neg (chM_n (x := 40) (a := 40) j7.2.1 h40 rfl (by omega))]
          unfold F_X6_clause_55 F_X12_clause_127
          rw [if_pos rfl, if_pos rfl]
          obtain ⟨x, J8, K8, u1, u2, u3, u4, u5⟩ := sum_at (N := N) (s := s) (n := n) (T := T) (L := L) (d := 0) (e := 6) (G := 100) hN (by omega) (by omega) q3 m c I7 K7 j7
          have u1' : f_X6_chain N 2 0 0 I7 L = some (some (.int x), J8, L) := u1
          rw [u1', bI_s, u2, bV_s]
          have kc8 : KLC m I J8 := kc7.tr u3 (Nat.le_refl _)
          have km8 : KLN s c k K K8 := km7.tr u4.ln (Nat.le_refl _) (Nat.le_refl _)
          have l43 : K8 43 s = nI k := (u4.1 43 s (by unfold dLM; omega)).trans i43
          have l44 : K8 44 (90 * s + k) = nI c := (u4.1 44 _ (by unfold dLM; omega)).trans i44
          rcases u5 with ⟨ex, jw⟩ | jx
          · subst ex
            have hw8 : K8 12 4 = -1 := by
              obtain ⟨w, p', x1, x2, x3, x4, x5⟩ := jw
              exact x4.2.2.2.2.2.1
            obtain ⟨q4, J9, K9, e9, f9, c9, m9, w, g1, g2, g3, g4, g5, g6, g7⟩ := jw.next (N := N) (L := L) hN
            rw [if_neg ne_10, e9, bI_s, cmp6, bI_s, if_pos hw8, f9, bI_s, sig12, bI_s]
            have hn := g4.1.1
            have hq4 := g4.2.2.1
            have kc9 : KLC m I J9 := kc8.tr (k10_LC (m := m) c9) (Nat.le_refl _)
            have km9 : KLN s c k K K9 := km8.tr (k345_LM (s := s) (c := c) (d12_345 m9)).ln (Nat.le_refl _) (Nat.le_refl _)
            have o43 : K9 43 s = nI k := (m9 43 s (by unfold d12; omega)).trans l43
            have o44 : K9 44 (90 * s + k) = nI c := (m9 44 _ (by unfold d12; omega)).trans l44
            -- a comparison: the condition goes on
            have cmpd : ∃ (x : Int32) (J K' : PI), F_X6_clause_93 N 0 J9 L = some (some (.int x), J, L) ∧ F_X12_clause_166 N (nI (90 * s + k)) 1 K9 L = some (none, K', L) ∧ OC s n T p m c k I K x J K' := by
              unfold F_X6_clause_93 F_X12_clause_166
              rw [if_pos rfl, if_neg ne_10]
              unfold F_X6_clause_105
              obtain ⟨x, Ja, Ka, Kb, Kc, a1, a2, a3, a4, a5⟩ := flag_ok (N := N) (L := L) (p := q3) (m := m) (c := c) hN (by omega) (by omega) (⟨w, q4, g1.mono (by omega), g2, g3, g4, g5, g6, g7⟩ : JW false 16 s n T q3 m c 0 J9 K9)
              obtain ⟨y, Jd, Kd, v1, v2, v3, v4, v5⟩ := tail_ok (N := N) (L := L) hN hk (by omega) (by omega) o43 o44 hs a5
              rw [a1, bI_s, a2, bV_s, a3, bV_s, a4, bV_s]
              refine ⟨y, Jd, Kd, v1, v2, kc9.tr v3 (Nat.le_refl _), km9.tr v4 (Nat.le_refl _) (Nat.le_refl _), ?_⟩
              rcases v5 with ⟨ey, wc, wv, p', b1, b2, b3, b4, b5⟩ | jx
              · exact Or.inl ⟨ey, wc, wv, p', b1, b2, by omega, by omega, b5⟩
              · exact Or.inr (jx.of (by omega) (by omega) (by omega))
            cases h61 : isCh T n q4 61 with
            | true =>
              rw [chC_y (x := 61) (a := 61) g4.1 h61 rfl (by omega) (by omega), chM_y (x := 61) (a := 61) g4.2.1 h61 rfl (by omega), if_pos rfl, if_neg ne_10, if_neg ne_10]
              exact cmpd
            | false =>
              cases h60 : isCh T n q4 60 with
              | true =>
                rw [chC_y (x := 60) (a := 60) g4.1 h60 rfl (by omega) (by omega), chM_y (x := 60) (a := 60) g4.2.1 h60 rfl (by omega), if_neg (show ¬ (60 : Int32) = 61 by decide), if_pos rfl, if_neg ne_10, if_neg ne_10]
                exact cmpd
              | false =>
                cases h62 : isCh T n q4 62 with
                | true =>
                  rw [chC_y (x := 62) (a := 62) g4.1 h62 rfl (by omega) (by omega), chM_y (x := 62) (a := 62) g4.2.1 h62 rfl (by omega), if_neg (show ¬ (62 : Int32) = 61 by decide), if_neg (show ¬ (62 : Int32) = 60 by decide), if_pos rfl, if_neg ne_10, if_neg ne_10]
                  exact cmpd
                | false =>
                  rw [if_neg (chC_n (x := 61) (a := 61) g4.1 h61 rfl (by omega) (by omega)), if_neg (chC_n (x := 60) (a := 60) g4.1 h60 rfl (by omega) (by omega)), if_neg (chC_n (x := 62) (a := 62) g4.1 h62 rfl (by omega) (by omega)), if_pos rfl, if_neg (chM_n (x := 61) (a := 61) g4.2.1 h61 rfl (by omega)), if_neg (chM_n (x := 60) (a := 60) g4.2.1 h60 rfl (by omega)), if_neg (chM_n (x := 62) (a := 62) g4.2.1 h62 rfl (by omega)), if_pos rfl]
                  obtain ⟨Ke, w1, w2, w3, w4, w5, w6⟩ := plain183 (N := N) (L := L) (k := k) (c := c) (K := K9) hs hk g4.2.2.2.2.2.2.2.1 g4.2.2.2.2.2.2.2.2.1 o44
                  have kC := makeK (m := m + w.length) (a := -121) (I := J9)
                  rw [makeSign_s g4.2.2.2.2.2.2.1 (by omega), bV_s, gd_k1, w1]
                  refine ⟨1, _, Ke, rfl, rfl, kc9.tr kC (by omega), km9.tr (dTb_ln (c := c) w2) (Nat.le_refl _) (Nat.le_refl _), Or.inl ⟨rfl, [], w, q4, Or.inl rfl, g1, by omega, by show 0 + w.length + p ≤ q4; omega, ?_, ?_, ?_, ?_, w5, by rw [w6]; rfl, ?_, ?_, ?_⟩⟩
                  · rw [show ([] : List (Nat × Nat)).length = 0 from rfl, Nat.zero_add, show m + (w.length + 1) = m + w.length + 1 by omega]
                    obtain ⟨t1, t2, t3, t4, t5, t6, t7, t8, t9, t10, t11, t12, t13, t14⟩ := g4.kb w2
                    exact ⟨t1.cong (dT_LC kC.1), t2, t3, by rw [uI_ne (by omega), uI_ne (by omega), t4], t5, t6, uI_eq, t8, t9, t10, by omega, t12, t13, t14⟩
                  · rw [w4, o43, nI_1]
                  · exact seg_cong w (fun j hj => kC.2 j hj) g5
                  · rw [if_pos rfl, uI_ne (by omega), show ([] : List (Nat × Nat)).length = 0 from rfl, Nat.zero_add, uI_eq]
                  · rw [w3, show ([] : List (Nat × Nat)).length = 0 from rfl, Nat.zero_add]
                  · exact seg_cong w (fun j hj => w2 40 j (by unfold dTb; omega)) g6
                  · exact seg_cong w (fun j hj => w2 41 j (by unfold dTb; omega)) g7
          · rw [if_neg jx.ne]
            have jx2 := jx
            obtain ⟨p2, m2, c2, x1, x2, x3, x4, x5, x6, x7, x8, x9, x10, x11, x12⟩ := jx
            obtain ⟨Ke, w1, w2, w3, w4, w5, w6⟩ := plain183 (N := N) (L := L) (k := k) (c := c) (K := K8) hs hk x10 x11 l44
            rw [w1]
            have km9 := km8.tr (dTb_ln (c := c) w2) (Nat.le_refl _) (Nat.le_refl _)
            by_cases hx : x = 0
            · rw [if_pos hx, gd_k0]
              exact ⟨0, J8, Ke, rfl, rfl, kc8, km9, Or.inr ((jx2.z.kb w2).of (by omega) (by omega) (by omega))⟩
            · have jx3 := (jx2.of (p0 := p) (m0 := m) (c0 := c) (by omega) (by omega) (by omega))
              obtain ⟨J9, q5, g1, g2, g3, g4, g5, g6⟩ := jx2.nx (N := N) (L := L) hN hx
              rw [if_neg hx, g1, bI_s, cmp6, bI_s, if_neg (chC_n (x := 61) (a := 61) g6 (isDg_ch g2 (by omega)) rfl (by omega) (by omega)), if_neg (chC_n (x := 60) (a := 60) g6 (isDg_ch g2 (by omega)) rfl (by omega) (by omega)), if_neg (chC_n (x := 62) (a := 62) g6 (isDg_ch g2 (by omega)) rfl (by omega) (by omega)), if_pos rfl]
              obtain ⟨p3, m3', c3', y1, y2, y3, y4, y5, y6, y7, y8, y9, y10, y11, y12⟩ := g4
              have hn := y5.1
              have kC := makeK (m := m3') (a := -121) (I := J9)
              rw [makeSign_s y9 (by omega), bV_s, gd_k1]
              refine ⟨1, _, Ke, rfl, rfl, (kc8.tr (k10_LC (m := m) g3) (Nat.le_refl _)).tr kC (by omega), km9, Or.inr (JX.kb (K := K8) ⟨p3, m3' + 1, c3', by omega, y2, by omega, by omega, y5.cong (dT_LC kC.1), y6, by rw [uI_ne (by omega), uI_ne (by omega), y7], y8, uI_eq, y10, y11, ?_⟩ w2)⟩
              rcases y12 with z | z
              · exact absurd z (by decide)
              · exact Or.inr ⟨rfl, z.2⟩
    · rw [ht3, bI_s, if_pos rfl, gd_k0, if_neg hcpm2, bad12 j3.2.2.2.2.1 j3.2.2.2.2.2.1, bV_s]
      have jb := j3.bad
      unfold F_X12_clause_70
      rw [nmW_s]
      have kE : Kp d35 (uI K3 12 4 (nI q2)) (uI (uI K3 12 4 (nI q2)) 12 3 ((uI K3 12 4 (nI q2)) 12 3 + 1)) := Kp.rf.up (by unfold d35; omega)
      have jb2 := jb.km hs kE
      rw [if_neg jb2.ne]
      exact ⟨0, I3, _, rfl, rfl, kc3, (km3.tr (k345_LM (s := s) (c := c) (Kp.rf.up (by unfold d345; omega))).ln (Nat.le_refl _) (Nat.le_refl _)).tr (k345_LM (s := s) (c := c) (d35_345 kE)).ln (Nat.le_refl _) (Nat.le_refl _), Or.inr (jb2.of (by omega) (by omega) (by omega))⟩
  · rw [ht, bI_s, if_pos rfl, gd_k0, if_neg hcpm, bad12 j1.2.2.2.2.1 j1.2.2.2.2.2.1, bV_s]
    have jb := j1.bad
    unfold F_X12_clause_39
    rw [nmW_s]
    have kE : Kp d35 (uI K1 12 4 (nI q)) (uI (uI K1 12 4 (nI q)) 12 3 ((uI K1 12 4 (nI q)) 12 3 + 1)) := Kp.rf.up (by unfold d35; omega)
    have jb2 := jb.km hs kE
    rw [if_neg jb2.ne]
    obtain ⟨Kz, hKz⟩ : ∃ Q : PI, Q = uI (uI K1 12 4 (nI q)) 12 3 ((uI K1 12 4 (nI q)) 12 3 + 1) := ⟨_, rfl⟩
    rw [← hKz] at kE jb2 ⊢
    unfold F_X12_clause_70
    rw [nmW_s]
    have kE2 : Kp d35 Kz (uI Kz 12 3 (Kz 12 3 + 1)) := Kp.rf.up (by unfold d35; omega)
    have jb3 := jb2.km hs kE2
    rw [if_neg jb3.ne]
    exact ⟨0, I1, _, rfl, rfl, kc1, ((km1.tr (k345_LM (s := s) (c := c) (Kp.rf.up (by unfold d345; omega))).ln (Nat.le_refl _) (Nat.le_refl _)).tr (k345_LM (s := s) (c := c) (d35_345 kE)).ln (Nat.le_refl _) (Nat.le_refl _)).tr (k345_LM (s := s) (c := c) (d35_345 kE2)).ln (Nat.le_refl _) (Nat.le_refl _), Or.inr (jb3.of (by omega) (by omega) (by omega))⟩
end LAWN
