def dLN (a k : Nat) : Prop := dLM a k ∨ a = 43 ∨ a = 44 ∨ a = 45 ∨ a = 46
def KLN (s c k : Nat) (K K' : PI) : Prop := Kp dLN K K' ∧ (∀ j, j < 260 * s + c → K' 40 j = K 40 j ∧ K' 41 j = K 41 j) ∧ (∀ j, j ≠ s → K' 42 j = K 42 j ∧ K' 43 j = K 43 j) ∧ ∀ j, j < 90 * s + k → K' 44 j = K 44 j ∧ K' 45 j = K 45 j ∧ K' 46 j = K 46 j
theorem KLM.ln {s c k : Nat} {K K' : PI} (h : KLM s c K K') : KLN s c k K K' := ⟨h.1.mono (fun a k q => Or.inl q), h.2.1, fun j hj => ⟨h.2.2 j hj, h.1 43 j (by unfold dLM; omega)⟩, fun j _ => ⟨h.1 44 j (by unfold dLM; omega), h.1 45 j (by unfold dLM; omega), h.1 46 j (by unfold dLM; omega)⟩⟩
theorem KLN.tr {s c k c' k' : Nat} {I J H : PI} (h : KLN s c k I J) (h2 : KLN s c' k' J H) (hc : c ≤ c') (hk : k ≤ k') : KLN s c k I H := ⟨h.1.tr h2.1, fun j hj => ⟨((h2.2.1 j (by omega)).1).trans (h.2.1 j hj).1, ((h2.2.1 j (by omega)).2).trans (h.2.1 j hj).2⟩, fun j hj => ⟨((h2.2.2.1 j hj).1).trans (h.2.2.1 j hj).1, ((h2.2.2.1 j hj).2).trans (h.2.2.1 j hj).2⟩, fun j hj => ⟨((h2.2.2.2 j (by omega)).1).trans (h.2.2.2 j hj).1, ((h2.2.2.2 j (by omega)).2.1).trans (h.2.2.2 j hj).2.1, ((h2.2.2.2 j (by omega)).2.2).trans (h.2.2.2 j hj).2.2⟩⟩
/-- cells of the clause itself -/
def dTb (s k a j : Nat) : Prop := (a = 43 ∧ j = s) ∨ ((a = 44 ∨ a = 45 ∨ a = 46) ∧ j = 90 * s + k)
theorem dTb_ln {s c k : Nat} {K K' : PI} (h : Kp (dTb s k) K K') : KLN s c k K K' := ⟨h.mono (fun a j q => by unfold dTb at q; unfold dLN; omega), fun j _ => ⟨h 40 j (by unfold dTb; omega), h 41 j (by unfold dTb; omega)⟩, fun j hj => ⟨h 42 j (by unfold dTb; omega), h 43 j (by unfold dTb; omega)⟩, fun j hj => ⟨h 44 j (by unfold dTb; omega), h 45 j (by unfold dTb; omega), h 46 j (by unfold dTb; omega)⟩⟩
def CW (s n : Nat) (T : Nat → Nat) (p m c k : Nat) (J K : PI) : Prop := ∃ (wc wv : List (Nat × Nat)) (p' : Nat), (wc = [] ∨ (Gd true 18 wc ∧ wc ≠ [])) ∧ Gd false 15 wv ∧ p < p' ∧ wc.length + wv.length + p ≤ p' ∧ JS s n T p' (m + (wc.length + wv.length + 1)) (c + (wc.length + wv.length)) 0 J K ∧ K 43 s = nI (k + 1) ∧ seg (J 17) eC m (wc ++ wv) ∧ J 17 (m + (wc.length + wv.length)) = (if wc = [] then -121 else -63) ∧ K 44 (90 * s + k) = nI c ∧ K 45 (90 * s + k) = nI (c + wc.length) ∧ K 46 (90 * s + k) = nI (c + (wc.length + wv.length)) ∧ seg (K 40) (fun t => nI t.1) (260 * s + c) (wc ++ wv) ∧ seg (K 41) (fun t => nI t.2) (260 * s + c) (wc ++ wv)
def OC (s n : Nat) (T : Nat → Nat) (p m c k : Nat) (I K : PI) (x : Int32) (J K' : PI) : Prop := KLC m I J ∧ KLN s c k K K' ∧ ((x = 1 ∧ CW s n T p m c k J K') ∨ JX s n T p m c x J K')
section LAWK
variable {N s n : Nat} {T : Nat → Nat} {L : PL}
theorem JX.kb {p m c k : Nat} {x : Int32} {J K K2 : PI} (h : JX s n T p m c x J K) (hk : Kp (dTb s k) K K2) : JX s n T p m c x J K2 := by
  obtain ⟨p', m', c', h1, h2, h3, h4, h5, h6, h7, h8, h9, h10, h11, h12⟩ := h
  exact ⟨p', m', c', h1, h2, h3, h4, h5, h6.cong (fun a k q => hk a k (by unfold dT at q; unfold dTb; omega)), h7, (hk 12 4 (by unfold dTb; omega)).trans h8, h9, (hk 12 14 (by unfold dTb; omega)).trans h10, (hk 42 s (by unfold dTb; omega)).trans h11, h12⟩
theorem JS.kb {p m c d k : Nat} {I K K2 : PI} (h : JS s n T p m c d I K) (hk : Kp (dTb s k) K K2) : JS s n T p m c d I K2 := by
  obtain ⟨h1, h2, h3, h4, h5, h6, h7, h8, h9, h10, h11⟩ := h
  exact ⟨h1, h2.cong (fun a k q => hk a k (by unfold dT at q; unfold dTb; omega)), h3, h4, (hk 12 3 (by unfold dTb; omega)).trans h5, (hk 12 4 (by unfold dTb; omega)).trans h6, h7, (hk 12 14 (by unfold dTb; omega)).trans h8, (hk 42 s (by unfold dTb; omega)).trans h9, (hk 12 5 (by unfold dTb; omega)).trans h10, h11⟩
theorem JS.take {p m c d a : Nat} {I K : PI} {x : Int32} (hN : 20000 ≤ N) (j : JS s n T p m c d I K) (hx : x = nI a) (h1 : 1 ≤ a) (h2 : a < 2 ^ 31) : ∃ (q : Nat) (I1 K1 : PI), q = skp T n p ∧ p ≤ q ∧ f_X12_look N K L = some (some (.int (cpM T n q)), K1, L) ∧ JS s n T q m c d I1 K1 ∧ Kp d10 I I1 ∧ Kp d12 K K1 ∧ ((q < n ∧ cpM T n q = x ∧ f_X10_take N x I L = some (some (.int 1), uI I1 10 2 (nI (q + 1)), L)) ∨ (cpM T n q ≠ x ∧ f_X10_take N x I L = some (some (.int 0), I1, L))) := by
  obtain ⟨I1, K1, e1, f1, j1, c1, m1⟩ := j.next (N := N) (L := L) hN
  have hsk := skp_le (T := T) j.2.2.1
  refine ⟨skp T n p, I1, K1, rfl, hsk.1, f1, j1, c1, m1, ?_⟩
  unfold f_X10_take
  rw [e1, bI_s]
  cases hc : isCh T n (skp T n p) a with
  | true => rw [if_pos (chC_y j1.1 hc hx h1 h2), step10 j1.1 (isCh_n hc) j1.2.2.2.1, bV_s, gd_k1]; exact Or.inl ⟨isCh_n hc, chM_y j1.2.1 hc hx h2, rfl⟩
  | false => rw [if_neg (chC_n j1.1 hc hx h1 h2), gd_k0]; exact Or.inr ⟨chM_n j1.2.1 hc hx h2, rfl⟩
theorem c250 {k c : Nat} {K : PI} (hs : s ≤ 6) (hk : k < 90) (h14 : K 12 14 = nI s) (h42 : K 42 s = nI c) : ∃ K2, F_X12_clause_250 N (nI (90 * s + k)) K L = some (none, K2, L) ∧ Kp (dTb s k) K K2 ∧ K2 46 (90 * s + k) = nI c ∧ K2 43 s = K 43 s + 1 ∧ K2 44 (90 * s + k) = K 44 (90 * s + k) ∧ K2 45 (90 * s + k) = K 45 (90 * s + k) := by
  unfold F_X12_clause_250
  rw [h14, gd_in (by omega) (by omega), gd_in (by omega) (by omega), nI_clamp (by omega), nI_clamp (by omega), h42, nmW_s, uI_ne (by omega), h14, gd_in (by omega) (by omega), gd_in (by omega) (by omega), nI_clamp (by omega), uI_ne (by omega), nmW_s]
  refine ⟨_, rfl, (Kp.rf.up (by unfold dTb; omega)).up (by unfold dTb; omega), ?_, uI_eq, ?_, ?_⟩
  · rw [uI_ne (by omega), uI_eq]
  · rw [uI_ne (by omega), uI_ne (by omega)]
  · rw [uI_ne (by omega), uI_ne (by omega)]
/-- the value after a condition -/
theorem tail_ok {p m c k : Nat} {I K J K1 : PI} {x : Int32} (hN : 20000 ≤ N) (hk : k < 90) (hm : m + 1 ≤ p) (hc : c ≤ p) (h43 : K 43 s = nI k) (h44 : K 44 (90 * s + k) = nI c) (hs : s ≤ 6) (o : OUT true 18 s n T p m c 0 I K x J K1) : ∃ (y : Int32) (J2 K2 : PI), (if x = 0 then gd (decide (0 &&& 1 = 0)) (some (some (.int 0), J, L)) else bI (f_X10_take N 63 J L) (fun x13 I14 L15 => (if x13 = 0 then gd (decide (0 &&& 1 = 0)) (some (some (.int 0), I14, L15)) else bI (f_X6_chain N 2 0 0 I14 L15) (fun x16 I17 L18 => (if x16 = 0 then gd (decide (0 &&& 1 = 0)) (some (some (.int 0), I17, L18)) else bV (f_X6_makeSign N 63 I17 L18) (fun I20 L21 => gd (decide (1 &&& 1 = 1)) (some (some (.int 1), I20, L21)))))))) = some (some (.int y), J2, L) ∧ F_X12_clause_183 N (nI (90 * s + k)) 1 K1 L = some (none, K2, L) ∧ OC s n T p m c k I K y J2 K2 := by
  obtain ⟨u3, u4, u5⟩ := o
  have g43 : K1 43 s = nI k := (u4.1 43 s (by unfold dLM; omega)).trans h43
  have g44 : K1 44 (90 * s + k) = nI c := (u4.1 44 _ (by unfold dLM; omega)).trans h44
  unfold F_X12_clause_183
  rw [gd_in (by omega) (by omega), gd_in (by omega) (by omega), nI_clamp (by omega), g44, nmW_s, if_neg ne_10]
  have kB : Kp (dTb s k) K1 (uI K1 45 (90 * s + k) (nI c)) := Kp.rf.up (by unfold dTb; omega)
  obtain ⟨K1b, hK1b⟩ : ∃ Q : PI, Q = uI K1 45 (90 * s + k) (nI c) := ⟨_, rfl⟩
  have b45 : K1b 45 (90 * s + k) = nI c := by rw [hK1b, uI_eq]
  rw [← hK1b] at kB ⊢
  have b43 : K1b 43 s = nI k := by rw [hK1b, uI_ne (by omega), g43]
  have b44 : K1b 44 (90 * s + k) = nI c := by rw [hK1b, uI_ne (by omega), g44]
  have kN : KLN s c k K K1b := u4.ln.tr (dTb_ln (c := c) kB) (Nat.le_refl _) (Nat.le_refl _)
  rcases u5 with ⟨ex, wc, p', g1, g2, g3, g4, g5, g6, g7⟩ | jx
  · subst ex
    have j4 := g4.kb kB
    obtain ⟨q, I2, K2, hq, hpq, f1, j1, c1, m1, ht⟩ := j4.take (N := N) (L := L) (x := 63) (a := 63) hN rfl (by omega) (by omega)
    have hn := j1.1.1
    have hqn := j1.2.2.1
    rw [if_neg ne_10, if_pos j4.2.2.2.2.2.1, f1, bI_s]
    have kc2 : KLC m I I2 := u3.tr (k10_LC (m := m) c1) (Nat.le_refl _)
    have km2 : KLN s c k K K2 := kN.tr (k345_LM (s := s) (c := c) (d12_345 m1)).ln (Nat.le_refl _) (Nat.le_refl _)
    rcases ht with ⟨hqn', hcp, ht⟩ | ⟨hcp, ht⟩
    · rw [ht, bI_s, if_neg ne_10, if_pos hcp, j1.2.2.2.2.1, nI_1, nmW_s]
      have js := j1.step hqn'
      obtain ⟨K3, hK3⟩ : ∃ Q : PI, Q = uI K2 12 3 (nI (q + 1)) := ⟨_, rfl⟩
      rw [← hK3] at js ⊢
      have k23 : Kp d12 K2 K3 := hK3 ▸ Kp.rf.up ⟨rfl, rfl⟩
      have kD : Kp d12 K1b K3 := m1.tr k23
      have i14 : K3 12 14 = nI s := js.2.2.2.2.2.2.2.1
      have i42 : K3 42 s = nI (c + wc.length) := js.2.2.2.2.2.2.2.2.1
      rw [i14, gd_in (by omega) (by omega), gd_in (by omega) (by omega), nI_clamp (by omega), i42, nmW_s]
      have kB2 : Kp (dTb s k) K3 (uI K3 45 (90 * s + k) (nI (c + wc.length))) := Kp.rf.up (by unfold dTb; omega)
      obtain ⟨K4, hK4⟩ : ∃ Q : PI, Q = uI K3 45 (90 * s + k) (nI (c + wc.length)) := ⟨_, rfl⟩
      have d45 : K4 45 (90 * s + k) = nI (c + wc.length) := by rw [hK4, uI_eq]
      rw [← hK4] at kB2 ⊢
      have d43 : K4 43 s = nI k := by rw [hK4, uI_ne (by omega), kD 43 s (by unfold d12; omega), b43]
      have d44 : K4 44 (90 * s + k) = nI c := by rw [hK4, uI_ne (by omega), kD 44 _ (by unfold d12; omega), b44]
      have js4 := js.kb kB2
      obtain ⟨y, J5, K5, v1, v2, v3, v4, v5⟩ := sum_at (N := N) (s := s) (n := n) (T := T) (L := L) (d := 0) (e := 6) (G := 100) hN (by omega) (by omega) (q + 1) (m + wc.length) (c + wc.length) _ _ js4
      have kc5 : KLC m I J5 := (kc2.tr (k10_LC (m := m) (Kp.rf.up ⟨rfl, rfl⟩)) (Nat.le_refl _)).tr v3 (by omega)
      have km5 : KLN s c k K K5 := ((km2.tr (k345_LM (s := s) (c := c) (d12_345 k23)).ln (Nat.le_refl _) (Nat.le_refl _)).tr (dTb_ln (c := c) kB2) (Nat.le_refl _) (Nat.le_refl _)).tr (v4.ln (k := k)) (by omega) (Nat.le_refl _)
      have v1' : f_X6_chain N 2 0 0 (uI I2 10 2 (nI (q + 1))) L = some (some (.int y), J5, L) := v1
      rw [v1', bI_s, v2, bV_s]
      rcases v5 with ⟨ey, wv, p2, x1, x2, x3, x4, x5, x6, x7⟩ | jx
      · subst ey
        have i7 := x4.2.2.2.2.2.2.1
        have hp2 := x4.2.2.1
        obtain ⟨K6, w1, w2, w3, w4, w5, w6⟩ := c250 (N := N) (L := L) (k := k) (K := K5) hs hk x4.2.2.2.2.2.2.2.1 x4.2.2.2.2.2.2.2.2.1
        have kC := makeK (m := m + wc.length + wv.length) (a := -63) (I := J5)
        rw [if_neg ne_10, makeSign_s i7 (by omega), bV_s, gd_k1, w1]
        have wne : wc ≠ [] := fun z => by
          obtain ⟨v, -, hv⟩ := g1 (fun _ => 0)
          rw [z] at hv
          have := hv [] (by show 0 + 18 ≤ 80; omega)
          cases this
        have t43 : K5 43 s = nI k := (v4.1 43 s (by unfold dLM; omega)).trans d43
        refine ⟨1, _, K6, rfl, rfl, kc5.tr kC (by omega), km5.tr (dTb_ln (c := c) w2) (Nat.le_refl _) (Nat.le_refl _), Or.inl ⟨rfl, wc, wv, p2, Or.inr ⟨g1, wne⟩, x1, by omega, by omega, ?_, ?_, ?_, ?_, ?_, ?_, ?_, ?_, ?_⟩⟩
        · rw [show m + (wc.length + wv.length + 1) = m + wc.length + wv.length + 1 by omega, show c + (wc.length + wv.length) = c + wc.length + wv.length by omega]
          obtain ⟨t1, t2, t3, t4, t5, t6, t7, t8, t9, t10, t11, t12, t13, t14⟩ := x4.kb w2
          exact ⟨t1.cong (dT_LC kC.1), t2, t3, by rw [uI_ne (by omega), uI_ne (by omega), t4], t5, t6, uI_eq, t8, t9, t10, by omega, t12, t13, t14⟩
        · rw [w4, t43, nI_1]
        · refine seg_app wc (seg_cong wc (fun j hj => (kC.2 j (by omega)).trans ((v3.2 j hj).trans ((uI_ne (by omega)).trans (c1 17 j (by unfold d10; omega))))) g5) (seg_cong wv (fun j hj => kC.2 j hj) x5)
        · rw [if_neg wne, uI_ne (by omega), show m + (wc.length + wv.length) = m + wc.length + wv.length by omega, uI_eq]
        · rw [w5, v4.1 44 _ (by unfold dLM; omega), d44]
        · rw [w6, v4.1 45 _ (by unfold dLM; omega), d45]
        · rw [w3, show c + (wc.length + wv.length) = c + wc.length + wv.length by omega]
        · refine seg_app wc (seg_cong wc (fun j hj => ?_) g6) (by
            rw [show 260 * s + c + wc.length = 260 * s + (c + wc.length) by omega]
            exact seg_cong wv (fun j hj => w2 40 j (by unfold dTb; omega)) x6)
          rw [w2 40 j (by unfold dTb; omega), (v4.2.1 j (by omega)).1, kB2 40 j (by unfold dTb; omega), kD 40 j (by unfold d12; omega), kB 40 j (by unfold dTb; omega)]
        · refine seg_app wc (seg_cong wc (fun j hj => ?_) g7) (by
            rw [show 260 * s + c + wc.length = 260 * s + (c + wc.length) by omega]
            exact seg_cong wv (fun j hj => w2 41 j (by unfold dTb; omega)) x7)
          rw [w2 41 j (by unfold dTb; omega), (v4.2.1 j (by omega)).2, kB2 41 j (by unfold dTb; omega), kD 41 j (by unfold d12; omega), kB 41 j (by unfold dTb; omega)]
      · have jx2 : JX s n T p m c y J5 K5 := jx.of (by omega) (by omega) (by omega)
        have i7 := jx
        obtain ⟨p2, m2, c2, x1, x2, x3, x4, x5, x6, x7, x8, x9, x10, x11, x12⟩ := jx
        obtain ⟨K6, w1, w2, w3, w4, w5, w6⟩ := c250 (N := N) (L := L) (k := k) (K := K5) hs hk x10 x11
        rw [w1]
        have km6 := km5.tr (dTb_ln (c := c) w2) (Nat.le_refl _) (Nat.le_refl _)
        by_cases hy : y = 0
        · rw [if_pos hy, gd_k0]
          exact ⟨0, J5, K6, rfl, rfl, kc5, km6, Or.inr (jx2.z.kb w2)⟩
        · rw [if_neg hy, makeSign_s x9 (by omega), bV_s, gd_k1]
          have kC := makeK (m := m2) (a := -63) (I := J5)
          refine ⟨1, _, K6, rfl, rfl, kc5.tr kC (by omega), km6, Or.inr (JX.kb (K := K5) ⟨p2, m2 + 1, c2, by omega, x2, by omega, by omega, x5.cong (dT_LC kC.1), x6, by rw [uI_ne (by omega), uI_ne (by omega), x7], x8, uI_eq, x10, x11, ?_⟩ w2)⟩
          rcases x12 with z | z
          · exact absurd z hy
          · exact Or.inr ⟨rfl, z.2⟩
    · rw [ht, bI_s, if_pos rfl, gd_k0, if_neg hcp, bad12 j1.2.2.2.2.1 j1.2.2.2.2.2.1, bV_s]
      exact ⟨0, I2, _, rfl, rfl, kc2, km2.tr (k345_LM (s := s) (c := c) (Kp.rf.up (by unfold d345; omega))).ln (Nat.le_refl _) (Nat.le_refl _), Or.inr (j1.bad.of (by omega) (by omega) (by omega))⟩
  · have jx2 := jx.kb kB
    rw [if_neg jx2.ne]
    obtain ⟨p2, m2, c2, x1, x2, x3, x4, x5, x6, x7, x8, x9, x10, x11, x12⟩ := id jx2
    obtain ⟨K6, w1, w2, w3, w4, w5, w6⟩ := c250 (N := N) (L := L) (k := k) (K := K1b) hs hk x10 x11
    rw [w1]
    have km6 := kN.tr (dTb_ln (c := c) w2) (Nat.le_refl _) (Nat.le_refl _)
    by_cases hx : x = 0
    · rw [if_pos hx, gd_k0]
      exact ⟨0, J, K6, rfl, rfl, u3, km6, Or.inr (jx2.z.kb w2)⟩
    · obtain ⟨J', e, kk, jx3⟩ := jx2.take (N := N) (L := L) (y := 63) (a := 63) hN hx rfl (by omega) (by omega) (by omega)
      rw [if_neg hx, e, bI_s, if_pos rfl, gd_k0]
      exact ⟨0, J', K6, rfl, rfl, u3.tr (k10_LC (m := m) kk) (Nat.le_refl _), km6, Or.inr (jx3.kb w2)⟩
end LAWK
