def clR (A : Nat → Int32) : Nat → List (List (Nat × Nat) × List (Nat × Nat)) → Nat → Prop
  | m, [], e => e = m
  | m, t :: cs, e => seg A eC m (t.1 ++ t.2) ∧ A (m + (t.1.length + t.2.length)) = (if t.1 = [] then -121 else -63) ∧ clR A (m + (t.1.length + t.2.length + 1)) cs e
def moR (K : PI) (s : Nat) : Nat → Nat → List (List (Nat × Nat) × List (Nat × Nat)) → Prop
  | _, _, [] => True
  | c, k, t :: cs => K 44 (90 * s + k) = nI c ∧ K 45 (90 * s + k) = nI (c + t.1.length) ∧ K 46 (90 * s + k) = nI (c + (t.1.length + t.2.length)) ∧ seg (K 40) (fun t => nI t.1) (260 * s + c) (t.1 ++ t.2) ∧ seg (K 41) (fun t => nI t.2) (260 * s + c) (t.1 ++ t.2) ∧ moR K s (c + (t.1.length + t.2.length)) (k + 1) cs
def GCs : List (List (Nat × Nat) × List (Nat × Nat)) → Prop
  | [] => True
  | t :: cs => (t.1 = [] ∨ (Gd true 18 t.1 ∧ t.1 ≠ [])) ∧ Gd false 15 t.2 ∧ GCs cs
/-- a law as it is read in both -/
def LW (s m c k : Nat) (J K : PI) : Prop := ∃ (cs : List (List (Nat × Nat) × List (Nat × Nat))) (e : Nat), GCs cs ∧ clR (J 17) m cs e ∧ J 6 2 = nI e ∧ e ≤ 120 ∧ moR K s c k cs ∧ K 43 s = nI (k + cs.length) ∧ k + cs.length ≤ 61
section LAWO
variable {N s n : Nat} {T : Nat → Nat} {L : PL}
theorem atEnd_J {p m c d : Nat} {I K : PI} (hN : 20000 ≤ N) (j : JS s n T p m c d I K) (hp : skp T n p = p) : ∃ (x : Int32) (J K' : PI), F_X6_readLaw_56 N I L = some (some (.int x), J, L) ∧ F_X12_readLaw_43 N K L = some (some (.int x), K', L) ∧ Kp d10 I J ∧ Kp d345 K K' := by
  obtain ⟨I1, K1, e1, f1, j1, c1, m1⟩ := j.nx (N := N) (L := L) hN hp
  unfold F_X6_readLaw_56 F_X12_readLaw_43 f_X12_atEnd
  have hn := j1.1.1
  rw [e1, bI_s, if_pos j.2.2.2.2.2.1, f1, bI_s]
  unfold cpC cpM
  by_cases h : p < n
  · have hb := (j1.1.2.2.2 p h).2.2
    rw [if_pos h, if_pos h, if_neg (fun z => by have := (nI_eq (b := 0) (by omega) (by omega)).mp z; omega), if_neg (m_ne' (by omega)), bad12 j1.2.2.2.2.1 j1.2.2.2.2.2.1, bV_s, bI_s, j1.2.2.2.1, uI_eq]
    exact ⟨_, _, _, rfl, rfl, c1, (d12_345 m1).up (by unfold d345; omega)⟩
  · rw [if_neg h, if_neg h, if_pos rfl, if_pos rfl, bI_s, j1.2.2.2.2.2.1]
    exact ⟨_, _, _, rfl, rfl, c1, d12_345 m1⟩
theorem lawLp (hN : 20000 ≤ N) : ∀ (t k l i p m c : Nat) (I K : PI), p + t = n → t < k → t < l → 2 * i ≤ p → JS s n T p m c 0 I K → K 43 s = nI i → ∃ (x : Int32) (J K' : PI), F_X6_readLaw_14 N k (nI i) I L = some (some (.int x), J, L) ∧ bV (f_X12_clause N K L) (fun I15 L16 => F_X12_readLaw_9 N l I15 L16) = some (some (.int x), K', L) ∧ KLC m I J ∧ KLN s c i K K' ∧ (x = -1 → LW s m c i J K') := by
  intro t
  induction t using Nat.strongRecOn with
  | ind t ih =>
    intro k l i p m c I K hi hk hl hip j h43
    obtain ⟨k, rfl⟩ : ∃ q, k = q + 1 := ⟨k - 1, by omega⟩
    obtain ⟨l, rfl⟩ : ∃ q, l = q + 1 := ⟨l - 1, by omega⟩
    have hs : s ≤ 6 := j.2.2.2.2.2.2.2.2.2.2.2.2.2
    have hn := j.1.1
    have hpn := j.2.2.1
    obtain ⟨x, J, K1, u1, u2, u3, u4, u5⟩ := clause_ok (N := N) (L := L) hN (show i < 90 by omega) j h43
    rw [F_X6_readLaw_14, show (120 : Int32) = nI 120 from rfl, if_neg (nI_ge (by omega) (by omega)), u1, bI_s, u2, bV_s, F_X12_readLaw_9]
    rcases u5 with ⟨ex, wc, wv, p', g1, g2, g3, g4, g5, g6, g7, g8, g9, g10, g11, g12, g13⟩ | jx
    · subst ex
      obtain ⟨q, I2, K2, hq, hpq, f1, j1, c1, m1, ht⟩ := g5.take (N := N) (L := L) (x := 59) (a := 59) hN rfl (by omega) (by omega)
      have hqn := j1.2.2.1
      have hp' := g5.2.2.1
      rw [if_neg ne_10, if_pos g5.2.2.2.2.2.1, f1, bI_s]
      have kc2 : KLC m I I2 := u3.tr (k10_LC (m := m) c1) (Nat.le_refl _)
      have km2 : KLN s c i K K2 := u4.tr (k345_LM (s := s) (c := c) (d12_345 m1)).ln (Nat.le_refl _) (Nat.le_refl _)
      rcases ht with ⟨hqn', hcp, ht⟩ | ⟨hcp, ht⟩
      · rw [ht, bI_s, if_neg ne_10, if_pos hcp, j1.2.2.2.2.1, nI_1, nmW_s, nI_1]
        have js := j1.step hqn'
        obtain ⟨I3, hI3⟩ : ∃ Q : PI, Q = uI I2 10 2 (nI (q + 1)) := ⟨_, rfl⟩
        obtain ⟨K3, hK3⟩ : ∃ Q : PI, Q = uI K2 12 3 (nI (q + 1)) := ⟨_, rfl⟩
        rw [← hI3, ← hK3] at js ⊢
        have c3 : Kp d10 J I3 := c1.tr (show Kp d10 I2 I3 from hI3 ▸ Kp.rf.up ⟨rfl, rfl⟩)
        have m3 : Kp d12 K1 K3 := m1.tr (show Kp d12 K2 K3 from hK3 ▸ Kp.rf.up ⟨rfl, rfl⟩)
        obtain ⟨y, J4, K4, v1, v2, v3, v4, v5⟩ := ih (n - (q + 1)) (by omega) k l (i + 1) (q + 1) _ _ I3 K3 (by omega) (by omega) (by omega) (by omega) js ((m3 43 s (by unfold d12; omega)).trans g6)
        refine ⟨y, J4, K4, v1, v2, (u3.tr (k10_LC (m := m) c3) (Nat.le_refl _)).tr v3 (by omega), (u4.tr (k345_LM (s := s) (c := c) (d12_345 m3)).ln (Nat.le_refl _) (Nat.le_refl _)).tr v4 (by omega) (by omega), fun hy => ?_⟩
        obtain ⟨cs, e, a1, a2, a3, a4, a5, a6, a7⟩ := v5 hy
        have el : (wc ++ wv).length = wc.length + wv.length := List.length_append
        refine ⟨(wc, wv) :: cs, e, ⟨g1, g2, a1⟩, ⟨?_, ?_, a2⟩, a3, a4, ⟨?_, ?_, ?_, ?_, ?_, a5⟩, ?_, ?_⟩
        · exact seg_cong (wc ++ wv) (fun j hj => (v3.2 j (by omega)).trans (c3 17 j (by unfold d10; omega))) g7
        · show J4 17 (m + (wc.length + wv.length)) = (if wc = [] then -121 else -63)
          exact ((v3.2 _ (by omega)).trans (c3 17 _ (by unfold d10; omega))).trans g8
        · exact ((v4.2.2.2 _ (by omega)).1).trans ((m3 44 _ (by unfold d12; omega)).trans g9)
        · exact ((v4.2.2.2 _ (by omega)).2.1).trans ((m3 45 _ (by unfold d12; omega)).trans g10)
        · exact ((v4.2.2.2 _ (by omega)).2.2).trans ((m3 46 _ (by unfold d12; omega)).trans g11)
        · exact seg_cong (wc ++ wv) (fun j hj => ((v4.2.1 j (by omega)).1).trans (m3 40 j (by unfold d12; omega))) g12
        · exact seg_cong (wc ++ wv) (fun j hj => ((v4.2.1 j (by omega)).2).trans (m3 41 j (by unfold d12; omega))) g13
        · rw [a6, List.length_cons, show i + 1 + cs.length = i + (cs.length + 1) by omega]
        · rw [List.length_cons]; omega
      · have hid : skp T n q = q := by rw [hq]; exact skp_id hp'
        obtain ⟨y, J4, K4, v1, v2, v3, v4⟩ := atEnd_J (N := N) (L := L) hN j1 hid
        rw [ht, bI_s, if_pos rfl, if_neg hcp, v1, v2]
        refine ⟨y, J4, K4, rfl, rfl, kc2.tr (k10_LC (m := m) v3) (Nat.le_refl _), km2.tr (k345_LM (s := s) (c := c) v4).ln (Nat.le_refl _) (Nat.le_refl _), fun _ => ?_⟩
        have hJ : Kp d10 J J4 := c1.tr v3
        have hK : Kp d345 K1 K4 := (d12_345 m1).tr v4
        refine ⟨[(wc, wv)], m + (wc.length + wv.length + 1), ⟨g1, g2, trivial⟩, ⟨?_, ?_, rfl⟩, ?_, ?_, ⟨?_, ?_, ?_, ?_, ?_, trivial⟩, ?_, ?_⟩
        · exact seg_cong (wc ++ wv) (fun j hj => hJ 17 j (by unfold d10; omega)) g7
        · exact (hJ 17 _ (by unfold d10; omega)).trans g8
        · exact (hJ 6 2 (by unfold d10; omega)).trans g5.2.2.2.2.2.2.1
        · have := g5.2.2.2.2.2.2.2.2.2.2.1; omega
        · exact (hK 44 _ (by unfold d345; omega)).trans g9
        · exact (hK 45 _ (by unfold d345; omega)).trans g10
        · exact (hK 46 _ (by unfold d345; omega)).trans g11
        · exact seg_cong (wc ++ wv) (fun j hj => hK 40 j (by unfold d345; omega)) g12
        · exact seg_cong (wc ++ wv) (fun j hj => hK 41 j (by unfold d345; omega)) g13
        · exact (hK 43 s (by unfold d345; omega)).trans g6
        · show i + 1 ≤ 61; omega
    · have hne := jx.ne
      rw [if_neg hne]
      unfold F_X12_readLaw_43
      rw [atEnd12' hne, bI_s]
      obtain ⟨p2, m2, c2, x1, x2, x3, x4, x5, x6, x7, x8, x9, x10, x11, x12⟩ := id jx
      have hx1 : ¬ nI p2 = -1 := m_ne' (by omega)
      by_cases hx : x = 0
      · rw [if_pos hx, x7, x8]
        exact ⟨_, J, K1, rfl, rfl, u3, u4, fun z => absurd z hx1⟩
      · obtain ⟨J', e, kk, jx3⟩ := jx.take (N := N) (L := L) (y := 59) (a := 59) hN hx rfl (by omega) (by omega) (by omega)
        have hd : isDg T n p2 = true := by
          rcases x12 with z | z
          · exact absurd z hx
          · exact z.2
        obtain ⟨p3, m3, c3, y1, y2, y3, y4, y5, y6, y7, y8, y9, y10, y11, y12⟩ := jx3
        have e23 : p3 = p2 := by
          have := y8.symm.trans x8
          have hn2 := y5.1
          exact (nI_eq (by omega) (by omega)).mp this
        subst e23
        obtain ⟨J4, e4, k4, q4⟩ := next10 (N := N) (L := L) hN y5 y2 y7
        rw [skp_dg hd] at e4 q4
        have hdt := isDg_t hd
        have ec : cpC T n p3 = nI (T p3) := if_pos hdt.1
        unfold F_X6_readLaw_56
        rw [if_neg hx, e, bI_s, if_pos rfl, e4, bI_s, ec, if_neg (fun z => by have := (nI_eq (b := 0) (by omega) (by omega)).mp z; omega), q4, x8]
        exact ⟨_, J4, K1, rfl, rfl, (u3.tr (k10_LC (m := m) kk) (Nat.le_refl _)).tr (k10_LC (m := m) k4) (Nat.le_refl _), u4, fun z => absurd z hx1⟩
def dLQ (a k : Nat) : Prop := dLN a k ∨ (a = 12 ∧ k = 14)
theorem readLaw_ok {I K : PI} (hN : 20000 ≤ N) (hs : s ≤ 6) (tI : TP I n T) (tK : TM K n T) : ∃ (x : Int32) (J K' : PI), f_X6_readLaw N I L = some (some (.int x), J, L) ∧ f_X12_readLaw N (nI s) K L = some (some (.int x), K', L) ∧ Kp dLC I J ∧ Kp dLQ K K' ∧ (∀ j, j < 260 * s → K' 40 j = K 40 j ∧ K' 41 j = K 41 j) ∧ (∀ j, j ≠ s → K' 42 j = K 42 j ∧ K' 43 j = K 43 j) ∧ (∀ j, j < 90 * s → K' 44 j = K 44 j ∧ K' 45 j = K 45 j ∧ K' 46 j = K 46 j) ∧ (x = -1 → LW s 0 0 0 J K') := by
  unfold f_X6_readLaw f_X12_readLaw f_X12_open f_X10_start
  rw [nmW_s, nmW_s, bV_s, nmW_s, nmW_s, nmW_s, nmW_s, gd_in (by omega) (by omega), nI_clamp (by omega), nmW_s, gd_in (by omega) (by omega), nmW_s, bV_s]
  have kI : KLC 0 I (uI (uI I 6 2 0) 10 2 0) := ⟨(Kp.rf.up (by unfold dLC; omega)).up (by unfold dLC; omega), fun j hj => by omega⟩
  obtain ⟨I1, hI1⟩ : ∃ Q : PI, Q = uI (uI I 6 2 0) 10 2 0 := ⟨_, rfl⟩
  obtain ⟨K1, hK1⟩ : ∃ Q : PI, Q = uI (uI (uI (uI (uI (uI K 12 14 (nI s)) 12 3 0) 12 4 (-1)) 12 5 0) 42 s 0) 43 s 0 := ⟨_, rfl⟩
  have kK : Kp dLQ K K1 := hK1 ▸ (((((Kp.rf.up (by unfold dLQ; omega)).up (by unfold dLQ dLN dLM; omega)).up (by unfold dLQ dLN dLM; omega)).up (by unfold dLQ dLN dLM; omega)).up (by unfold dLQ dLN dLM; omega)).up (by unfold dLQ dLN; omega)
  have o4 : ∀ a j, a = 40 ∨ a = 41 ∨ a = 44 ∨ a = 45 ∨ a = 46 → K1 a j = K a j := fun a j ha => by
    rw [hK1, uI_ne (by omega), uI_ne (by omega), uI_ne (by omega), uI_ne (by omega), uI_ne (by omega), uI_ne (by omega)]
  have o42 : ∀ j, j ≠ s → K1 42 j = K 42 j ∧ K1 43 j = K 43 j := fun j hj => by
    rw [hK1]
    refine ⟨?_, ?_⟩ <;> rw [uI_ne (by omega), uI_ne (by omega), uI_ne (by omega), uI_ne (by omega), uI_ne (by omega), uI_ne (by omega)]
  have js : JS s n T 0 0 0 0 I1 K1 := by
    refine ⟨tI.cong (fun a k q => by rw [hI1, uI_ne (by unfold dT at q; omega), uI_ne (by unfold dT at q; omega)]), tK.cong (fun a k q => by rw [hK1, uI_ne (by unfold dT at q; omega), uI_ne (by unfold dT at q; omega), uI_ne (by unfold dT at q; omega), uI_ne (by unfold dT at q; omega), uI_ne (by unfold dT at q; omega), uI_ne (by unfold dT at q; omega)]), Nat.zero_le _, by rw [hI1, uI_eq]; rfl, ?_, ?_, by rw [hI1, uI_ne (by omega), uI_eq]; rfl, ?_, ?_, ?_, Nat.le_refl _, Nat.le_refl _, by omega, hs⟩
    · rw [hK1, uI_ne (by omega), uI_ne (by omega), uI_ne (by omega), uI_ne (by omega), uI_eq]; rfl
    · rw [hK1, uI_ne (by omega), uI_ne (by omega), uI_ne (by omega), uI_eq]
    · rw [hK1, uI_ne (by omega), uI_ne (by omega), uI_ne (by omega), uI_ne (by omega), uI_ne (by omega), uI_eq]
    · rw [hK1, uI_ne (by omega), uI_eq]; rfl
    · rw [hK1, uI_ne (by omega), uI_ne (by omega), uI_eq]; rfl
  have hn := tI.1
  obtain ⟨x, J, K', g1, g2, g3, g4, g5⟩ := lawLp (N := N) (L := L) hN n N N 0 0 0 0 I1 K1 (by omega) (by omega) (by omega) (by omega) js (by rw [hK1, uI_eq]; rfl)
  rw [← hI1, ← hK1]
  refine ⟨x, J, K', g1, g2, (hI1 ▸ kI.1 : Kp dLC I I1).tr g3.1, kK.tr (g4.1.mono (fun a k q => Or.inl q)), fun j hj => ?_, fun j hj => ?_, fun j hj => ?_, g5⟩
  · exact ⟨((g4.2.1 j hj).1).trans (o4 40 j (by omega)), ((g4.2.1 j hj).2).trans (o4 41 j (by omega))⟩
  · exact ⟨((g4.2.2.1 j hj).1).trans (o42 j hj).1, ((g4.2.2.1 j hj).2).trans (o42 j hj).2⟩
  · exact ⟨((g4.2.2.2 j hj).1).trans (o4 44 j (by omega)), ((g4.2.2.2 j hj).2.1).trans (o4 45 j (by omega)), ((g4.2.2.2 j hj).2.2).trans (o4 46 j (by omega))⟩
end LAWO
