section LAWD
variable {N s n : Nat} {T : Nat → Nat} {L : PL}
theorem joins3 {x : Int32} {I : PI} : f_X6_joins N 3 x I L = some (some (.int (if x = 42 then 1 else if x = 47 then 1 else 0)), I, L) := by
  show (if x = 42 then F_X6_joins_82 N I L else (if x = 47 then F_X6_joins_82 N I L else gd (decide (0 &&& 1 = 0)) (some (some (.int 0), I, L)))) = _
  unfold F_X6_joins_82
  rw [gd_k1, gd_k0]
  by_cases h : x = 42
  · rw [if_pos h, if_pos h]
  · rw [if_neg h, if_neg h]
    by_cases h2 : x = 47
    · rw [if_pos h2, if_pos h2]
    · rw [if_neg h2, if_neg h2]
theorem joins2 {x : Int32} {I : PI} : f_X6_joins N 2 x I L = some (some (.int (if x = 43 then 1 else if x = 45 then 1 else 0)), I, L) := by
  show (if x = 43 then F_X6_joins_64 N I L else (if x = 45 then F_X6_joins_64 N I L else gd (decide (0 &&& 1 = 0)) (some (some (.int 0), I, L)))) = _
  unfold F_X6_joins_64
  rw [gd_k1, gd_k0]
  by_cases h : x = 43
  · rw [if_pos h, if_pos h]
  · rw [if_neg h, if_neg h]
    by_cases h2 : x = 45
    · rw [if_pos h2, if_pos h2]
    · rw [if_neg h2, if_neg h2]
theorem joins1 {x : Int32} {I : PI} : f_X6_joins N 1 x I L = some (some (.int (if x = 38 then 1 else 0)), I, L) := by
  show (if x = 38 then gd (decide (1 &&& 1 = 1)) (some (some (.int 1), I, L)) else gd (decide (0 &&& 1 = 0)) (some (some (.int 0), I, L))) = _
  rw [gd_k1, gd_k0]
  by_cases h : x = 38
  · rw [if_pos h, if_pos h]
  · rw [if_neg h, if_neg h]
theorem joins0 {x : Int32} {I : PI} : f_X6_joins N 0 x I L = some (some (.int (if x = 124 then 1 else 0)), I, L) := by
  show (if x = 124 then gd (decide (1 &&& 1 = 1)) (some (some (.int 1), I, L)) else gd (decide (0 &&& 1 = 0)) (some (some (.int 0), I, L))) = _
  rw [gd_k1, gd_k0]
  by_cases h : x = 124
  · rw [if_pos h, if_pos h]
  · rw [if_neg h, if_neg h]
/-- at a fault the model writes on, and the class too before a fifth digit -/
theorem JX.put {p0 m0 c0 p m c : Nat} {x e a b : Int32} {J K : PI} (hs : s ≤ 6) (h : JX s n T p m c x J K) (hp : p0 ≤ p) (h1 : m0 ≤ p0 ∧ c0 ≤ p0) (hm : m0 ≤ m ∧ m + 1 + p0 ≤ m0 + p) (hc : c0 ≤ c ∧ c + 1 + p0 ≤ c0 + p) : ∃ (J' K' : PI), f_X12_put N a b K L = some (none, K', L) ∧ f_X6_makeSign N e J L = some (none, J', L) ∧ KLC m J J' ∧ KLM s c K K' ∧ JX s n T p0 m0 c0 0 J K' ∧ (x ≠ 0 → JX s n T p0 m0 c0 1 J' K') ∧ K' 12 4 ≠ -1 := by
  have hne := h.ne
  obtain ⟨p', m', c', g1, g2, g3, g4, g5, g6, g7, g8, g9, g10, g11, g12⟩ := h
  have hn := g5.1
  have kM := putK (s := s) (c := c') (a := a) (b := b) (K := K)
  have kC := makeK (m := m') (a := -e) (I := J)
  have t6 := g6.cong (dT_LM kM.1)
  have w4 : (uI (uI (uI K 40 (260 * s + c') a) 41 (260 * s + c') b) 42 s (nI (c' + 1))) 12 4 = K 12 4 := by rw [uI_ne (by omega), uI_ne (by omega), uI_ne (by omega)]
  have w14 : (uI (uI (uI K 40 (260 * s + c') a) 41 (260 * s + c') b) 42 s (nI (c' + 1))) 12 14 = K 12 14 := by rw [uI_ne (by omega), uI_ne (by omega), uI_ne (by omega)]
  refine ⟨_, _, putM_s hs g10 g11 (by omega), makeSign_s g9 (by omega), KLC.rf.tr kC (by omega), KLM.rf.tr kM (by omega), ⟨p', m', c' + 1, by omega, g2, by omega, by omega, g5, t6, g7, w4.trans g8, g9, w14.trans g10, uI_eq, Or.inl rfl⟩, fun hx => ⟨p', m' + 1, c' + 1, by omega, g2, by omega, by omega, g5.cong (dT_LC kC.1), t6, by rw [uI_ne (by omega), uI_ne (by omega), g7], w4.trans g8, uI_eq, w14.trans g10, uI_eq, ?_⟩, fun q => hne (w4.symm.trans q)⟩
  rcases g12 with g | g
  · exact absurd g hx
  · exact Or.inr ⟨rfl, g.2⟩
/-- what was read, and one joined to it -/
theorem JW.join {p0 p1 m c d r k : Nat} {x : Int32} {w : List (Nat × Nat)} {lg lg2 : Bool} {J K : PI} (hw : p0 < p1) (hl : w.length + p0 ≤ p1) (j : JW lg2 r s n T (p1 + 1) (m + w.length) (c + w.length) d J K) (hm : m ≤ p0) (hc : c ≤ p0) (hk : 2 ≤ k) (sC : seg (J 17) eC m w) (s0 : seg (K 40) (fun t => nI t.1) (260 * s + c) w) (s1 : seg (K 41) (fun t => nI t.2) (260 * s + c) w) (hg : ∀ u : List (Nat × Nat), Gd lg2 r u → Gd lg (r + 1) (w ++ (u ++ [(k, 0)]))) (hx : x = nI (chT (k, 0))) : ∃ (J' K' : PI) (p' : Nat) (u : List (Nat × Nat)), f_X6_makeSign N x J L = some (none, J', L) ∧ f_X12_put N (nI k) 0 K L = some (none, K', L) ∧ p1 < p' ∧ u.length + p0 ≤ p' ∧ Gd lg (r + 1) u ∧ JS s n T p' (m + u.length) (c + u.length) d J' K' ∧ seg (J' 17) eC m u ∧ seg (K' 40) (fun t => nI t.1) (260 * s + c) u ∧ seg (K' 41) (fun t => nI t.2) (260 * s + c) u ∧ KLC m J J' ∧ KLM s c K K' := by
  obtain ⟨v, p', g1, g2, g3, g4, g5, g6, g7⟩ := j
  have g4' := g4
  obtain ⟨h1, h2, h3, h4, h5, h6, h7, h8, h9, h10, h11, h12, h13, h14⟩ := g4
  have hn := h1.1
  have el : (w ++ (v ++ [(k, 0)])).length = w.length + v.length + 1 := by rw [List.length_append, List.length_append]; rfl
  have kC := makeK (m := m + w.length + v.length) (a := -x) (I := J)
  have kM := putK (s := s) (c := c + w.length + v.length) (a := nI k) (b := 0) (K := K)
  refine ⟨_, _, p', w ++ (v ++ [(k, 0)]), makeSign_s h7 (by omega), putM_s h14 h8 h9 (by omega), by omega, by omega, hg v g1, ?_, ?_, ?_, ?_, KLC.rf.tr kC (by omega), KLM.rf.tr kM (by omega)⟩
  · rw [el, show m + (w.length + v.length + 1) = m + w.length + v.length + 1 by omega, show c + (w.length + v.length + 1) = c + w.length + v.length + 1 by omega]
    exact g4'.write (by omega) (by omega)
  · refine seg_app w (seg_cong w (fun j hj => kC.2 j (by omega)) sC) (seg_app v (seg_cong v (fun j hj => kC.2 j hj) g5) (seg_one ?_))
    rw [uI_ne (by omega), uI_eq, hx]
    unfold eC
    rw [if_neg (by show ¬ k = 0; omega)]
  · refine seg_app w (seg_cong w (fun j hj => (kM.2.1 j (by omega)).1) s0) ?_
    rw [show 260 * s + c + w.length = 260 * s + (c + w.length) by omega]
    refine seg_app v (seg_cong v (fun j hj => (kM.2.1 j (by omega)).1) g6) (seg_one ?_)
    rw [uI_ne (by omega), uI_ne (by omega), show 260 * s + (c + w.length) + v.length = 260 * s + (c + w.length + v.length) by omega, uI_eq]
  · refine seg_app w (seg_cong w (fun j hj => (kM.2.1 j (by omega)).2) s1) ?_
    rw [show 260 * s + c + w.length = 260 * s + (c + w.length) by omega]
    refine seg_app v (seg_cong v (fun j hj => (kM.2.1 j (by omega)).2) g7) (seg_one ?_)
    rw [uI_ne (by omega), show 260 * s + (c + w.length) + v.length = 260 * s + (c + w.length + v.length) by omega, uI_eq]
    rfl
end LAWD
