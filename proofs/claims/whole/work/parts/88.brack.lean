def d35 (a k : Nat) : Prop := a = 12 ∧ (k = 3 ∨ k = 5)
section LAWB
variable {N s n : Nat} {T : Nat → Nat} {L : PL}
theorem isDg_ch {p a : Nat} (h : isDg T n p = true) (ha : a < 48 ∨ 57 < a) : isCh T n p a = false := decide_eq_false (fun q => by have := isDg_t h; omega)
theorem JX.ne {p m c : Nat} {x : Int32} {J K : PI} (h : JX s n T p m c x J K) : K 12 4 ≠ -1 := by
  obtain ⟨p', m', c', h1, h2, h3, h4, h5, h6, h7, h8, h9⟩ := h
  have := h5.1
  rw [h8]; exact m_ne' (by omega)
theorem JX.km {p m c : Nat} {x : Int32} {J K K2 : PI} (h : JX s n T p m c x J K) (hs : s ≤ 6) (hk : Kp d35 K K2) : JX s n T p m c x J K2 := by
  obtain ⟨p', m', c', h1, h2, h3, h4, h5, h6, h7, h8, h9, h10, h11, h12⟩ := h
  exact ⟨p', m', c', h1, h2, h3, h4, h5, h6.cong (fun a k q => hk a k (by unfold dT at q; unfold d35; omega)), h7, (hk 12 4 (by unfold d35; omega)).trans h8, h9, (hk 12 14 (by unfold d35; omega)).trans h10, (hk 42 s (by unfold d35; omega)).trans h11, h12⟩
theorem JX.z {p m c : Nat} {x : Int32} {J K : PI} (h : JX s n T p m c x J K) : JX s n T p m c 0 J K := by
  obtain ⟨p', m', c', h1, h2, h3, h4, h5, h6, h7, h8, h9, h10, h11, h12⟩ := h
  exact ⟨p', m', c', h1, h2, h3, h4, h5, h6, h7, h8, h9, h10, h11, Or.inl rfl⟩
/-- before a fifth digit, the class looks on -/
theorem JX.nx {p m c : Nat} {x : Int32} {J K : PI} (hN : 20000 ≤ N) (h : JX s n T p m c x J K) (hx : x ≠ 0) : ∃ (J' : PI) (q : Nat), f_X10_next N J L = some (some (.int (cpC T n q)), J', L) ∧ isDg T n q = true ∧ Kp d10 J J' ∧ JX s n T p m c 1 J' K ∧ J' 10 2 = nI q ∧ TP J' n T := by
  obtain ⟨p', m', c', h1, h2, h3, h4, h5, h6, h7, h8, h9, h10, h11, h12⟩ := h
  have hd : isDg T n p' = true := by
    rcases h12 with h | h
    · exact absurd h hx
    · exact h.2
  obtain ⟨J', e, k, q⟩ := next10 (N := N) (L := L) hN h5 h2 h7
  rw [skp_dg hd] at e q
  exact ⟨J', p', e, hd, k, ⟨p', m', c', h1, h2, h3, h4, h5.cong (d10_dT k), h6, q, h8, (k 6 2 (by unfold d10; omega)).trans h9, h10, h11, Or.inr ⟨rfl, hd⟩⟩, q, h5.cong (d10_dT k)⟩
theorem JX.take {p m c a : Nat} {x y : Int32} {J K : PI} (hN : 20000 ≤ N) (h : JX s n T p m c x J K) (hx : x ≠ 0) (hy : y = nI a) (ha : a < 48 ∨ 57 < a) (h1 : 1 ≤ a) (h2 : a < 2 ^ 31) : ∃ J', f_X10_take N y J L = some (some (.int 0), J', L) ∧ Kp d10 J J' ∧ JX s n T p m c 0 J' K := by
  obtain ⟨J', q, e, hd, k, jx, -, t⟩ := h.nx (N := N) (L := L) hN hx
  unfold f_X10_take
  rw [e, bI_s, if_neg (chC_n t (isDg_ch hd ha) hy h1 h2), gd_k0]
  exact ⟨J', rfl, k, jx.z⟩
theorem OUT.of {lg : Bool} {r r' p0 p m c d : Nat} {I0 K0 I K J K' : PI} {x : Int32} (h : OUT lg r s n T p m c d I K x J K') (k1 : KLC m I0 I) (k2 : KLM s c K0 K) (hp : p0 ≤ p) (hr : r ≤ r') : OUT lg r' s n T p0 m c d I0 K0 x J K' := by
  obtain ⟨h1, h2, h3⟩ := h
  refine ⟨k1.tr h1 (Nat.le_refl _), k2.tr h2 (Nat.le_refl _), ?_⟩
  rcases h3 with ⟨e, h3⟩ | h3
  · exact Or.inl ⟨e, h3.of hp hr⟩
  · exact Or.inr (h3.of hp (by omega) (by omega))
theorem closes_20s {K : PI} {p d : Nat} (h : K 12 3 = nI p) (h2 : K 12 5 = nI d) (h1 : 1 ≤ d) : F_X12_closes_20 N K L = some (none, uI (uI K 12 3 (nI (p + 1))) 12 5 (nI (d - 1)), L) := by
  unfold F_X12_closes_20
  rw [h, nI_1, nmW_s, uI_ne (by omega), h2, nsub1 h1, nmW_s]
theorem closes_20x {K : PI} : ∃ K2, F_X12_closes_20 N K L = some (none, K2, L) ∧ Kp d35 K K2 := by
  unfold F_X12_closes_20
  rw [nmW_s, nmW_s]
  exact ⟨_, rfl, (Kp.rf.up (by unfold d35; omega)).up (by unfold d35; omega)⟩
theorem d35_345 {I J : PI} (h : Kp d35 I J) : Kp d345 I J := h.mono (fun a k q => by unfold d35 at q; unfold d345; omega)
/-- a bracket shut, in both -/
theorem close_ok {lg : Bool} {r p m c d a : Nat} {I K J K' : PI} {x y : Int32} (hN : 20000 ≤ N) (hs : s ≤ 6) (hd : d < 6) (hy : y = nI a) (ha : a < 48 ∨ 57 < a) (ha1 : 1 ≤ a) (ha2 : a < 2 ^ 31) (o : OUT lg r s n T p m c (d + 1) I K x J K') : ∃ (x2 : Int32) (J2 K2 : PI), (if x = 0 then gd (decide (0 &&& 1 = 0)) (some (some (.int 0), J, L)) else bI (f_X10_take N y J L) (fun x19 I20 L21 => (if x19 = 0 then gd (decide (0 &&& 1 = 0)) (some (some (.int 0), I20, L21)) else gd (decide (1 &&& 1 = 1)) (some (some (.int 1), I20, L21))))) = some (some (.int x2), J2, L) ∧ f_X12_closes N y K' L = some (none, K2, L) ∧ (x2 = 0 ∨ x2 = 1) ∧ OUT lg r s n T p m c d I K x2 J2 K2 := by
  obtain ⟨k1, k2, h⟩ := o
  rcases h with ⟨hx, w, p', g1, g2, g3, g4, g5, g6, g7⟩ | h
  · subst hx
    rw [if_neg ne_10]
    obtain ⟨J1, K1, e1, f1, j1, c1, m1⟩ := g4.next (N := N) (L := L) hN
    have hw : K' 12 4 = -1 := g4.2.2.2.2.2.1
    have hsk := skp_le (T := T) g4.2.2.1
    obtain ⟨q, hq⟩ : ∃ q, q = skp T n p' := ⟨_, rfl⟩
    rw [← hq] at e1 f1 j1 hsk
    have j1' := j1
    obtain ⟨h1, h2, h3, h4, h5, h6, h7, h8, h9, h10, h11, h12, h13, h14⟩ := j1
    unfold f_X10_take f_X12_closes
    rw [e1, bI_s, if_pos hw, f1, bI_s]
    have s17 : seg (J1 17) eC m w := seg_cong w (fun j _ => c1 17 j (by unfold d10; omega)) g5
    have s40 : seg (K1 40) (fun t => nI t.1) (260 * s + c) w := seg_cong w (fun j _ => m1 40 j (by unfold d12; omega)) g6
    have s41 : seg (K1 41) (fun t => nI t.2) (260 * s + c) w := seg_cong w (fun j _ => m1 41 j (by unfold d12; omega)) g7
    cases hc : isCh T n q a with
    | true =>
      have hqn := isCh_n hc
      rw [if_pos (chC_y h1 hc hy ha1 ha2), step10 h1 hqn h4, bV_s, gd_k1, bI_s, if_neg ne_10, gd_k1, if_pos (chM_y h2 hc hy ha2), closes_20s h5 h10 (by omega)]
      refine ⟨1, _, _, rfl, rfl, Or.inr rfl, k1.tr (k10_LC (m := m) (c1.tr (Kp.rf.up ⟨rfl, rfl⟩))) (Nat.le_refl _), k2.tr (k345_LM (c := c) ((d12_345 m1).tr ((Kp.rf.up (by unfold d345; omega)).up (by unfold d345; omega)))) (Nat.le_refl _), Or.inl ⟨rfl, w, q + 1, g1, by omega, by omega, ?_, seg_cong w (fun j _ => uI_ne (by omega)) s17, seg_cong w (fun j _ => by rw [uI_ne (by omega), uI_ne (by omega)]) s40, seg_cong w (fun j _ => by rw [uI_ne (by omega), uI_ne (by omega)]) s41⟩⟩
      obtain ⟨i1, i2, i3, i4, i5, i6, i7, i8, i9, i10, i11, i12, i13, i14⟩ := j1'.step hqn
      exact ⟨i1, i2.cong (fun a k q => uI_ne (by unfold dT at q; omega)), i3, i4, (uI_ne (by omega)).trans i5, (uI_ne (by omega)).trans i6, i7, (uI_ne (by omega)).trans i8, (uI_ne (by omega)).trans i9, uI_eq, i11, i12, by omega, i14⟩
    | false =>
      rw [if_neg (chC_n h1 hc hy ha1 ha2), gd_k0, bI_s, if_pos rfl, gd_k0, if_neg (chM_n h2 hc hy ha2), bad12 h5 h6, bV_s]
      obtain ⟨K2, e2, q2⟩ := closes_20x (N := N) (L := L) (K := uI K1 12 4 (nI q))
      refine ⟨0, _, K2, rfl, e2, Or.inl rfl, k1.tr (k10_LC (m := m) c1) (Nat.le_refl _), k2.tr (k345_LM (c := c) (((d12_345 m1).up (by unfold d345; omega)).tr (d35_345 q2))) (Nat.le_refl _), Or.inr ?_⟩
      exact ((j1'.bad).of (by omega) (by omega) (by omega)).km hs q2
  · unfold f_X12_closes
    rw [if_neg h.ne]
    obtain ⟨K2, e2, q2⟩ := closes_20x (N := N) (L := L) (K := K')
    have k2' := k2.tr (k345_LM (c := c) (d35_345 q2)) (Nat.le_refl _)
    by_cases hx : x = 0
    · rw [if_pos hx, gd_k0]
      exact ⟨0, J, K2, rfl, e2, Or.inl rfl, k1, k2', Or.inr (h.z.km hs q2)⟩
    · obtain ⟨J', e, k, jx⟩ := h.take (N := N) (L := L) hN hx hy ha ha1 ha2
      rw [if_neg hx, e, bI_s, if_pos rfl, gd_k0]
      exact ⟨0, J', K2, rfl, e2, Or.inl rfl, k1.tr (k10_LC (m := m) k) (Nat.le_refl _), k2', Or.inr (jx.km hs q2)⟩
/-- one deeper, in both -/
theorem deeper_ok {p m c d : Nat} {I K : PI} (hs : s ≤ 6) (j : JS s n T p m c d I K) (hp : p < n) : (d < 6 ∧ ∃ (J K' : PI), f_X6_goesDeeper N (nI d) I L = some (some (.int 1), J, L) ∧ f_X12_opens N K L = some (none, K', L) ∧ JS s n T (p + 1) m c (d + 1) J K' ∧ Kp d10 I J ∧ Kp d345 K K') ∨ (d = 6 ∧ ∃ K' : PI, f_X6_goesDeeper N (nI d) I L = some (some (.int 0), I, L) ∧ f_X12_opens N K L = some (none, K', L) ∧ K' 12 4 ≠ -1 ∧ JX s n T p m c 0 I K' ∧ Kp d345 K K') := by
  have j' := j
  obtain ⟨h1, h2, h3, h4, h5, h6, h7, h8, h9, h10, h11, h12, h13, h14⟩ := j
  unfold f_X6_goesDeeper f_X12_opens
  rw [h10, show (6 : Int32) = nI 6 from rfl]
  by_cases hd : d < 6
  · left
    rw [if_pos (nI_lt hd (by omega)), step10 h1 hp h4, bV_s, gd_k1, if_neg (fun q => by have := (nI_eq (b := 6) (by omega) (by omega)).mp q; omega)]
    unfold F_X12_opens_13
    rw [h10, nI_1, nmW_s, uI_ne (by omega), h5, nI_1, nmW_s]
    refine ⟨hd, _, _, rfl, rfl, ?_, Kp.rf.up ⟨rfl, rfl⟩, (Kp.rf.up (by unfold d345; omega)).up (by unfold d345; omega)⟩
    exact ⟨h1.cong (d10_dT (Kp.rf.up ⟨rfl, rfl⟩)), h2.cong (fun a k q => by rw [uI_ne (by unfold dT at q; omega), uI_ne (by unfold dT at q; omega)]), hp, uI_eq, uI_eq, by rw [uI_ne (by omega), uI_ne (by omega), h6], by rw [uI_ne (by omega), h7], by rw [uI_ne (by omega), uI_ne (by omega), h8], by rw [uI_ne (by omega), uI_ne (by omega), h9], by rw [uI_ne (by omega), uI_eq], by omega, by omega, by omega, h14⟩
  · right
    have e6 : d = 6 := by omega
    rw [if_neg (nI_nlt (by omega) (by omega)), gd_k0, if_pos (by rw [e6]), bad12 h5 h6, bV_s]
    unfold F_X12_opens_13
    rw [nmW_s, nmW_s]
    have hn := h1.1
    refine ⟨e6, _, rfl, rfl, ?_, ?_, ((Kp.rf.up (by unfold d345; omega)).up (by unfold d345; omega)).up (by unfold d345; omega)⟩
    · rw [uI_ne (by omega), uI_ne (by omega), uI_eq]; exact m_ne' (by omega)
    · exact j'.bad.km hs ((Kp.rf.up (by unfold d35; omega)).up (by unfold d35; omega))
theorem gd_b0 {o : RES} : gd (decide (0 &&& 1 = 0)) o = o := gd_k0
end LAWB
