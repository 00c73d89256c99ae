/-! windows of cells, in both -/
section WIN
variable {N : Nat} {L : PL} {I J : PI} {p n g s o : Nat} {v : Nat → Nat}
/-- what a finding may change -/
def dF (a k : Nat) : Prop := a = 33 ∨ (a = 5 ∧ k = 3) ∨ a = 59
theorem dF_free : Free dF := fun a k h => by unfold dF at h; unfold dT dS dR dD dE dZ dX dC; omega
def CWS (I : PI) (p n : Nat) (v : Nat → Nat) : Prop := p < 31 ∧ n ≤ 40 ∧ I 2 4 = nI p ∧ I 31 p = nI n ∧ I 55 0 = nI n ∧ ∀ k, k < n → I 30 (40 * p + k) = nI (v k) ∧ I 55 (k + 1) = nI (v k) ∧ v k ≤ 999
def WP (I : PI) (g s o : Nat) : Prop := g ≤ 3 ∧ 1 ≤ s ∧ s ≤ 8 ∧ 1 ≤ o ∧ o ≤ 16 ∧ I 13 2 = nI g ∧ I 13 3 = nI s ∧ I 13 4 = nI o ∧ I 12 34 = nI g ∧ I 12 35 = nI s ∧ I 12 36 = nI o ∧ I 13 5 = I 12 37
theorem CWS.cong (h : Kp dF I J) (r : CWS I p n v) : CWS J p n v := by
  obtain ⟨h1, h2, h3, h4, h5, h6⟩ := r
  refine ⟨h1, h2, (h 2 4 (by unfold dF; omega)).trans h3, (h 31 p (by unfold dF; omega)).trans h4, (h 55 0 (by unfold dF; omega)).trans h5, fun k hk => ?_⟩
  rw [h 30 _ (by unfold dF; omega), h 55 _ (by unfold dF; omega)]
  exact h6 k hk
theorem WP.cong (h : Kp dF I J) (r : WP I g s o) : WP J g s o := by
  obtain ⟨h1, h2, h3, h4, h5, h6, h7, h8, h9, h10, h11, h12⟩ := r
  refine ⟨h1, h2, h3, h4, h5, (h 13 2 (by unfold dF; omega)).trans h6, (h 13 3 (by unfold dF; omega)).trans h7, (h 13 4 (by unfold dF; omega)).trans h8, (h 12 34 (by unfold dF; omega)).trans h9, (h 12 35 (by unfold dF; omega)).trans h10, (h 12 36 (by unfold dF; omega)).trans h11, ?_⟩
  rw [h 13 5 (by unfold dF; omega), h 12 37 (by unfold dF; omega)]
  exact h12
theorem sortLp5 {w : Nat → Nat} {x m : Nat} (hm : m < 16) (hx : x ≤ 999) (hw : ∀ a, a < m → w a ≤ 999) : ∀ (i k : Nat) (I : PI), i ≤ m → i < k → (∀ a, a < i → I 33 a = nI (w a)) → (∀ a, i < a → a ≤ m → I 33 a = nI (w (a - 1))) → (∀ a, i ≤ a → a < m → x < w a) → I 5 3 = nI m → ∃ (J : PI) (i' : Nat), F_X5_sortIn_35 N k (nI x) (nI i) I L = some (none, J, L) ∧ Kp dF I J ∧ J 5 3 = nI (m + 1) ∧ i' ≤ m ∧ (i' = 0 ∨ w (i' - 1) ≤ x) ∧ (∀ a, i' ≤ a → a < m → x < w a) ∧ ∀ a, a ≤ m → J 33 a = nI (insAt w i' x a) := by
  have stop : ∀ (i : Nat) (I : PI), i ≤ m → (∀ a, a < i → I 33 a = nI (w a)) → (∀ a, i < a → a ≤ m → I 33 a = nI (w (a - 1))) → (∀ a, i ≤ a → a < m → x < w a) → I 5 3 = nI m → (i = 0 ∨ w (i - 1) ≤ x) → ∃ (J : PI) (i' : Nat), F_X5_sortIn_71 N (nI x) (nI i) I L = some (none, J, L) ∧ Kp dF I J ∧ J 5 3 = nI (m + 1) ∧ i' ≤ m ∧ (i' = 0 ∨ w (i' - 1) ≤ x) ∧ (∀ a, i' ≤ a → a < m → x < w a) ∧ ∀ a, a ≤ m → J 33 a = nI (insAt w i' x a) := by
    intro i I hi h1 h2 h3 h4 hst
    refine ⟨uI (uI I 33 i (nI x)) 5 3 (nI (m + 1)), i, ?_, (Kp.rf.up (by unfold dF; omega)).up (by unfold dF; omega), uI_eq, hi, hst, h3, fun a ha => ?_⟩
    · unfold F_X5_sortIn_71
      rw [gd_in (by omega) (by omega), nI_clamp (by omega), nmW_s, uI_ne (by omega), h4, nI_1, nmW_s]
    · rw [uI_ne (by omega)]
      by_cases e1 : a < i
      · rw [uI_ne (by omega), insAt_lt e1]; exact h1 a e1
      · by_cases e2 : a = i
        · subst e2; rw [uI_eq, insAt_eq]
        · rw [uI_ne (by omega), insAt_gt (by omega)]; exact h2 a (by omega) ha
  intro i
  induction i with
  | zero =>
    intro k I hi hk h1 h2 h3 h4
    obtain ⟨k, rfl⟩ : ∃ q, k = q + 1 := ⟨k - 1, by omega⟩
    rw [F_X5_sortIn_35, if_pos (show nI 0 ≤ 0 from nI_le (a := 0) (b := 0) (Nat.le_refl 0) (by decide))]
    exact stop 0 I hi h1 h2 h3 h4 (Or.inl rfl)
  | succ i ih =>
    intro k I hi hk h1 h2 h3 h4
    obtain ⟨k, rfl⟩ : ∃ q, k = q + 1 := ⟨k - 1, by omega⟩
    rw [F_X5_sortIn_35, if_neg (nI_nle (by omega) (by omega)), nI_pred, gd_in (by omega) (by omega), nI_clamp (by omega), h1 i (by omega)]
    by_cases hle : w i ≤ x
    · rw [if_pos (nI_le hle (by omega))]
      exact stop (i + 1) I hi h1 h2 h3 h4 (Or.inr hle)
    · have := hw i (by omega)
      rw [if_neg (nI_ge (by omega) (by omega)), gd_in (by omega) (by omega), gd_in (by omega) (by omega), nI_clamp (by omega), nmW_s, pk_m1]
      obtain ⟨J, i', g1, g2, g3⟩ := ih k (uI I 33 (i + 1) (nI (w i))) (by omega) (by omega) (fun a ha => by rw [uI_ne (by omega)]; exact h1 a (by omega)) (fun a ha hb => by
        by_cases e : a = i + 1
        · subst e; rw [uI_eq]; rfl
        · rw [uI_ne (by omega)]; exact h2 a (by omega) hb) (fun a ha hb => by
        by_cases e : a = i
        · subst e; omega
        · exact h3 a (by omega) hb) (by rw [uI_ne (by omega)]; exact h4)
      exact ⟨J, i', g1, (Kp.rf.up (by unfold dF; omega)).tr g2, g3⟩
theorem sortIn5_s {a : Int32} {m x : Nat} {C : Nat → Nat} {P : Prop} [Decidable P] (hN : 20000 ≤ N) (ws : CWS I p n v) (hm : m < 16) (h5 : I 5 3 = nI m) (hW : Wn I 33 m C) (hP : P → x < n ∧ a = nI x) (hQ : ¬ P → hz a n = false) : ∃ (J : PI) (m' : Nat), f_X5_sortIn N a I L = some (none, J, L) ∧ Kp dF I J ∧ m' ≤ m + 1 ∧ J 5 3 = nI m' ∧ Wn J 33 m' (fun t => C t + one1 P (decide (v x ≤ t))) := by
  obtain ⟨h1, h2, h3, h4, h5', h6⟩ := ws
  have hh : f_X2_has N a I L = some (some (.int (bif hz a n then 1 else 0)), I, L) := has2_s h1 h2 h3 h4
  by_cases hp : P
  · obtain ⟨hx, rfl⟩ := hP hp
    obtain ⟨q1, -, q3⟩ := h6 x hx
    obtain ⟨w, w1, w2, w3⟩ := hW
    obtain ⟨J, i', g1, g2, g3, g4, g5, g6, g7⟩ := sortLp5 (N := N) (L := L) hm q3 (fun a ha => (w2 a ha).2) m N I (Nat.le_refl m) (by omega) (fun a ha => (w2 a ha).1) (fun a ha hb => by omega) (fun a ha hb => by omega) h5
    refine ⟨J, m + 1, ?_, g2, Nat.le_refl _, g3, (Wn.ins w1 (fun a ha => (w2 a ha).2) w3 g4 q3 g5 g6 g7).cong (fun _ _ => rfl) (fun t => ?_)⟩
    · unfold f_X5_sortIn
      rw [hh, bI_s, ifz_t (hz_t hx (by omega)), h5, ni16, if_pos (nI_lt hm (by omega)), value2_s h1 h2 hx h3 h4, bI_s, nmI_s, h5, q1]
      exact g1
    · unfold one1
      rw [decide_eq_true hp]; rfl
  · refine ⟨I, m, ?_, Kp.rf, by omega, h5, hW.cong (fun _ _ => rfl) (fun t => ?_)⟩
    · unfold f_X5_sortIn
      rw [hh, bI_s, ifz_f (hQ hp)]
    · unfold one1
      rw [decide_eq_false hp]; rfl
theorem hz_neg {c f : Nat} (hc : c < 2 ^ 30) (hf : f < 2 ^ 30) (hn : n < 2 ^ 31) (h : c < f) : hz (nI c - nI f) n = false := by
  cases hw : hz (nI c - nI f) n with
  | false => rfl
  | true =>
    obtain ⟨j, h1, h2⟩ := (hz_iff hn).mp hw
    have h3 := pk_sneg hf h
    rw [h2] at h3
    exact absurd h3 (nI_pos (by omega))
theorem openLp {c : Nat} (hN : 20000 ≤ N) (hc : c < n) (hg : g ≤ 3) (hs : s ≤ 8) : ∀ (t k i m : Nat) (I : PI), i + t = s → t < k → CWS I p n v → m ≤ 2 * i → I 5 3 = nI m → Wn I 33 m (fun y => Dn c n g (fun o => decide (v o ≤ y)) i) → ∃ (J : PI) (m' : Nat), F_X5_openWindow_31 N k (nI c) (nI (g + s)) (nI (g + 1 + i)) I L = some (none, J, L) ∧ Kp dF I J ∧ m' ≤ 16 ∧ J 5 3 = nI m' ∧ Wn J 33 m' (fun y => Dn c n g (fun o => decide (v o ≤ y)) s) := by
  intro t
  induction t with
  | zero =>
    intro k i m I hi hk ws hm h5 hW
    obtain ⟨k, rfl⟩ : ∃ q, k = q + 1 := ⟨k - 1, by omega⟩
    obtain rfl : i = s := by omega
    rw [F_X5_openWindow_31, if_pos (nI_lt (by omega) (by omega))]
    exact ⟨I, m, rfl, Kp.rf, by omega, h5, hW⟩
  | succ t ih =>
    intro k i m I hi hk ws hm h5 hW
    obtain ⟨k, rfl⟩ : ∃ q, k = q + 1 := ⟨k - 1, by omega⟩
    have hn := ws.2.1
    obtain ⟨J1, m1, e1, k1, b1, d1, W1⟩ := sortIn5_s (L := L) (a := nI c - nI (g + 1 + i)) (x := c - (g + 1 + i)) (P := g + 1 + i ≤ c) hN ws (by omega) h5 hW (fun h => ⟨by omega, nsub h⟩) (fun h => hz_neg (by omega) (by omega) (by omega) (by omega))
    obtain ⟨J2, m2, e2, k2, b2, d2, W2⟩ := sortIn5_s (L := L) (a := nI c + nI (g + 1 + i)) (x := c + (g + 1 + i)) (P := c + (g + 1 + i) < n) hN (ws.cong k1) (by omega) d1 W1 (fun h => ⟨h, nI_add _ _⟩) (fun h => by rw [nI_add]; exact hz_f (by omega) (by omega))
    obtain ⟨J, m', e3, k3, g3⟩ := ih k (i + 1) m2 J2 (by omega) (by omega) ((ws.cong k1).cong k2) (by omega) d2 (W2.cong (fun _ _ => rfl) (fun t => Dn_s))
    refine ⟨J, m', ?_, (k1.tr k2).tr k3, g3⟩
    rw [F_X5_openWindow_31, if_neg (nI_nlt (by omega) (by omega)), e1, bV_s, e2, bV_s, nI_1]
    exact e3
theorem open5_s {c : Nat} (hN : 20000 ≤ N) (ws : CWS I p n v) (wp : WP I g s o) (hc : c < n) : ∃ (J : PI) (m : Nat), f_X5_openWindow N (nI c) I L = some (none, J, L) ∧ Kp dF I J ∧ m ≤ 16 ∧ J 5 3 = nI m ∧ Wn J 33 m (fun y => Dn c n g (fun o => decide (v o ≤ y)) s) := by
  obtain ⟨h1, h2, h3, h4, h5, h6, h7, h8, h9, h10, h11, h12⟩ := wp
  have kU : Kp dF I (uI I 5 3 (nI 0)) := Kp.rf.up (by unfold dF; omega)
  obtain ⟨J, m, e, k1, g1⟩ := openLp (N := N) (L := L) hN hc h1 h3 s N 0 0 (uI I 5 3 (nI 0)) (by omega) (by omega) (ws.cong kU) (by omega) uI_eq Wn.nil
  refine ⟨J, m, ?_, kU.tr k1, g1⟩
  unfold f_X5_openWindow
  rw [ni2, ni3, gd_in (by omega) (by omega), nI_clamp (by omega), h6, nI_1, nmI_s, gd_in (by omega) (by omega), gd_in (by omega) (by omega), nI_clamp (by omega), h7, nI_add, nmI_s, nmW_s]
  exact e
theorem windLp {r : Int32 → Int32 → Int32 → PI → PL → RES} {w : Nat → Nat} {x m q : Nat} {c : Int32} (hm : m < 16) (hx : x ≤ 999) (hq : q < 40) (hw : ∀ a, a < m → w a ≤ 999) : ∀ (i k : Nat) (I : PI), i ≤ m → i < k → (∀ a, a < i → I 59 a = nI (w a)) → (∀ a, i < a → a ≤ m → I 59 a = nI (w (a - 1))) → (∀ a, i ≤ a → a < m → x < w a) → I 55 (q + 1) = nI x → ∃ (J : PI) (i' : Nat), F_X12_windowOf_44 N r k c (nI m) (nI q) (nI i) I L = r c (nI (m + 1)) (nI (q + 1)) J L ∧ Kp dF I J ∧ i' ≤ m ∧ (i' = 0 ∨ w (i' - 1) ≤ x) ∧ (∀ a, i' ≤ a → a < m → x < w a) ∧ ∀ a, a ≤ m → J 59 a = nI (insAt w i' x a) := by
  have stop : ∀ (i : Nat) (I : PI), i ≤ m → (∀ a, a < i → I 59 a = nI (w a)) → (∀ a, i < a → a ≤ m → I 59 a = nI (w (a - 1))) → (∀ a, i ≤ a → a < m → x < w a) → I 55 (q + 1) = nI x → (i = 0 ∨ w (i - 1) ≤ x) → ∃ (J : PI) (i' : Nat), F_X12_windowOf_91 N r c (nI m) (nI q) (nI i) I L = r c (nI (m + 1)) (nI (q + 1)) J L ∧ Kp dF I J ∧ i' ≤ m ∧ (i' = 0 ∨ w (i' - 1) ≤ x) ∧ (∀ a, i' ≤ a → a < m → x < w a) ∧ ∀ a, a ≤ m → J 59 a = nI (insAt w i' x a) := by
    intro i I hi h1 h2 h3 h4 hst
    refine ⟨uI I 59 i (nI x), i, ?_, Kp.rf.up (by unfold dF; omega), hi, hst, h3, fun a ha => ?_⟩
    · unfold F_X12_windowOf_91
      rw [nI_1, nI_1, gd_in (by omega) (by omega), gd_in (by omega) (by omega), nI_clamp (by omega), nI_clamp (by omega), h4, nmW_s]
    · by_cases e1 : a < i
      · rw [uI_ne (by omega), insAt_lt e1]; exact h1 a e1
      · by_cases e2 : a = i
        · subst e2; rw [uI_eq, insAt_eq]
        · rw [uI_ne (by omega), insAt_gt (by omega)]; exact h2 a (by omega) ha
  intro i
  induction i with
  | zero =>
    intro k I hi hk h1 h2 h3 h4
    obtain ⟨k, rfl⟩ : ∃ q, k = q + 1 := ⟨k - 1, by omega⟩
    rw [F_X12_windowOf_44, if_pos (show nI 0 ≤ 0 from nI_le (a := 0) (b := 0) (Nat.le_refl 0) (by decide))]
    exact stop 0 I hi h1 h2 h3 h4 (Or.inl rfl)
  | succ i ih =>
    intro k I hi hk h1 h2 h3 h4
    obtain ⟨k, rfl⟩ : ∃ q, k = q + 1 := ⟨k - 1, by omega⟩
    rw [F_X12_windowOf_44, if_neg (nI_nle (by omega) (by omega)), nI_pred, gd_in (by omega) (by omega), nI_1 q, gd_in (by omega) (by omega), nI_clamp (by omega), nI_clamp (n := q + 1) (by omega), h1 i (by omega), h4]
    by_cases hle : w i ≤ x
    · rw [if_pos (nI_le hle (by omega))]
      exact stop (i + 1) I hi h1 h2 h3 h4 (Or.inr hle)
    · have := hw i (by omega)
      rw [if_neg (nI_ge (by omega) (by omega)), gd_in (by omega) (by omega), gd_in (by omega) (by omega), nI_clamp (by omega), nmW_s, pk_m1]
      obtain ⟨J, i', g1, g2, g3⟩ := ih k (uI I 59 (i + 1) (nI (w i))) (by omega) (by omega) (fun a ha => by rw [uI_ne (by omega)]; exact h1 a (by omega)) (fun a ha hb => by
        by_cases e : a = i + 1
        · subst e; rw [uI_eq]; rfl
        · rw [uI_ne (by omega)]; exact h2 a (by omega) hb) (fun a ha hb => by
        by_cases e : a = i
        · subst e; omega
        · exact h3 a (by omega) hb) (by rw [uI_ne (by omega)]; exact h4)
      exact ⟨J, i', g1, (Kp.rf.up (by unfold dF; omega)).tr g2, g3⟩
theorem jabs_n {a b : Nat} (ha : a < 2 ^ 30) (hb : b < 2 ^ 30) : jabs (nI a - nI b) = nI ((a - b) + (b - a)) := by
  unfold jabs
  by_cases h : b ≤ a
  · rw [nsub h, if_pos (nI_pos' (by omega)), show b - a = 0 by omega, Nat.add_zero]
  · rw [if_neg (i32_nle.mpr (pk_sneg hb (by omega))), Int32.zero_sub, Int32.neg_sub, nsub (by omega), show a - b = 0 by omega, Nat.zero_add]
theorem wi_dec {a b d : Nat} (ha : a < 2 ^ 31) (hb : b < 2 ^ 31) (hd : d < 2 ^ 31) : wi (nI d) (nI a) (nI b) = (decide (a ≤ d) && decide (d ≤ b)) := by
  by_cases h1 : a ≤ d
  · by_cases h2 : d ≤ b
    · rw [wi_in h1 h2 hb, decide_eq_true h1, decide_eq_true h2]; rfl
    · rw [wi_hi (by omega) hd, decide_eq_false h2, Bool.and_false]
  · rw [wi_lo (by omega) ha, decide_eq_false h1]; rfl
theorem windowLp {c : Nat} (hN : 20000 ≤ N) (hc : c < n) : ∀ (t k i m : Nat) (I : PI), i + t = n → t < k → CWS I p n v → WP I g s o → Wn I 59 m (fun y => cnt (fun o => selw g s c o && decide (v o ≤ y)) i) → ∃ (J : PI) (m' : Nat), F_X12_windowOf_4 N k (nI c) (nI m) (nI i) I L = some (some (.int (nI m')), J, L) ∧ Kp dF I J ∧ m' ≤ 16 ∧ Wn J 59 m' (fun y => Dn c n g (fun o => decide (v o ≤ y)) s) := by
  intro t
  induction t with
  | zero =>
    intro k i m I hi hk ws wp hW
    obtain ⟨k, rfl⟩ : ∃ q, k = q + 1 := ⟨k - 1, by omega⟩
    obtain rfl : i = n := by omega
    have hn := ws.2.1
    have hd := Dn_le (c := c) (n := i) (g := g) (Q := fun o => decide (v o ≤ 999)) s
    have hl := hW.len
    rw [Dn_cnt hc] at hl
    rw [F_X12_windowOf_4, gd_in0 (by omega) (by omega), cl0, ws.2.2.2.2.1, if_pos (nI_le (Nat.le_refl _) (by omega))]
    exact ⟨I, m, rfl, Kp.rf, by have := wp.2.2.1; omega, hW.cong (fun _ _ => rfl) (fun t => (Dn_cnt hc s).symm)⟩
  | succ t ih =>
    intro k i m I hi hk ws wp hW
    obtain ⟨k, rfl⟩ : ∃ q, k = q + 1 := ⟨k - 1, by omega⟩
    have ws' := ws
    have wp' := wp
    obtain ⟨w1, w2, w3, w4, w5, w6⟩ := ws'
    obtain ⟨h1, h2, h3, h4, h5, h6, h7, h8, h9, h10, h11, h12⟩ := wp'
    obtain ⟨q1, q2, q3⟩ := w6 i (by omega)
    rw [F_X12_windowOf_4, gd_in0 (by omega) (by omega), cl0, w5, if_neg (nI_ge (by omega) (by omega)), jabs_n (by omega) (by omega), h9, h10, nI_1, nI_add, in_s, bI_s, wi_dec (by omega) (by omega) (by omega), nI_1]
    have es : (decide (g + 1 ≤ (i - c) + (c - i)) && decide ((i - c) + (c - i) ≤ g + s)) = selw g s c i := rfl
    rw [es]
    have e2 : ∀ y, cnt (fun o => selw g s c o && decide (v o ≤ y)) (i + 1) = cnt (fun o => selw g s c o && decide (v o ≤ y)) i + (bif selw g s c i && decide (v i ≤ y) then 1 else 0) := fun y => rfl
    cases hse : selw g s c i with
    | false =>
      rw [ifz_f rfl]
      exact ih k (i + 1) m I (by omega) (by omega) ws wp (hW.cong (fun _ _ => rfl) (fun y => by rw [e2, hse]; rfl))
    | true =>
      have hd := Dn_le (c := c) (n := n) (g := g) (Q := fun o => decide (v o ≤ 999)) s
      have hl := hW.len
      have hmo : cnt (fun o => selw g s c o && decide (v o ≤ 999)) (i + 1) ≤ _ := cnt_mono (n := n) (by omega)
      rw [Dn_cnt hc, e2, hl, hse, decide_eq_true q3] at hmo
      have hm : m + 1 ≤ Dn c n g (fun o => decide (v o ≤ 999)) s := hmo
      obtain ⟨w, x1, x2, x3⟩ := hW
      obtain ⟨J, i', g1, g2, g4, g5, g6, g7⟩ := windLp (N := N) (L := L) (r := F_X12_windowOf_4 N k) (c := nI c) (m := m) (by omega) q3 (by omega : i < 40) (fun a ha => (x2 a ha).2) m N I (Nat.le_refl m) (by omega) (fun a ha => (x2 a ha).1) (fun a ha hb => by omega) (fun a ha hb => by omega) q2
      obtain ⟨J', m', f1, f2, f3⟩ := ih k (i + 1) (m + 1) J (by omega) (by omega) (ws.cong g2) (wp.cong g2) ((Wn.ins x1 (fun a ha => (x2 a ha).2) x3 g4 q3 g5 g6 g7).cong (fun _ _ => rfl) (fun y => by rw [e2, hse, Bool.true_and]))
      refine ⟨J', m', ?_, g2.tr f2, f3⟩
      rw [ifz_t rfl, g1]
      exact f1
/-- what is found at a cell, in both -/
theorem fnd {c : Nat} (hN : 20000 ≤ N) (ws : CWS I p n v) (wp : WP I g s o) (hc : c < n) : ∃ x : Int32, An dF I L (f_X5_findingAt N (nI c)) x ∧ An dF I L (f_X12_found N (nI c)) x := by
  obtain ⟨J, m, e1, k1, m1, d1, W1⟩ := open5_s (L := L) hN ws wp hc
  have hl := W1.len
  refine ⟨if o ≤ m then (if 10 * nI (v c) ≤ I 13 5 * J 33 (o - 1) then 0 else 1) else -1000000, fun I' hk => ?_, fun I' hk => ?_⟩
  · obtain ⟨J', m', e2, k2, m2, d2, W2⟩ := open5_s (L := L) hN (ws.cong hk) (wp.cong hk) hc
    have hl2 := W2.len
    obtain rfl : m' = m := by omega
    have ws2 := (ws.cong hk).cong k2
    have wp2 := (wp.cong hk).cong k2
    obtain ⟨w1, w2, w3, w4, w5, w6⟩ := ws2
    obtain ⟨h1, h2, h3, h4, h5, h6, h7, h8, h9, h10, h11, h12⟩ := wp2
    refine ⟨J', ?_, k2⟩
    unfold f_X5_findingAt
    have e5 : J' 13 5 = I 13 5 := (k2 13 5 (by unfold dF; omega)).trans (hk 13 5 (by unfold dF; omega))
    rw [e2, bV_s, ni4, ni5, gd_in (by omega) (by omega), nI_clamp (by omega), h8, nmI_s, if_neg (show ¬ nI o < 1 from nI_nlt h4 (by omega)), d2]
    by_cases ho : o ≤ m'
    · rw [if_pos (nI_le ho (by omega)), if_pos ho, value2_s w1 w2 hc w3 w4, bI_s, gd_in (by omega) (by omega), nsub1 h4, gd_in (by omega) (by omega), nI_clamp (by omega), nI_clamp (by omega), (w6 c hc).1, e5, W2.same W1 (fun _ => rfl) (by omega)]
      by_cases hq : 10 * nI (v c) ≤ I 13 5 * J 33 (o - 1)
      · rw [if_pos hq, if_pos hq]
      · rw [if_neg hq, if_neg hq]
    · rw [if_neg (nI_ge (by omega) (by omega)), if_neg ho]
  · have ws1 := ws.cong hk
    have ws1' := ws1
    obtain ⟨J', m', e2, k2, m2, W2⟩ := windowLp (N := N) (L := L) hN hc n N 0 0 I' (by omega) (by have := ws.2.1; omega) ws1 (wp.cong hk) Wn.nil
    have hl2 := W2.len
    obtain rfl : m' = m := by omega
    have ws2 := ws1.cong k2
    have wp2 := (wp.cong hk).cong k2
    obtain ⟨w1, w2, w3, w4, w5, w6⟩ := ws2
    obtain ⟨h1, h2, h3, h4, h5, h6, h7, h8, h9, h10, h11, h12⟩ := wp2
    refine ⟨J', ?_, k2⟩
    unfold f_X12_found f_X12_windowOf
    have hh : f_X12_isCell N (nI c) I' L = some (some (.int (bif hz (nI c) n then 1 else 0)), I', L) := isCell_s ws1.2.2.2.2.1
    have e5 : J' 12 37 = I 13 5 := h12.symm.trans ((k2 13 5 (by unfold dF; omega)).trans (hk 13 5 (by unfold dF; omega)))
    have e2' : F_X12_windowOf_4 N N (nI c) 0 0 I' L = _ := e2
    rw [hh, bI_s, ifz_t (hz_t hc (by omega)), e2', bI_s, h11]
    by_cases ho : o ≤ m'
    · rw [if_pos (nI_le ho (by omega)), if_pos ho, nI_1, gd_in (by omega) (by omega), nsub1 h4, gd_in (by omega) (by omega), nI_clamp (by omega), nI_clamp (by omega), (w6 c hc).2.1, e5, W2.same W1 (fun _ => rfl) (by omega)]
      by_cases hq : 10 * nI (v c) ≤ I 13 5 * J 33 (o - 1)
      · rw [if_pos hq, if_pos hq]
      · rw [if_neg hq, if_neg hq]
    · rw [if_neg (nI_ge (by omega) (by omega)), if_neg ho]
end WIN
