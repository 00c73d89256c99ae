/-! stagger: both searches -/
section STH
variable {N z b lo hi mo : Nat} {K : PI} {L M : PL}
/-- what both have chosen so far -/
def Chs (J : PI) (x y : Int32) : Prop := (J 8 7 = -1 ∧ J 8 8 = -1 ∧ x = -1) ∨ ∃ p q : Nat, p < 2 ^ 30 ∧ q ≤ 300 ∧ J 8 7 = nI p ∧ J 8 8 = nI q ∧ x = nI p ∧ y = nI q
def ch1 (x y p v : Int32) : Int32 := if x = -1 then p else if v ≤ y then x else p
def ch2 (x y v : Int32) : Int32 := if x = -1 then v else if v ≤ y then y else v
theorem ch1_ne {x y v : Int32} {p : Nat} (hp : p < 2 ^ 30) : ch1 x y (nI p) v ≠ -1 := by
  unfold ch1
  by_cases h : x = -1
  · rw [if_pos h]; exact m_ne' (by omega)
  · rw [if_neg h]
    by_cases h2 : v ≤ y
    · rw [if_pos h2]; exact h
    · rw [if_neg h2]; exact m_ne' (by omega)
theorem pref_s {J : PI} {x y : Int32} {p v : Nat} (hp : p < 2 ^ 30) (hv : v ≤ 300) (h : Chs J x y) : ∃ J', f_X8_prefer N (nI p) (nI v) J L = some (none, J', L) ∧ Kp dW J J' ∧ Chs J' (ch1 x y (nI p) (nI v)) (ch2 x y (nI v)) := by
  have kU : Kp dW J (uI (uI J 8 7 (nI p)) 8 8 (nI v)) := (Kp.rf.up (by unfold dW; omega)).up (by unfold dW; omega)
  unfold f_X8_prefer ch1 ch2
  rcases h with ⟨h1, h2, h3⟩ | ⟨p0, q0, g1, g2, g3, g4, g5, g6⟩
  · rw [h2, if_neg (show ¬ nI v ≤ (-1 : Int32) by rw [m_nge (by omega)]; exact fun h => h), nmW_s, nmW_s, if_pos h3, if_pos h3]
    exact ⟨_, rfl, kU, Or.inr ⟨p, v, hp, hv, by rw [uI_ne (by omega), uI_eq], uI_eq, rfl, rfl⟩⟩
  · rw [g4, g5, g6, if_neg (m_ne' (by omega)), if_neg (m_ne' (by omega))]
    by_cases hle : v ≤ q0
    · rw [if_pos (nI_le hle (by omega)), if_pos (nI_le hle (by omega)), if_pos (nI_le hle (by omega))]
      exact ⟨J, rfl, Kp.rf, Or.inr ⟨p0, q0, g1, g2, g3, g4, rfl, rfl⟩⟩
    · rw [if_neg (nI_ge (by omega) (by omega)), if_neg (nI_ge (by omega) (by omega)), if_neg (nI_ge (by omega) (by omega)), nmW_s, nmW_s]
      exact ⟨_, rfl, kU, Or.inr ⟨p, v, hp, hv, by rw [uI_ne (by omega), uI_eq], uI_eq, rfl, rfl⟩⟩
theorem s187 {r66 : Int32 → Int32 → Int32 → Int32 → Int32 → Int32 → Int32 → PI → PL → RES} {r87 : Int32 → Int32 → Int32 → Int32 → Int32 → Int32 → Int32 → Int32 → PI → PL → RES} {r117 : Int32 → Int32 → Int32 → Int32 → Int32 → Int32 → Int32 → Int32 → Int32 → PI → PL → RES} {v1 v3 v4 v5 x y v8 v9 v10 v p : Int32} : F_X12_stagger_187 N r66 r87 r117 v1 v3 v4 v5 x y v8 v9 v10 v p K M = r117 v1 v3 v4 v5 (ch1 x y p v) (ch2 x y v) v8 v9 (v10 + 1) K M := by
  unfold F_X12_stagger_187 F_X12_stagger_202 ch1 ch2
  by_cases h : x = -1
  · rw [if_pos h, if_pos h, if_pos h]
  · rw [if_neg h, if_neg h, if_neg h]
    by_cases h2 : v ≤ y
    · rw [if_pos h2, if_pos h2, if_pos h2]
    · rw [if_neg h2, if_neg h2, if_neg h2]
/-- the class's side of a search -/
def SgC (I : PI) (L : PL) (z b lo hi mo : Nat) : Prop := z ≤ 9 ∧ 1 ≤ b ∧ b ≤ 8 ∧ I 13 1 = nI b ∧ 2 ≤ lo ∧ lo ≤ hi ∧ hi ≤ 30 ∧ 1 ≤ mo ∧ mo ≤ 300 ∧ WLo L (stB1 z lo mo (hi + 1) 0)
theorem SgC.cong {I J : PI} (h : Kp dW I J) (s : SgC I L z b lo hi mo) : SgC J L z b lo hi mo := by
  obtain ⟨h1, h2, h3, h4, h5⟩ := s
  exact ⟨h1, h2, h3, (h 13 1 (by unfold dW; omega)).trans h4, h5⟩
theorem SgC.three {I : PI} {d e f : Nat} (hN : 20000 ≤ N) (s : SgC I L z b lo hi mo) (hd : okR lo hi d) (he : okR lo hi e) (hf : okR lo hi f) : f_X8_seenByThree N (nI d) (nI e) (nI f) I L = some (some (.int (nI (V3 z b mo d e f))), I, L) := by
  obtain ⟨h1, h2, h3, h4, h5, h6, h7, h8, h9, h10⟩ := s
  exact three_s hN h10 h5 h7 h9 h2 h3 h4 hd he hf
/-- the model's side -/
def SgM (K : PI) (z b : Nat) : Prop := K 12 32 = nI z ∧ K 12 33 = nI b
theorem SgM.seen {d e f : Nat} {I : PI} (hN : 20000 ≤ N) (s : SgC I L z b lo hi mo) (k : SgM K z b) (hd : 1 ≤ d) (hd2 : d ≤ 30) (he : e ≤ 30) (hf : f ≤ 30) : f_X12_seenBy N (nI d) (nI e) (nI f) (nI mo) K M = some (some (.int (nI (V3 z b mo d e f))), K, M) := by
  obtain ⟨h1, h2, h3, h4, h5, h6, h7, h8, h9, h10⟩ := s
  exact seenBy12_s hN k.1 h1 k.2 h3 hd hd2 he hf h9
theorem stg3 {a5 : Int32} {d e : Nat} {r5 : Int32 → Int32 → Int32 → Int32 → PI → PL → RES} {r66 : Int32 → Int32 → Int32 → Int32 → Int32 → Int32 → Int32 → PI → PL → RES} {r87 : Int32 → Int32 → Int32 → Int32 → Int32 → Int32 → Int32 → Int32 → PI → PL → RES} (hN : 20000 ≤ N) (k0 : SgM K z b) (hd : lo ≤ d) (hde : d < e) (heh : e ≤ hi) : ∀ (t k l i : Nat) (J : PI) (x y : Int32), i + t = hi + 1 → e < i → t < k → t < l → SgC J L z b lo hi mo → Chs J x y → ∃ (J' : PI) (x' y' : Int32), F_X8_staggerBehind_48 N r5 k (nI d) (nI 3) (nI hi) (nI e) (nI (100 * d + e)) (nI i) J L = r5 (nI d) (nI 3) (nI hi) (nI (e + 1)) J' L ∧ Kp dW J J' ∧ Chs J' x' y' ∧ F_X12_stagger_117 N r66 r87 l (nI 3) (nI hi) (nI mo) a5 x y (nI d) (nI e) (nI i) K M = r87 (nI 3) (nI hi) (nI mo) a5 x' y' (nI d) (nI (e + 1)) K M ∧ ((x ≠ -1 ∨ i ≤ hi) → x' ≠ -1) := by
  intro t
  induction t with
  | zero =>
    intro k l i J x y hi0 hei hk hl s h
    obtain ⟨k, rfl⟩ : ∃ q, k = q + 1 := ⟨k - 1, by omega⟩
    obtain ⟨l, rfl⟩ : ∃ q, l = q + 1 := ⟨l - 1, by omega⟩
    have h30 := s.2.2.2.2.2.2.1
    refine ⟨J, x, y, ?_, Kp.rf, h, ?_, fun q => q.elim (fun q => q) (fun q => by omega)⟩
    · rw [F_X8_staggerBehind_48, if_pos (nI_lt (by omega) (by omega)), nI_1]
    · rw [F_X12_stagger_117, if_neg (show ¬ nI 3 ≤ (2 : Int32) by decide)]
      unfold F_X12_stagger_129
      rw [if_pos (nI_lt (by omega) (by omega)), nI_1]
  | succ t ih =>
    intro k l i J x y hi0 hei hk hl s h
    obtain ⟨k, rfl⟩ : ∃ q, k = q + 1 := ⟨k - 1, by omega⟩
    obtain ⟨l, rfl⟩ : ∃ q, l = q + 1 := ⟨l - 1, by omega⟩
    have h30 := s.2.2.2.2.2.2.1
    have h2 := s.2.2.2.2.1
    have h300 := s.2.2.2.2.2.2.2.2.1
    have hv := V3_le (z := z) (b := b) (mo := mo) (d := d) (e := e) (f := i)
    obtain ⟨J1, e1, k1, c1⟩ := pref_s (N := N) (L := L) (p := 100 * (100 * d + e) + i) (v := V3 z b mo d e i) (by omega) (by omega) h
    obtain ⟨J', x', y', g1, g2, g3, g4, g5⟩ := ih k l (i + 1) J1 _ _ (by omega) (by omega) (by omega) (by omega) (s.cong k1) c1
    refine ⟨J', x', y', ?_, k1.tr g2, g3, ?_, fun _ => g5 (Or.inl (ch1_ne (by omega)))⟩
    · rw [F_X8_staggerBehind_48, if_neg (nI_nlt (by omega) (by omega)), s.three hN (Or.inr ⟨hd, by omega⟩) (Or.inr ⟨by omega, heh⟩) (Or.inr ⟨by omega, by omega⟩), bI_s, show (100 : Int32) = nI 100 from rfl, pk_mul, nI_add, Nat.mul_comm (100 * d + e) 100, e1, bV_s, nI_1]
      exact g1
    · rw [F_X12_stagger_117, if_neg (show ¬ nI 3 ≤ (2 : Int32) by decide)]
      unfold F_X12_stagger_129
      rw [if_neg (nI_nlt (by omega) (by omega)), k0.seen hN s (by omega) (by omega) (by omega) (by omega), bI_s, if_neg (show ¬ nI 3 = (1 : Int32) by decide), if_neg (show ¬ nI 3 = (2 : Int32) by decide), s187, show (10000 : Int32) = nI 10000 from rfl, show (100 : Int32) = nI 100 from rfl, pk_mul, pk_mul, nI_add, nI_add, nI_1, show 10000 * d + 100 * e + i = 100 * (100 * d + e) + i by omega]
      exact g4
theorem stg2 {a5 : Int32} {c d : Nat} {r66 : Int32 → Int32 → Int32 → Int32 → Int32 → Int32 → Int32 → PI → PL → RES} (hN : 20000 ≤ N) (k0 : SgM K z b) (hc : c = 2 ∨ c = 3) (hd : lo ≤ d) (hdh : d ≤ hi) : ∀ (t k l i : Nat) (J : PI) (x y : Int32), i + t = hi + 1 → d < i → t < k → t < l → SgC J L z b lo hi mo → Chs J x y → ∃ (J' : PI) (x' y' : Int32), F_X8_staggerBehind_5 N k (nI d) (nI c) (nI hi) (nI i) J L = some (none, J', L) ∧ Kp dW J J' ∧ Chs J' x' y' ∧ F_X12_stagger_87 N r66 l (nI c) (nI hi) (nI mo) a5 x y (nI d) (nI i) K M = r66 (nI c) (nI hi) (nI mo) a5 x' y' (nI (d + 1)) K M ∧ ((x ≠ -1 ∨ i + (c - 2) ≤ hi) → x' ≠ -1) := by
  have c1 : ¬ nI c ≤ (1 : Int32) := by rcases hc with rfl | rfl <;> decide
  have c1' : ¬ nI c = (1 : Int32) := by rcases hc with rfl | rfl <;> decide
  intro t
  induction t with
  | zero =>
    intro k l i J x y hi0 hei hk hl s h
    obtain ⟨k, rfl⟩ : ∃ q, k = q + 1 := ⟨k - 1, by omega⟩
    obtain ⟨l, rfl⟩ : ∃ q, l = q + 1 := ⟨l - 1, by omega⟩
    have h30 := s.2.2.2.2.2.2.1
    refine ⟨J, x, y, ?_, Kp.rf, h, ?_, fun q => q.elim (fun q => q) (fun q => by omega)⟩
    · rw [F_X8_staggerBehind_5, if_pos (nI_lt (by omega) (by omega))]
    · rw [F_X12_stagger_87, if_neg c1]
      unfold F_X12_stagger_99
      rw [if_pos (nI_lt (by omega) (by omega)), nI_1]
  | succ t ih =>
    intro k l i J x y hi0 hei hk hl s h
    obtain ⟨k, rfl⟩ : ∃ q, k = q + 1 := ⟨k - 1, by omega⟩
    obtain ⟨l, rfl⟩ : ∃ q, l = q + 1 := ⟨l - 1, by omega⟩
    have h30 := s.2.2.2.2.2.2.1
    have h2 := s.2.2.2.2.1
    have h300 := s.2.2.2.2.2.2.2.2.1
    have ed : nI d * 100 + nI i = nI (100 * d + i) := by rw [show (100 : Int32) = nI 100 from rfl, pk_mul, nI_add, Nat.mul_comm]
    rcases hc with rfl | rfl
    · have hv := V3_le (z := z) (b := b) (mo := mo) (d := d) (e := i) (f := 0)
      obtain ⟨J1, e1, k1, q1⟩ := pref_s (N := N) (L := L) (p := 100 * d + i) (v := V3 z b mo d i 0) (by omega) (by omega) h
      obtain ⟨J', x', y', g1, g2, g3, g4, g5⟩ := ih k l (i + 1) J1 _ _ (by omega) (by omega) (by omega) (by omega) (s.cong k1) q1
      have t3 := s.three (d := d) (e := i) (f := 0) hN (Or.inr ⟨hd, hdh⟩) (Or.inr ⟨by omega, by omega⟩) (Or.inl rfl)
      have t3' : f_X8_seenByThree N (nI d) (nI i) 0 J L = _ := t3
      have m3 := k0.seen (M := M) (d := d) (e := i) (f := 0) hN s (by omega) (by omega) (by omega) (by omega)
      have m3' : f_X12_seenBy N (nI d) (nI i) 0 (nI mo) K M = _ := m3
      obtain ⟨N', hN'⟩ : ∃ q, N = q + 2 := ⟨N - 2, by omega⟩
      refine ⟨J', x', y', ?_, k1.tr g2, g3, ?_, fun _ => g5 (Or.inl (ch1_ne (by omega)))⟩
      · rw [F_X8_staggerBehind_5, if_neg (nI_nlt (by omega) (by omega)), ed, nmI_s, if_pos (show nI 2 = (2 : Int32) by decide), t3', bI_s, e1, bV_s, nI_1]
        exact g1
      · rw [F_X12_stagger_87, if_neg c1]
        unfold F_X12_stagger_99
        rw [if_neg (nI_nlt (by omega) (by omega)), if_pos (show nI 2 ≤ (2 : Int32) by decide)]
        have e117 : F_X12_stagger_117 N r66 (F_X12_stagger_87 N r66 l) N (nI 2) (nI hi) (nI mo) a5 x y (nI d) (nI i) 0 K M = F_X12_stagger_87 N r66 l (nI 2) (nI hi) (nI mo) a5 (ch1 x y (nI (100 * d + i)) (nI (V3 z b mo d i 0))) (ch2 x y (nI (V3 z b mo d i 0))) (nI d) (nI (i + 1)) K M := by
          have step : ∀ q, F_X12_stagger_117 N r66 (F_X12_stagger_87 N r66 l) (q + 2) (nI 2) (nI hi) (nI mo) a5 x y (nI d) (nI i) 0 K M = F_X12_stagger_87 N r66 l (nI 2) (nI hi) (nI mo) a5 (ch1 x y (nI (100 * d + i)) (nI (V3 z b mo d i 0))) (ch2 x y (nI (V3 z b mo d i 0))) (nI d) (nI (i + 1)) K M := fun q => by
            rw [F_X12_stagger_117, if_pos (show nI 2 ≤ (2 : Int32) by decide)]
            unfold F_X12_stagger_129
            rw [if_neg (show ¬ (0 : Int32) < 0 by decide), m3', bI_s, if_neg (show ¬ nI 2 = (1 : Int32) by decide), if_pos (show nI 2 = (2 : Int32) by decide), s187, show (100 : Int32) = nI 100 from rfl, pk_mul, nI_add, F_X12_stagger_117, if_pos (show nI 2 ≤ (2 : Int32) by decide)]
            unfold F_X12_stagger_129
            rw [if_pos (show (0 : Int32) < 0 + 1 by decide), nI_1]
          have := step N'
          rw [← hN'] at this
          exact this
        rw [e117]
        exact g4
    · obtain ⟨J1, x1, y1, e1, k1, q1, m1, n1⟩ := stg3 (N := N) (L := L) (M := M) (a5 := a5) (r5 := F_X8_staggerBehind_5 N k) (r66 := r66) (r87 := F_X12_stagger_87 N r66 l) hN k0 hd (by omega : d < i) (by omega : i ≤ hi) (hi - i) N N (i + 1) J x y (by omega) (by omega) (by omega) (by omega) s h
      obtain ⟨J', x', y', g1, g2, g3, g4, g5⟩ := ih k l (i + 1) J1 x1 y1 (by omega) (by omega) (by omega) (by omega) (s.cong k1) q1
      refine ⟨J', x', y', ?_, k1.tr g2, g3, ?_, fun q => g5 (Or.inl (n1 (q.imp (fun q => q) (fun q => by omega))))⟩
      · rw [F_X8_staggerBehind_5, if_neg (nI_nlt (by omega) (by omega)), ed, nmI_s, if_neg (show ¬ nI 3 = (2 : Int32) by decide), nI_1, nmI_s, e1]
        exact g1
      · rw [F_X12_stagger_87, if_neg c1]
        unfold F_X12_stagger_99
        rw [if_neg (nI_nlt (by omega) (by omega)), if_neg (show ¬ nI 3 ≤ (2 : Int32) by decide), nI_1, nmI_s, m1]
        exact g4
theorem stg1 {a5 : Int32} {c : Nat} (hN : 20000 ≤ N) (k0 : SgM K z b) (hc : c = 1 ∨ c = 2 ∨ c = 3) : ∀ (t k l i : Nat) (J : PI) (x y : Int32), i + t = hi + 1 → lo ≤ i → t < k → t < l → SgC J L z b lo hi mo → Chs J x y → ∃ (J' : PI) (x' y' : Int32), F_X8_staggerBest_21 N k (nI c) (nI hi) (nI i) J L = some (none, J', L) ∧ Kp dW J J' ∧ Chs J' x' y' ∧ F_X12_stagger_66 N l (nI c) (nI hi) (nI mo) a5 x y (nI i) K M = some (some (.int (if a5 = 0 then x' else y')), K, M) ∧ ((x ≠ -1 ∨ i + (c - 1) ≤ hi) → x' ≠ -1) := by
  intro t
  induction t with
  | zero =>
    intro k l i J x y hi0 hei hk hl s h
    obtain ⟨k, rfl⟩ : ∃ q, k = q + 1 := ⟨k - 1, by omega⟩
    obtain ⟨l, rfl⟩ : ∃ q, l = q + 1 := ⟨l - 1, by omega⟩
    have h30 := s.2.2.2.2.2.2.1
    refine ⟨J, x, y, ?_, Kp.rf, h, ?_, fun q => q.elim (fun q => q) (fun q => by omega)⟩
    · rw [F_X8_staggerBest_21, if_pos (nI_lt (by omega) (by omega))]
    · rw [F_X12_stagger_66, if_pos (nI_lt (by omega) (by omega))]
      by_cases h0 : a5 = 0
      · rw [if_pos h0, if_pos h0]
      · rw [if_neg h0, if_neg h0]
  | succ t ih =>
    intro k l i J x y hi0 hei hk hl s h
    obtain ⟨k, rfl⟩ : ∃ q, k = q + 1 := ⟨k - 1, by omega⟩
    obtain ⟨l, rfl⟩ : ∃ q, l = q + 1 := ⟨l - 1, by omega⟩
    have h30 := s.2.2.2.2.2.2.1
    have h2 := s.2.2.2.2.1
    have h300 := s.2.2.2.2.2.2.2.2.1
    by_cases hc1 : c = 1
    · subst hc1
      have hv := V3_le (z := z) (b := b) (mo := mo) (d := i) (e := 0) (f := 0)
      obtain ⟨J1, e1, k1, q1⟩ := pref_s (N := N) (L := L) (p := i) (v := V3 z b mo i 0 0) (by omega) (by omega) h
      obtain ⟨J', x', y', g1, g2, g3, g4, g5⟩ := ih k l (i + 1) J1 _ _ (by omega) (by omega) (by omega) (by omega) (s.cong k1) q1
      have t3 := s.three (d := i) (e := 0) (f := 0) hN (Or.inr ⟨hei, by omega⟩) (Or.inl rfl) (Or.inl rfl)
      have t3' : f_X8_seenByThree N (nI i) 0 0 J L = _ := t3
      have m3 := k0.seen (M := M) (d := i) (e := 0) (f := 0) hN s (by omega) (by omega) (by omega) (by omega)
      have m3' : f_X12_seenBy N (nI i) 0 0 (nI mo) K M = _ := m3
      obtain ⟨N', hN'⟩ : ∃ q, N = q + 2 := ⟨N - 2, by omega⟩
      refine ⟨J', x', y', ?_, k1.tr g2, g3, ?_, fun _ => g5 (Or.inl (ch1_ne (by omega)))⟩
      · rw [F_X8_staggerBest_21, if_neg (nI_nlt (by omega) (by omega)), if_pos (show nI 1 = (1 : Int32) by decide), t3', bI_s, e1, bV_s, nI_1]
        exact g1
      · rw [F_X12_stagger_66, if_neg (nI_nlt (by omega) (by omega)), if_pos (show nI 1 ≤ (1 : Int32) by decide)]
        have s117 : ∀ (r87 : Int32 → Int32 → Int32 → Int32 → Int32 → Int32 → Int32 → Int32 → PI → PL → RES) q, F_X12_stagger_117 N (F_X12_stagger_66 N l) r87 (q + 2) (nI 1) (nI hi) (nI mo) a5 x y (nI i) 0 0 K M = r87 (nI 1) (nI hi) (nI mo) a5 (ch1 x y (nI i) (nI (V3 z b mo i 0 0))) (ch2 x y (nI (V3 z b mo i 0 0))) (nI i) (0 + 1) K M := fun r87 q => by
          rw [F_X12_stagger_117, if_pos (show nI 1 ≤ (2 : Int32) by decide)]
          unfold F_X12_stagger_129
          rw [if_neg (show ¬ (0 : Int32) < 0 by decide), m3', bI_s, if_pos (show nI 1 = (1 : Int32) by decide), s187, F_X12_stagger_117, if_pos (show nI 1 ≤ (2 : Int32) by decide)]
          unfold F_X12_stagger_129
          rw [if_pos (show (0 : Int32) < 0 + 1 by decide)]
        have e87 : F_X12_stagger_87 N (F_X12_stagger_66 N l) N (nI 1) (nI hi) (nI mo) a5 x y (nI i) 0 K M = F_X12_stagger_66 N l (nI 1) (nI hi) (nI mo) a5 (ch1 x y (nI i) (nI (V3 z b mo i 0 0))) (ch2 x y (nI (V3 z b mo i 0 0))) (nI (i + 1)) K M := by
          have step : ∀ q, F_X12_stagger_87 N (F_X12_stagger_66 N l) (q + 2) (nI 1) (nI hi) (nI mo) a5 x y (nI i) 0 K M = F_X12_stagger_66 N l (nI 1) (nI hi) (nI mo) a5 (ch1 x y (nI i) (nI (V3 z b mo i 0 0))) (ch2 x y (nI (V3 z b mo i 0 0))) (nI (i + 1)) K M := fun q => by
            have s1 := s117 (F_X12_stagger_87 N (F_X12_stagger_66 N l) (q + 1)) N'
            rw [← hN'] at s1
            rw [F_X12_stagger_87, if_pos (show nI 1 ≤ (1 : Int32) by decide)]
            unfold F_X12_stagger_99
            rw [if_neg (show ¬ (0 : Int32) < 0 by decide), if_pos (show nI 1 ≤ (2 : Int32) by decide), s1, F_X12_stagger_87, if_pos (show nI 1 ≤ (1 : Int32) by decide)]
            unfold F_X12_stagger_99
            rw [if_pos (show (0 : Int32) < 0 + 1 by decide), nI_1]
          have := step N'
          rw [← hN'] at this
          exact this
        rw [e87]
        exact g4
    · have hc23 : c = 2 ∨ c = 3 := by omega
      have n1 : ¬ nI c = (1 : Int32) := by rcases hc23 with rfl | rfl <;> decide
      have n2 : ¬ nI c ≤ (1 : Int32) := by rcases hc23 with rfl | rfl <;> decide
      obtain ⟨J1, x1, y1, e1, k1, q1, m1, n3⟩ := stg2 (N := N) (L := L) (M := M) (a5 := a5) (r66 := F_X12_stagger_66 N l) hN k0 hc23 hei (by omega : i ≤ hi) (hi - i) N N (i + 1) J x y (by omega) (by omega) (by omega) (by omega) s h
      obtain ⟨J', x', y', g1, g2, g3, g4, g5⟩ := ih k l (i + 1) J1 x1 y1 (by omega) (by omega) (by omega) (by omega) (s.cong k1) q1
      refine ⟨J', x', y', ?_, k1.tr g2, g3, ?_, fun q => g5 (Or.inl (n3 (q.imp (fun q => q) (fun q => by omega))))⟩
      · rw [F_X8_staggerBest_21, if_neg (nI_nlt (by omega) (by omega)), if_neg n1]
        unfold f_X8_staggerBehind
        rw [nI_1, nmI_s, e1, bV_s]
        exact g1
      · rw [F_X12_stagger_66, if_neg (nI_nlt (by omega) (by omega)), if_neg n2, nI_1, nmI_s, m1]
        exact g4
end STH
theorem case_stagger {X : PI → Prop} (hX : Xok X) {N : Nat} (hN : 20000 ≤ N) (a1 a2 a3 a4 a5 : Int32) : CaseI (Inv X) (f_X11_stagger N a1 a2 a3 a4 a5) (f_X12_stagger N a1 a2 a3 a4 a5) := by
  intro I L hI
  have hI0 := hI
  obtain ⟨-, hS, -, -, -⟩ := hI
  obtain ⟨z, b, s⟩ := hS.sv
  obtain ⟨s1, s2, s3, s4, s5, s6, s7⟩ := s
  have eC := f_X11_stagger.eq_1 N a1 a2 a3 a4 a5 I L
  have eM := fun J M => f_X12_stagger.eq_1 N a1 a2 a3 a4 a5 J M
  have key : ∀ x : Int32, f_X11_stagger N a1 a2 a3 a4 a5 I L = some (some (.int x), I, L) → f_X12_stagger N a1 a2 a3 a4 a5 I L = some (some (.int x), I, L) → ∃ (x : Int32) (I1 : PI) (L1 : PL) (I2 : PI) (L2 : PL), f_X11_stagger N a1 a2 a3 a4 a5 I L = some (some (.int x), I1, L1) ∧ f_X12_stagger N a1 a2 a3 a4 a5 I1 L1 = some (some (.int x), I2, L2) ∧ Inv X I2 L2 := fun x h1 h2 => ⟨x, I, L, I, L, h1, h2, hI0⟩
  have eM0 := eM I L
  rw [within_s, bI_s] at eC
  rw [in_s, bI_s] at eM0
  cases h1 : wi a1 1 3 with
  | false =>
    rw [ifz_f h1] at eC eM0
    exact key _ eC eM0
  | true =>
    rw [ifz_t h1, within_s, bI_s] at eC
    rw [ifz_t h1, in_s, bI_s] at eM0
    cases h2 : wi a2 2 30 with
    | false =>
      rw [ifz_f h2] at eC eM0
      exact key _ eC eM0
    | true =>
      rw [ifz_t h2, within_s, bI_s] at eC
      rw [ifz_t h2, in_s, bI_s] at eM0
      obtain ⟨c, c1, c2, rfl⟩ := wi_nat2 (m := 1) (n := 3) rfl rfl (by omega) (by omega) h1
      obtain ⟨lo, l1, l2, rfl⟩ := wi_nat2 (m := 2) (n := 30) rfl rfl (by omega) (by omega) h2
      have e31 : nI lo + nI c - 1 = nI (lo + c - 1) := by rw [nI_add, nsub1 (by omega)]
      rw [e31] at eM0
      cases h3 : wi a3 2 30 with
      | false =>
        rw [ifz_f h3] at eC
        have hm : wi a3 (nI (lo + c - 1)) 30 = false := by
          cases hq : wi a3 (nI (lo + c - 1)) 30 with
          | false => rfl
          | true =>
            obtain ⟨q1, q2⟩ := wi_t hq
            exfalso
            refine wi_f h3 ⟨?_, q2⟩
            exact i32_trans (show (2 : Int32) ≤ nI (lo + c - 1) from nI_le (a := 2) (by omega) (by omega)) q1
        rw [ifz_f hm] at eM0
        exact key _ eC eM0
      | true =>
        rw [ifz_t h3] at eC
        obtain ⟨hi, i1, i2, rfl⟩ := wi_nat2 (m := 2) (n := 30) rfl rfl (by omega) (by omega) h3
        have e32 : nI hi - nI lo + 1 = zI ((hi : Int) - lo + 1) := by rw [zI_n, zI_n, zI_sub, zI_1]
        rw [e32] at eC
        by_cases hk : lo + c - 1 ≤ hi
        · have hm : wi (nI hi) (nI (lo + c - 1)) 30 = true := wi_in (b := 30) hk i2 (by omega)
          rw [if_neg (show ¬ zI _ < nI c from fun q => by
            rw [zI_n c, zI_lt (by omega) (by omega) (by omega) (by omega)] at q
            omega), within_s, bI_s] at eC
          rw [ifz_t hm, in_s, bI_s] at eM0
          cases h4 : wi a4 1 300 with
          | false =>
            rw [ifz_f h4] at eC eM0
            exact key _ eC eM0
          | true =>
            rw [ifz_t h4, within_s, bI_s] at eC
            rw [ifz_t h4, in_s, bI_s] at eM0
            cases h5 : wi a5 0 1 with
            | false =>
              rw [ifz_f h5] at eC eM0
              exact key _ eC eM0
            | true =>
              rw [ifz_t h5] at eC
              obtain ⟨mo, m1, m2, rfl⟩ := wi_nat2 (m := 1) (n := 300) rfl rfl (by omega) (by omega) h4
              obtain ⟨M, t1, t2⟩ := tell_w (L := L) hN s1 s2 l1 i2 (by omega : lo ≤ hi) m1 m2
              obtain ⟨J1, hJ1⟩ : ∃ J : PI, J = uI (uI I 8 7 (-1)) 8 8 (-1) := ⟨_, rfl⟩
              have k1 : Kp dW I J1 := hJ1 ▸ (Kp.rf.up (by unfold dW; omega)).up (by unfold dW; omega)
              have sg : SgC J1 M z b lo hi mo := ⟨s1, s4, s5, (k1 13 1 (by unfold dW; omega)).trans s6, l1, by omega, i2, m1, m2, t2⟩
              have hch : Chs J1 (-1) 0 := Or.inl ⟨by rw [hJ1, uI_ne (by omega), uI_eq], by rw [hJ1, uI_eq], rfl⟩
              obtain ⟨J0, x0, y0, g1, g2, g3, -⟩ := stg1 (N := N) (L := M) (M := M) (K := I) (a5 := a5) hN ⟨s3, s7⟩ (by omega : c = 1 ∨ c = 2 ∨ c = 3) (hi + 1 - lo) N N lo J1 (-1) 0 (by omega) (by omega) (by omega) (by omega) sg hch
              have kJ := k1.tr g2
              obtain ⟨J2, x2, y2, f1, f2, f3, f4, f5⟩ := stg1 (N := N) (L := M) (M := M) (K := J0) (a5 := a5) hN ⟨(kJ 12 32 (by unfold dW; omega)).trans s3, (kJ 12 33 (by unfold dW; omega)).trans s7⟩ (by omega : c = 1 ∨ c = 2 ∨ c = 3) (hi + 1 - lo) N N lo J1 (-1) 0 (by omega) (by omega) (by omega) (by omega) sg hch
              have eJ : J0 = J2 := by
                have := Option.some.inj (g1.symm.trans f1)
                exact (Prod.mk.inj (Prod.mk.inj this).2).1
              subst eJ
              have eB : f_X8_staggerBest N (nI c) (nI lo) (nI hi) (nI mo) I L = some (none, J0, M) := by
                unfold f_X8_staggerBest
                rw [t1, bV_s, nmW_s, nmW_s, ← hJ1]
                exact g1
              rw [eB, bV_s] at eC
              have eM1 := eM J0 M
              rw [in_s, bI_s, ifz_t h1, in_s, bI_s, ifz_t h2, e31, in_s, bI_s, ifz_t hm, in_s, bI_s, ifz_t h4, in_s, bI_s, ifz_t h5] at eM1
              have eM2 := eM1.trans f4
              -- something has been chosen
              have hne := f5 (Or.inr (by omega))
              rcases f3 with ⟨q1, q2, q3⟩ | ⟨p, q, -, -, q3, q4, q5, q6⟩
              · exact absurd q3 hne
              · refine ⟨_, J0, M, J0, M, ?_, eM2, hI0.keep hX kJ (fun a' k' h' => by unfold dW at h'; unfold dT dS dR dD dE dZ dX dC; omega)⟩
                rw [eC, q3, q4, q5, q6]
                by_cases h0 : a5 = 0
                · rw [if_pos h0, if_pos h0]
                · rw [if_neg h0, if_neg h0]
        · have hm : wi (nI hi) (nI (lo + c - 1)) 30 = false := wi_lo (b := 30) (by omega) (by omega)
          rw [if_pos (show zI _ < nI c by
            rw [zI_n c, zI_lt (by omega) (by omega) (by omega) (by omega)]
            omega)] at eC
          rw [ifz_f hm] at eM0
          exact key _ eC eM0
