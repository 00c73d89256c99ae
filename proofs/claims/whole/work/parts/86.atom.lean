/-! laws: the joint place of both readers; numbers, letters, brackets -/
def dLC (a k : Nat) : Prop := (a = 10 ∧ k = 2) ∨ (a = 6 ∧ k = 2) ∨ a = 17
def dLM (a k : Nat) : Prop := (a = 12 ∧ (k = 3 ∨ k = 4 ∨ k = 5)) ∨ a = 40 ∨ a = 41 ∨ a = 42
def KLC (m : Nat) (I J : PI) : Prop := Kp dLC I J ∧ ∀ j, j < m → J 17 j = I 17 j
def KLM (s c : Nat) (K K' : PI) : Prop := Kp dLM K K' ∧ (∀ j, j < 260 * s + c → K' 40 j = K 40 j ∧ K' 41 j = K 41 j) ∧ ∀ j, j ≠ s → K' 42 j = K 42 j
theorem KLC.rf {m : Nat} {I : PI} : KLC m I I := ⟨Kp.rf, fun _ _ => rfl⟩
theorem KLM.rf {s c : Nat} {I : PI} : KLM s c I I := ⟨Kp.rf, fun _ _ => ⟨rfl, rfl⟩, fun _ _ => rfl⟩
theorem KLC.tr {m m' : Nat} {I J H : PI} (h : KLC m I J) (h2 : KLC m' J H) (hm : m ≤ m') : KLC m I H := ⟨h.1.tr h2.1, fun j hj => (h2.2 j (by omega)).trans (h.2 j hj)⟩
theorem KLM.tr {s c c' : Nat} {I J H : PI} (h : KLM s c I J) (h2 : KLM s c' J H) (hm : c ≤ c') : KLM s c I H := ⟨h.1.tr h2.1, fun j hj => ⟨((h2.2.1 j (by omega)).1).trans (h.2.1 j hj).1, ((h2.2.1 j (by omega)).2).trans (h.2.1 j hj).2⟩, fun j hj => (h2.2.2 j hj).trans (h.2.2 j hj)⟩
theorem k10_LC {m : Nat} {I J : PI} (h : Kp d10 I J) : KLC m I J := ⟨h.mono (fun a k q => by unfold d10 at q; unfold dLC; omega), fun j _ => h 17 j (by unfold d10; omega)⟩
def d345 (a k : Nat) : Prop := a = 12 ∧ (k = 3 ∨ k = 4 ∨ k = 5)
theorem k345_LM {s c : Nat} {I J : PI} (h : Kp d345 I J) : KLM s c I J := ⟨h.mono (fun a k q => by unfold d345 at q; unfold dLM; omega), fun j _ => ⟨h 40 j (by unfold d345; omega), h 41 j (by unfold d345; omega)⟩, fun j _ => h 42 j (by unfold d345; omega)⟩
theorem d12_345 {I J : PI} (h : Kp d12 I J) : Kp d345 I J := h.mono (fun a k q => by unfold d12 at q; unfold d345; omega)
theorem dT_LC {I J : PI} (h : Kp dLC I J) : ∀ a k, dT a k → J a k = I a k := fun a k hc => h a k (fun q => by unfold dLC at q; unfold dT at hc; omega)
theorem dT_LM {I J : PI} (h : Kp dLM I J) : ∀ a k, dT a k → J a k = I a k := fun a k hc => h a k (fun q => by unfold dLM at q; unfold dT at hc; omega)
theorem d345_LM {I J : PI} (h : Kp d345 I J) : Kp dLM I J := h.mono (fun a k q => by unfold d345 at q; unfold dLM; omega)
def JS (s n : Nat) (T : Nat → Nat) (p m c d : Nat) (I K : PI) : Prop := TP I n T ∧ TM K n T ∧ p ≤ n ∧ I 10 2 = nI p ∧ K 12 3 = nI p ∧ K 12 4 = -1 ∧ I 6 2 = nI m ∧ K 12 14 = nI s ∧ K 42 s = nI c ∧ K 12 5 = nI d ∧ m ≤ p ∧ c ≤ p ∧ d ≤ 6 ∧ s ≤ 6
/-- both are at a fault, or the class is before a fifth digit -/
def JX (s n : Nat) (T : Nat → Nat) (p m c : Nat) (x : Int32) (J K : PI) : Prop := ∃ p' m' c' : Nat, p ≤ p' ∧ p' ≤ n ∧ (m ≤ m' ∧ m' + p ≤ m + p') ∧ (c ≤ c' ∧ c' + p ≤ c + p') ∧ TP J n T ∧ TM K n T ∧ J 10 2 = nI p' ∧ K 12 4 = nI p' ∧ J 6 2 = nI m' ∧ K 12 14 = nI s ∧ K 42 s = nI c' ∧ (x = 0 ∨ (x = 1 ∧ isDg T n p' = true))
def JW (lg : Bool) (r s n : Nat) (T : Nat → Nat) (p m c d : Nat) (J K : PI) : Prop := ∃ (w : List (Nat × Nat)) (p' : Nat), Gd lg r w ∧ p < p' ∧ w.length + p ≤ p' ∧ JS s n T p' (m + w.length) (c + w.length) d J K ∧ seg (J 17) eC m w ∧ seg (K 40) (fun t => nI t.1) (260 * s + c) w ∧ seg (K 41) (fun t => nI t.2) (260 * s + c) w
def OUT (lg : Bool) (r s n : Nat) (T : Nat → Nat) (p m c d : Nat) (I K : PI) (x : Int32) (J K' : PI) : Prop := KLC m I J ∧ KLM s c K K' ∧ ((x = 1 ∧ JW lg r s n T p m c d J K') ∨ JX s n T p m c x J K')
def RJ (L : PL) (s n : Nat) (T : Nat → Nat) (d : Nat) (lg : Bool) (r : Nat) (fc fm : PI → PL → RES) : Prop := ∀ (p m c : Nat) (I K : PI), JS s n T p m c d I K → ∃ (x : Int32) (J K' : PI), fc I L = some (some (.int x), J, L) ∧ fm K L = some (none, K', L) ∧ OUT lg r s n T p m c d I K x J K'
section LAWJ
variable {N s n p m c d : Nat} {T : Nat → Nat} {L : PL}
theorem JS.next {I K : PI} (hN : 20000 ≤ N) (j : JS s n T p m c d I K) : ∃ I1 K1 : PI, f_X10_next N I L = some (some (.int (cpC T n (skp T n p))), I1, L) ∧ f_X12_look N K L = some (some (.int (cpM T n (skp T n p))), K1, L) ∧ JS s n T (skp T n p) m c d I1 K1 ∧ Kp d10 I I1 ∧ Kp d12 K K1 := by
  obtain ⟨h1, h2, h3, h4, h5, h6, h7, h8, h9, h10, h11, h12, h13, h14⟩ := j
  obtain ⟨I1, e1, k1, q1⟩ := next10 (N := N) (L := L) hN h1 h3 h4
  obtain ⟨K1, f1, m1, r1⟩ := look12 (N := N) (L := L) hN h2 h3 h5
  have hs := skp_le (T := T) h3
  exact ⟨I1, K1, e1, f1, ⟨h1.cong (d10_dT k1), h2.cong (d12_dT m1), hs.2, q1, r1, (m1 12 4 (by unfold d12; omega)).trans h6, (k1 6 2 (by unfold d10; omega)).trans h7, (m1 12 14 (by unfold d12; omega)).trans h8, (m1 42 s (by unfold d12; omega)).trans h9, (m1 12 5 (by unfold d12; omega)).trans h10, by omega, by omega, h13, h14⟩, k1, m1⟩
theorem JS.nx {I K : PI} (hN : 20000 ≤ N) (j : JS s n T p m c d I K) (hp : skp T n p = p) : ∃ I1 K1 : PI, f_X10_next N I L = some (some (.int (cpC T n p)), I1, L) ∧ f_X12_look N K L = some (some (.int (cpM T n p)), K1, L) ∧ JS s n T p m c d I1 K1 ∧ Kp d10 I I1 ∧ Kp d12 K K1 := by
  have h := j.next (N := N) (L := L) hN
  rw [hp] at h
  exact h
theorem JS.step {I K : PI} (j : JS s n T p m c d I K) (hp : p < n) : JS s n T (p + 1) m c d (uI I 10 2 (nI (p + 1))) (uI K 12 3 (nI (p + 1))) := by
  obtain ⟨h1, h2, h3, h4, h5, h6, h7, h8, h9, h10, h11, h12, h13, h14⟩ := j
  exact ⟨h1.cong (d10_dT (Kp.rf.up ⟨rfl, rfl⟩)), h2.cong (d12_dT (Kp.rf.up ⟨rfl, rfl⟩)), hp, uI_eq, uI_eq, (uI_ne (by omega)).trans h6, (uI_ne (by omega)).trans h7, (uI_ne (by omega)).trans h8, (uI_ne (by omega)).trans h9, (uI_ne (by omega)).trans h10, by omega, by omega, h13, h14⟩
theorem make_s {a : Int32} {I : PI} (h : I 6 2 = nI m) (hm : m < 120) : f_X6_make N a I L = some (none, uI (uI I 17 m a) 6 2 (nI (m + 1)), L) := by
  unfold f_X6_make
  rw [h, show (120 : Int32) = nI 120 from rfl, if_neg (nI_ge hm (by omega)), gd_in hm (by omega), nI_clamp (by omega), nmW_s, uI_ne (by omega), h, nI_1, nmW_s]
theorem makeSign_s {a : Int32} {I : PI} (h : I 6 2 = nI m) (hm : m < 120) : f_X6_makeSign N a I L = some (none, uI (uI I 17 m (-a)) 6 2 (nI (m + 1)), L) := by
  unfold f_X6_makeSign
  rw [make_s h hm, bV_s]
theorem putM_s {a b : Int32} {K : PI} (hs : s ≤ 6) (h : K 12 14 = nI s) (h2 : K 42 s = nI c) (hc : c < 260) : f_X12_put N a b K L = some (none, uI (uI (uI K 40 (260 * s + c) a) 41 (260 * s + c) b) 42 s (nI (c + 1)), L) := by
  unfold f_X12_put
  rw [h, gd_in (by omega) (by omega), nI_clamp (by omega), h2, show (260 : Int32) = nI 260 from rfl, pk_mul, nI_add, gd_in (by omega) (by omega), nI_clamp (by omega), nmW_s, uI_ne (by omega), h, gd_in (by omega) (by omega), nI_clamp (by omega), uI_ne (by omega), h2, pk_mul, nI_add, gd_in (by omega) (by omega), nI_clamp (by omega), nmW_s, uI_ne (by omega), uI_ne (by omega), h, gd_in (by omega) (by omega), gd_in (by omega) (by omega), nI_clamp (by omega), uI_ne (by omega), uI_ne (by omega), h2, nI_1, nmW_s]
theorem putK {a b : Int32} {K : PI} : KLM s c K (uI (uI (uI K 40 (260 * s + c) a) 41 (260 * s + c) b) 42 s (nI (c + 1))) := ⟨((Kp.rf.up (by unfold dLM; omega)).up (by unfold dLM; omega)).up (by unfold dLM; omega), fun j hj => ⟨by rw [uI_ne (by omega), uI_ne (by omega), uI_ne (by omega)], by rw [uI_ne (by omega), uI_ne (by omega), uI_ne (by omega)]⟩, fun j hj => by rw [uI_ne (by omega), uI_ne (by omega), uI_ne (by omega)]⟩
theorem makeK {a : Int32} {I : PI} : KLC m I (uI (uI I 17 m a) 6 2 (nI (m + 1))) := ⟨(Kp.rf.up (by unfold dLC; omega)).up (by unfold dLC; omega), fun j hj => by rw [uI_ne (by omega), uI_ne (by omega)]⟩
/-- both write one -/
theorem JS.write {a b e : Int32} {I K : PI} (j : JS s n T p m c d I K) (hm : m + 1 ≤ p) (hc : c + 1 ≤ p) : JS s n T p (m + 1) (c + 1) d (uI (uI I 17 m e) 6 2 (nI (m + 1))) (uI (uI (uI K 40 (260 * s + c) a) 41 (260 * s + c) b) 42 s (nI (c + 1))) := by
  obtain ⟨h1, h2, h3, h4, h5, h6, h7, h8, h9, h10, h11, h12, h13, h14⟩ := j
  exact ⟨h1.cong (dT_LC (makeK (m := m)).1), h2.cong (dT_LM (putK (s := s) (c := c)).1), h3, by rw [uI_ne (by omega), uI_ne (by omega), h4], by rw [uI_ne (by omega), uI_ne (by omega), uI_ne (by omega), h5], by rw [uI_ne (by omega), uI_ne (by omega), uI_ne (by omega), h6], uI_eq, by rw [uI_ne (by omega), uI_ne (by omega), uI_ne (by omega), h8], uI_eq, by rw [uI_ne (by omega), uI_ne (by omega), uI_ne (by omega), h10], hm, hc, h13, h14⟩
theorem chC_n {I : PI} {x : Int32} {a : Nat} (t : TP I n T) (h : isCh T n p a = false) (hx : x = nI a) (ha : 1 ≤ a) (h2 : a < 2 ^ 31) : ¬ cpC T n p = x := fun q => by
  rw [hx] at q
  rw [(chC_eq t ha h2).mp q] at h
  cases h
theorem chM_n {I : PI} {x : Int32} {a : Nat} (t : TM I n T) (h : isCh T n p a = false) (hx : x = nI a) (h2 : a < 2 ^ 31) : ¬ cpM T n p = x := fun q => by
  rw [hx] at q
  rw [(chM_eq t h2).mp q] at h
  cases h
theorem chC_y {I : PI} {x : Int32} {a : Nat} (t : TP I n T) (h : isCh T n p a = true) (hx : x = nI a) (ha : 1 ≤ a) (h2 : a < 2 ^ 31) : cpC T n p = x := by rw [hx]; exact (chC_eq t ha h2).mpr h
theorem chM_y {I : PI} {x : Int32} {a : Nat} (t : TM I n T) (h : isCh T n p a = true) (hx : x = nI a) (h2 : a < 2 ^ 31) : cpM T n p = x := by rw [hx]; exact (chM_eq t h2).mpr h
theorem isCh_u {a b : Nat} (h : isCh T n p a = true) (hab : a ≠ b) : isCh T n p b = false := decide_eq_false (fun q => hab ((of_decide_eq_true h).2.symm.trans q.2))
theorem isCh_dg {a : Nat} (h : isCh T n p a = true) (hab : a < 48 ∨ 57 < a) : isDg T n p = false := decide_eq_false (fun q => by have := (of_decide_eq_true h).2; omega)
/-- the fault of both, here -/
theorem JS.bad {I K : PI} (j : JS s n T p m c d I K) : JX s n T p m c 0 I (uI K 12 4 (nI p)) := by
  obtain ⟨h1, h2, h3, h4, h5, h6, h7, h8, h9, h10, h11, h12, h13, h14⟩ := j
  exact ⟨p, m, c, by omega, h3, by omega, by omega, h1, h2.cong (fun a k q => uI_ne (by unfold dT at q; omega)), h4, uI_eq, h7, (uI_ne (by omega)).trans h8, (uI_ne (by omega)).trans h9, Or.inl rfl⟩
theorem JX.of {p0 m0 c0 p m c : Nat} {x : Int32} {J K : PI} (h : JX s n T p m c x J K) (hp : p0 ≤ p) (hm : m0 ≤ m ∧ m + p0 ≤ m0 + p) (hc : c0 ≤ c ∧ c + p0 ≤ c0 + p) : JX s n T p0 m0 c0 x J K := by
  obtain ⟨p', m', c', h1, h2, h3, h4, h5⟩ := h
  exact ⟨p', m', c', by omega, h2, by omega, by omega, h5⟩
theorem numLp : ∀ (t k l i v p : Nat) (I K : PI), i + t = 4 → t < k → t < l → v < 10 ^ i → JS s n T p m c d I K → ∃ (q v' : Nat) (J K' : PI), p ≤ q ∧ q ≤ p + t ∧ v' ≤ 9999 ∧ (isDg T n p = true → 0 < t → p < q) ∧ F_X6_number_4 N k (nI v) (nI i) I L = F_X6_number_46 N (nI v') (nI (i + (q - p))) J L ∧ F_X12_plainNumber_4 N l (nI v) (nI i) K L = F_X12_plainNumber_48 N (nI v') K' L ∧ JS s n T q m c d J K' ∧ Kp d10 I J ∧ Kp d12 K K' := by
  intro t
  induction t with
  | zero =>
    intro k l i v p I K hi hk hl hv j
    obtain ⟨k, rfl⟩ : ∃ q, k = q + 1 := ⟨k - 1, by omega⟩
    obtain ⟨l, rfl⟩ : ∃ q, l = q + 1 := ⟨l - 1, by omega⟩
    have e4 : i = 4 := by omega
    subst e4
    refine ⟨p, v, I, K, by omega, by omega, by have : (10 : Nat) ^ 4 = 10000 := rfl; omega, fun _ q => by omega, ?_, ?_, j, Kp.rf, Kp.rf⟩
    · rw [F_X6_number_4, show (4 : Int32) = nI 4 from rfl, if_pos (nI_le (by omega) (by omega)), Nat.sub_self]
    · rw [F_X12_plainNumber_4, show (4 : Int32) = nI 4 from rfl, if_pos (nI_le (by omega) (by omega))]
  | succ t ih =>
    intro k l i v p I K hi hk hl hv j
    obtain ⟨k, rfl⟩ : ∃ q, k = q + 1 := ⟨k - 1, by omega⟩
    obtain ⟨l, rfl⟩ : ∃ q, l = q + 1 := ⟨l - 1, by omega⟩
    have j0 := j
    obtain ⟨h1, h2, h3, h4, h5, h6, h7, h8, h9, h10, h11, h12, h13, h14⟩ := j
    have hn := h1.1
    have hpow : (10 : Nat) ^ i ≤ 10 ^ 3 := Nat.pow_le_pow_right (by omega) (by omega)
    have h3p : (10 : Nat) ^ 3 = 1000 := rfl
    rw [F_X6_number_4, F_X12_plainNumber_4, show (4 : Int32) = nI 4 from rfl, if_neg (nI_ge (by omega) (by omega)), dg10 h1 h3 h4, bI_s, if_neg (nI_ge (by omega) (by omega)), here12 h2 h3 h5, bI_s, dg12 h2, bI_s]
    cases hd : isDg T n p with
    | false =>
      rw [if_neg (show ¬ (false = true) by decide), if_pos rfl, ifz_f rfl]
      exact ⟨p, v, I, K, by omega, by omega, by omega, (fun q => by cases q), by rw [Nat.sub_self]; rfl, rfl, j0, Kp.rf, Kp.rf⟩
    | true =>
      obtain ⟨d1, d2, d3⟩ := isDg_t hd
      have c1 : cpM T n p = nI (T p) := if_pos d1
      have ps : (10 : Nat) ^ (i + 1) = 10 ^ i * 10 := rfl
      rw [if_pos rfl, if_neg (m_ne' (by omega)), dg10 h1 h3 h4, bI_s, hd, if_pos rfl, show (10 : Int32) = nI 10 from rfl, pk_mul, nI_add, nmI_s, step10 h1 d1 h4, bV_s, nI_1, ifz_t rfl, here12 h2 h3 h5, bI_s, c1, pk_mul, nI_add, show (48 : Int32) = nI 48 from rfl, nsub (by omega), nmI_s, h5, nI_1, nmW_s, show 10 * v + T p - 48 = v * 10 + (T p - 48) by omega]
      obtain ⟨q, v', J, K', g1, g2, g3, -, g4, g5, g6, g7, g8⟩ := ih k l (i + 1) (v * 10 + (T p - 48)) (p + 1) (uI I 10 2 (nI (p + 1))) (uI K 12 3 (nI (p + 1))) (by omega) (by omega) (by omega) (by omega) (j0.step d1)
      refine ⟨q, v', J, K', by omega, by omega, g3, fun _ _ => by omega, ?_, g5, g6, (Kp.rf.up ⟨rfl, rfl⟩).tr g7, (Kp.rf.up ⟨rfl, rfl⟩).tr g8⟩
      rw [g4, show i + 1 + (q - (p + 1)) = i + (q - p) by omega]
end LAWJ
