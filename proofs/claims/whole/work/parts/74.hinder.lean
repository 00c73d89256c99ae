theorem zI_1 (z : Int) : zI z + 1 = zI (z + 1) := zI_add z 1
/-! a code against another and the other against it -/
theorem sumW_min {h : Nat → Int32} {a b : Nat} : sumW (fun j => if j < a then h j else 0) b = sumW h (min a b) := by
  by_cases e : a ≤ b
  · rw [sumW_ext e (fun k h1 _ => if_neg (by omega)), sumW_congr (g := h) a (fun k hk => if_pos hk), Nat.min_eq_left e]
  · rw [sumW_congr (g := h) b (fun k hk => if_pos (by omega)), Nat.min_eq_right (by omega)]
theorem sum_shift {f : Nat → Nat → Int32} {w ns nt : Nat} : sumW (fun k => if w ≤ k ∧ k - w < nt then f k (k - w) else 0) ns = sumW (fun j => if j + w < ns then f (j + w) j else 0) nt := by
  by_cases h : w ≤ ns
  · obtain ⟨q, rfl⟩ : ∃ q, ns = w + q := ⟨ns - w, by omega⟩
    rw [sumW_split, sumW_0 w (fun k hk => if_neg (by omega)), Int32.zero_add, sumW_congr (g := fun j => if j < nt then f (j + w) j else 0) q (fun j _ => by
      by_cases hj : j < nt
      · rw [if_pos (by omega), if_pos hj, Nat.add_sub_cancel_left, Nat.add_comm w j]
      · rw [if_neg (by omega), if_neg hj]), sumW_congr (f := fun j => if j + w < w + q then f (j + w) j else 0) (g := fun j => if j < q then f (j + w) j else 0) nt (fun j _ => by
      by_cases hj : j < q
      · rw [if_pos (by omega), if_pos hj]
      · rw [if_neg (by omega), if_neg hj]), sumW_min, sumW_min, Nat.min_comm]
  · rw [sumW_0 ns (fun k hk => if_neg (by omega)), sumW_0 nt (fun k hk => if_neg (by omega))]
theorem sumW_neg {g : Nat → Int32} : ∀ n, sumW (fun k => -g k) n = -sumW g n := by
  intro n
  induction n with
  | zero => exact (by decide : (0 : Int32) = -0)
  | succ n ih =>
    rw [sumW_s, sumW_s, ih]
    grind
theorem pv_neg : ∀ a : Nat, a < 4 → ∀ b : Nat, b < 4 → partV (nI a - nI b) 1 = partV (nI b - nI a) 1 ∧ partV (nI a - nI b) 0 = -partV (nI b - nI a) 0 := by decide +kernel
def oneW : Nat → Int32 := fun _ => 1
theorem tm_one {s t : Nat → Nat} {nt k : Nat} {way : Int} {r : Int32} : tmW oneW s t nt way 0 r k = if 0 ≤ (k : Int) - way ∧ (k : Int) - way < nt then partV (nI (s k) - nI (t ((k : Int) - way).toNat)) r else 0 := by
  unfold tmW trn oneW
  rw [Int32.zero_mul, Int32.add_zero, Int32.one_mul]
/-- turned about, at a way from 0 on -/
theorem me_swap0 {s t : Nat → Nat} {ns nt w : Nat} {r : Int32} : meW oneW s t ns nt (w : Int) 0 r = sumW (fun j => if j + w < ns then partV (nI (s (j + w)) - nI (t j)) r else 0) nt := by
  unfold meW
  rw [← sum_shift (f := fun a b => partV (nI (s a) - nI (t b)) r)]
  refine sumW_congr ns (fun k _ => ?_)
  rw [tm_one]
  by_cases h : w ≤ k ∧ k - w < nt
  · rw [if_pos (by omega), if_pos h, show ((k : Int) - w).toNat = k - w by omega]
  · rw [if_neg (by omega), if_neg h]
theorem me_swap1 {s t : Nat → Nat} {ns nt w : Nat} {r : Int32} : meW oneW t s nt ns (-(w : Int)) 0 r = sumW (fun j => if j + w < ns then partV (nI (t j) - nI (s (j + w))) r else 0) nt := by
  unfold meW
  refine sumW_congr nt (fun k _ => ?_)
  rw [tm_one]
  by_cases h : k + w < ns
  · rw [if_pos (by omega), if_pos h, show ((k : Int) - -(w : Int)).toNat = k + w by omega]
  · rw [if_neg (by omega), if_neg h]
theorem me_sym0 {s t : Nat → Nat} {ns nt w : Nat} (hs : ∀ k, k < ns → s k < 4) (ht : ∀ k, k < nt → t k < 4) : meW oneW s t ns nt (w : Int) 0 1 = meW oneW t s nt ns (-(w : Int)) 0 1 ∧ meW oneW s t ns nt (w : Int) 0 0 = -meW oneW t s nt ns (-(w : Int)) 0 0 := by
  rw [me_swap0, me_swap0, me_swap1, me_swap1, ← sumW_neg]
  constructor
  · refine sumW_congr nt (fun j hj => ?_)
    by_cases h : j + w < ns
    · rw [if_pos h, if_pos h, (pv_neg _ (hs _ h) _ (ht _ hj)).1]
    · rw [if_neg h, if_neg h]
  · refine sumW_congr nt (fun j hj => ?_)
    by_cases h : j + w < ns
    · rw [if_pos h, if_pos h, (pv_neg _ (hs _ h) _ (ht _ hj)).2]
    · rw [if_neg h, if_neg h]; rfl
theorem me_sym {s t : Nat → Nat} {ns nt : Nat} {way : Int} (hs : ∀ k, k < ns → s k < 4) (ht : ∀ k, k < nt → t k < 4) : meW oneW s t ns nt way 0 1 = meW oneW t s nt ns (-way) 0 1 ∧ meW oneW s t ns nt way 0 0 = -meW oneW t s nt ns (-way) 0 0 := by
  by_cases h : 0 ≤ way
  · have e : way = ((way.toNat : Nat) : Int) := by omega
    rw [e]
    exact me_sym0 hs ht
  · have q := me_sym0 (s := t) (t := s) (ns := nt) (nt := ns) (w := (-way).toNat) ht hs
    rw [show (((-way).toNat : Nat) : Int) = -way by omega, Int.neg_neg] at q
    refine ⟨q.1.symm, ?_⟩
    rw [q.2, Int32.neg_neg]
theorem pw_sym {s t : Nat → Nat} {ns nt : Nat} {way : Int} (hs : ∀ k, k < ns → s k < 4) (ht : ∀ k, k < nt → t k < 4) : pwW oneW s t ns nt way 0 = pwW oneW t s nt ns (-way) 0 := by
  unfold pwW
  rw [(me_sym hs ht).1, (me_sym hs ht).2, Int32.neg_mul_neg]
/-! hinder -/
section HIN
variable {N m a b : Nat} {n : Nat → Nat} {S : Nat → Nat → Nat} {L : PL} {I : PI}
def HR (z : Int) : Prop := -23 ≤ z ∧ z < 24
def hP (n : Nat → Nat) (S : Nat → Nat → Nat) (a b : Nat) (z : Int) : Int32 := pwW oneW (S a) (S b) (n a) (n b) z 0
/-- hindrances as the class keeps them -/
def XHi (I : PI) (m : Nat) (n : Nat → Nat) (S : Nat → Nat → Nat) : Prop := ∀ a b, a < m → b < m → IsMx HR (hP n S a b) (I 22 (8 * a + b))
theorem hindLp (hN : 20000 ≤ N) (ha : a < m) (hb : b < m) : ∀ (t k : Nat) (z : Int) (v : Int32) (I : PI), z + t = 24 → -23 ≤ z → t < k → CSet I m n S → (∀ x, x < n b → I 53 x = oneW x) → IsMx (fun y : Int => -23 ≤ y ∧ y < z) (hP n S a b) v → ∃ (J : PI) (x : Int32), F_X12_hinderOf_12 N k (nI a) (nI b) v (zI z) I L = some (some (.int x), J, L) ∧ Kp dN I J ∧ IsMx HR (hP n S a b) x := by
  intro t
  induction t with
  | zero =>
    intro k z v I hz h1 hk r h53 hv
    obtain ⟨k, rfl⟩ : ∃ q, k = q + 1 := ⟨k - 1, by omega⟩
    obtain rfl : z = 24 := by omega
    rw [F_X12_hinderOf_12, if_pos (show (24 : Int32) ≤ zI 24 by decide)]
    exact ⟨I, v, rfl, Kp.rf, hv⟩
  | succ t ih =>
    intro k z v I hz h1 hk r h53 hv
    obtain ⟨k, rfl⟩ : ∃ q, k = q + 1 := ⟨k - 1, by omega⟩
    obtain ⟨J1, e1, k1, -, -, s1⟩ := sum12_s (L := L) (way := z) (sp := 0) hN (by omega) (by omega) ha hb r h53
    obtain ⟨J, x, g1, g2, g3⟩ := ih k (z + 1) (jmax v (hP n S a b z)) J1 (by omega) (by omega) (by omega) (r.cong (dG_dC (dN_dG k1))) (fun x hx => (k1 53 x (by unfold dN; omega)).trans (h53 x hx)) ((hv.add z).congr (fun y => by omega))
    refine ⟨J, x, ?_, k1.tr g2, g3⟩
    rw [F_X12_hinderOf_12, z24, if_neg (fun q => absurd ((zI_le (a := 24) (by omega) (by omega) (by omega) (by omega)).mp q) (by omega)), e1, bV_s, s1, nmI_s, show (1 : Int32) = zI 1 from rfl, zI_add]
    exact g1
theorem hindOf_s {I : PI} (hN : 20000 ≤ N) (ha : a < m) (hb : b < m) (r : CSet I m n S) : ∃ (J : PI) (x : Int32), f_X12_hinderOf N (nI a) (nI b) I L = some (some (.int x), J, L) ∧ Kp dG I J ∧ IsMx HR (hP n S a b) x := by
  obtain ⟨J1, e1, k1, w1⟩ := lay_s (I := I) (L := L) hN hb r WT.none
  obtain ⟨J, x, g1, g2, g3⟩ := hindLp (N := N) (L := L) hN ha hb 47 N (-23) 0 J1 (by omega) (by omega) (by omega) (r.cong (dG_dC k1)) w1 (IsMx.nil (fun z => by omega))
  refine ⟨J, x, ?_, k1.tr (dN_dG g2), g3⟩
  unfold f_X12_hinderOf
  rw [e1, bV_s, zm23]
  exact g1
theorem hindrance_s {I : PI} (ha : a < m) (hb : b < m) (r : CSet I m n S) : f_X4_hindrance N (nI a) (nI b) I L = some (some (.int (I 22 (8 * a + b))), I, L) := by
  have hm := r.1
  unfold f_X4_hindrance
  rw [r.has, bI_s, ifz_t (hz_t ha (by omega)), r.has, bI_s, ifz_t (hz_t hb (by omega)), show (8 : Int32) = nI 8 from rfl, pk_mul, nI_add, gd_in (by omega) (by omega), nI_clamp (by omega), Nat.mul_comm a 8]
theorem IsMx.uni {α : Type} {R : α → Prop} {P : α → Int32} {x y : Int32} (h : IsMx R P x) (h' : IsMx R P y) : x = y := h.eq h' (fun z hz => Or.inr ⟨z, hz, rfl⟩) (fun z hz => Or.inr ⟨z, hz, rfl⟩)
end HIN
/-- X tells the hindrances -/
def XH (X : PI → Prop) : Prop := ∀ (I : PI) (m : Nat) (n : Nat → Nat) (S : Nat → Nat → Nat), X I → CSet I m n S → XHi I m n S
theorem case_hinder {X : PI → Prop} (hX : Xok X) {N : Nat} (hN : 20000 ≤ N) (hXH : XH X) (a1 a2 : Int32) : CaseI (Inv X) (f_X11_hinder N a1 a2) (f_X12_hinder N a1 a2) := by
  intro I L hI
  have hI0 := hI
  obtain ⟨-, -, hC, -, -, -, -, hx⟩ := hI
  obtain ⟨m, n, S, r⟩ := hC.set
  have hm := r.1
  have eC := f_X11_hinder.eq_1 N a1 a2 I L
  have eM := f_X12_hinder.eq_1 N a1 a2 I L
  rw [r.has, bI_s] at eC
  rw [r.is, bI_s] at eM
  cases hq : hz a1 m with
  | false =>
    rw [ifz_f hq] at eC eM
    exact ⟨-1, I, L, I, L, eC, eM, hI0⟩
  | true =>
    rw [ifz_t hq, r.has, bI_s] at eC
    rw [ifz_t hq, r.is, bI_s] at eM
    cases hp : hz a2 m with
    | false =>
      rw [ifz_f hp] at eC eM
      exact ⟨-1, I, L, I, L, eC, eM, hI0⟩
    | true =>
      obtain ⟨a, ha, rfl⟩ := (hz_iff (by omega)).mp hq
      obtain ⟨b, hb, rfl⟩ := (hz_iff (by omega)).mp hp
      obtain ⟨J, x, e1, k1, mx⟩ := hindOf_s (L := L) hN ha hb r
      rw [ifz_t hp, hindrance_s ha hb r, bI_s] at eC
      rw [ifz_t hp, e1, bI_s, mx.uni (hXH I m n S hx r a b ha hb)] at eM
      exact ⟨_, I, L, J, L, eC, eM, hI0.keep hX k1 dG_free⟩
/-! friends -/
theorem two_all : ∀ x : Nat, x < 256 → ∀ a : Nat, a < 8 → ∀ b : Nat, b < 8 → (((((nI x >>> (nI a &&& 31)) &&& (nI x >>> (nI b &&& 31))) &&& 1) = 1) ↔ (x.testBit a = true ∧ x.testBit b = true)) := by decide +kernel
section FRI
variable {N m a : Nat} {n : Nat → Nat} {S : Nat → Nat → Nat} {L : PL} {I : PI}
def Fr (I : PI) (x a b : Nat) (bd : Int32) : Prop := x.testBit a = true → x.testBit b = true → I 22 (8 * a + b) ≤ bd
theorem fri16 {x : Nat} {bd : Int32} {r2 : Int32 → Int32 → Int32 → PI → PL → RES} (hx : x < 256) (r : CSet I m n S) (ha : a < m) : ∀ (t k b : Nat), b + t = a → t < k → (F_X4_areFriends_16 N r2 k (nI x) bd (nI a) (nI b) I L = r2 (nI x) bd (nI (a + 1)) I L ∧ ∀ b', b ≤ b' → b' < a → Fr I x a b' bd) ∨ (F_X4_areFriends_16 N r2 k (nI x) bd (nI a) (nI b) I L = some (some (.int 0), I, L) ∧ ∃ b', b' < a ∧ ¬ Fr I x a b' bd) := by
  have hm := r.1
  intro t
  induction t with
  | zero =>
    intro k b hb hk
    obtain ⟨k, rfl⟩ : ∃ q, k = q + 1 := ⟨k - 1, by omega⟩
    rw [F_X4_areFriends_16, if_pos (nI_le (by omega) (by omega)), nI_1]
    exact Or.inl ⟨rfl, fun b' h1 h2 => by omega⟩
  | succ t ih =>
    intro k b hb hk
    obtain ⟨k, rfl⟩ : ∃ q, k = q + 1 := ⟨k - 1, by omega⟩
    rw [F_X4_areFriends_16, if_neg (nI_ge (by omega) (by omega))]
    unfold F_X4_areFriends_41
    have ih' := ih k (b + 1) (by omega) (by omega)
    have go : Fr I x a b bd → (F_X4_areFriends_16 N r2 k (nI x) bd (nI a) (nI (b + 1)) I L = r2 (nI x) bd (nI (a + 1)) I L ∧ ∀ b', b ≤ b' → b' < a → Fr I x a b' bd) ∨ (F_X4_areFriends_16 N r2 k (nI x) bd (nI a) (nI (b + 1)) I L = some (some (.int 0), I, L) ∧ ∃ b', b' < a ∧ ¬ Fr I x a b' bd) := fun hf => by
      rcases ih' with ⟨e, g⟩ | h
      · refine Or.inl ⟨e, fun b' h1 h2 => ?_⟩
        by_cases eb : b' = b
        · rw [eb]; exact hf
        · exact g b' (by omega) h2
      · exact Or.inr h
    by_cases ht : x.testBit a = true ∧ x.testBit b = true
    · rw [if_pos ((two_all x hx a (by omega) b (by omega)).mpr ht), if_neg ne_10, hindrance_s ha (by omega) r, bI_s, nI_1]
      by_cases hle : I 22 (8 * a + b) ≤ bd
      · rw [if_pos hle]
        exact go (fun _ _ => hle)
      · rw [if_neg hle, gd_k0]
        exact Or.inr ⟨rfl, b, by omega, fun h => hle (h ht.1 ht.2)⟩
    · rw [if_neg (fun q => ht ((two_all x hx a (by omega) b (by omega)).mp q)), if_pos rfl, nI_1]
      exact go (fun h1 h2 => absurd ⟨h1, h2⟩ ht)
theorem fri2 {x : Nat} {bd : Int32} (hN : 20000 ≤ N) (hx : x < 256) (r : CSet I m n S) : ∀ (t k a : Nat), a + t = m → t < k → ∃ q : Bool, F_X4_areFriends_2 N k (nI x) bd (nI a) I L = some (some (.int (bif q then 1 else 0)), I, L) ∧ (q = true ↔ ∀ a' b', a ≤ a' → a' < m → b' < a' → Fr I x a' b' bd) := by
  have hm := r.1
  intro t
  induction t with
  | zero =>
    intro k a hb hk
    obtain ⟨k, rfl⟩ : ∃ q, k = q + 1 := ⟨k - 1, by omega⟩
    rw [F_X4_areFriends_2, r.2.1, if_pos (nI_le (by omega) (by omega)), gd_k1]
    exact ⟨true, rfl, fun _ a' b' h1 h2 => by omega, fun _ => rfl⟩
  | succ t ih =>
    intro k a hb hk
    obtain ⟨k, rfl⟩ : ∃ q, k = q + 1 := ⟨k - 1, by omega⟩
    obtain ⟨q, q1, q2⟩ := ih k (a + 1) (by omega) (by omega)
    rw [F_X4_areFriends_2, r.2.1, if_neg (nI_ge (by omega) (by omega))]
    rcases fri16 (N := N) (L := L) (bd := bd) (r2 := F_X4_areFriends_2 N k) hx r (by omega : a < m) a N 0 (by omega) (by omega) with ⟨e, g⟩ | ⟨e, b', g1, g2⟩
    · have e' : F_X4_areFriends_16 N (F_X4_areFriends_2 N k) N (nI x) bd (nI a) 0 I L = _ := e
      rw [e']
      refine ⟨q, q1, q2.trans ⟨fun h a' b' h1 h2 h3 => ?_, fun h a' b' h1 h2 h3 => h a' b' (by omega) h2 h3⟩⟩
      by_cases ea : a' = a
      · rw [ea] at h3 ⊢; exact g b' (Nat.zero_le _) h3
      · exact h a' b' (by omega) h2 h3
    · have e' : F_X4_areFriends_16 N (F_X4_areFriends_2 N k) N (nI x) bd (nI a) 0 I L = _ := e
      rw [e']
      exact ⟨false, rfl, fun h => (by cases h), fun h => absurd (h a b' (Nat.le_refl a) (by omega) g1) g2⟩
theorem frm13 {x : Nat} {bd : Int32} {r2 : Int32 → Int32 → Int32 → PI → PL → RES} (hN : 20000 ≤ N) (hx : x < 256) (r : CSet I m n S) (hh : XHi I m n S) (ha : a < m) : ∀ (t k b : Nat) (I' : PI), b + t = a → t < k → Kp dG I I' → ∃ J : PI, Kp dG I' J ∧ ((F_X12_areFriends_13 N r2 k (nI x) bd (nI a) (nI b) I' L = r2 (nI x) bd (nI (a + 1)) J L ∧ ∀ b', b ≤ b' → b' < a → Fr I x a b' bd) ∨ (F_X12_areFriends_13 N r2 k (nI x) bd (nI a) (nI b) I' L = some (some (.int 0), J, L) ∧ ∃ b', b' < a ∧ ¬ Fr I x a b' bd)) := by
  have hm := r.1
  intro t
  induction t with
  | zero =>
    intro k b I' hb hk hK
    obtain ⟨k, rfl⟩ : ∃ q, k = q + 1 := ⟨k - 1, by omega⟩
    rw [F_X12_areFriends_13, if_pos (nI_le (by omega) (by omega)), nI_1]
    exact ⟨I', Kp.rf, Or.inl ⟨rfl, fun b' h1 h2 => by omega⟩⟩
  | succ t ih =>
    intro k b I' hb hk hK
    obtain ⟨k, rfl⟩ : ∃ q, k = q + 1 := ⟨k - 1, by omega⟩
    have go : Fr I x a b bd → ∀ J', Kp dG I' J' → ∃ J : PI, Kp dG I' J ∧ ((F_X12_areFriends_13 N r2 k (nI x) bd (nI a) (nI (b + 1)) J' L = r2 (nI x) bd (nI (a + 1)) J L ∧ ∀ b', b ≤ b' → b' < a → Fr I x a b' bd) ∨ (F_X12_areFriends_13 N r2 k (nI x) bd (nI a) (nI (b + 1)) J' L = some (some (.int 0), J, L) ∧ ∃ b', b' < a ∧ ¬ Fr I x a b' bd)) := fun hf J' hJ' => by
      obtain ⟨J, g0, g⟩ := ih k (b + 1) J' (by omega) (by omega) (hK.tr hJ')
      refine ⟨J, hJ'.tr g0, ?_⟩
      rcases g with ⟨e, g⟩ | h
      · refine Or.inl ⟨e, fun b' h1 h2 => ?_⟩
        by_cases eb : b' = b
        · rw [eb]; exact hf
        · exact g b' (by omega) h2
      · exact Or.inr h
    rw [F_X12_areFriends_13, if_neg (nI_ge (by omega) (by omega)), has12_s hx (by omega), bI_s]
    cases h1 : x.testBit a with
    | false =>
      rw [ifz_f rfl, nI_1]
      exact go (fun h _ => by rw [h1] at h; cases h) I' Kp.rf
    | true =>
      rw [ifz_t rfl, has12_s hx (by omega), bI_s]
      cases h2 : x.testBit b with
      | false =>
        rw [ifz_f rfl, nI_1]
        exact go (fun _ h => by rw [h2] at h; cases h) I' Kp.rf
      | true =>
        obtain ⟨J1, y, e1, k1, mx⟩ := hindOf_s (I := I') (L := L) hN ha (by omega : b < m) (r.cong (dG_dC hK))
        have ey : y = I 22 (8 * a + b) := mx.uni (hh a b ha (by omega))
        rw [ifz_t rfl, e1, bI_s, ey, nI_1]
        by_cases hle : I 22 (8 * a + b) ≤ bd
        · rw [if_pos hle]
          exact go (fun _ _ => hle) J1 k1
        · rw [if_neg hle, gd_k0]
          exact ⟨J1, k1, Or.inr ⟨rfl, b, by omega, fun h => hle (h h1 h2)⟩⟩
theorem frm2 {x : Nat} {bd : Int32} (hN : 20000 ≤ N) (hx : x < 256) (r : CSet I m n S) (hh : XHi I m n S) : ∀ (t k a : Nat), a + t = m → t < k → ∃ q : Bool, (q = true ↔ ∀ a' b', a ≤ a' → a' < m → b' < a' → Fr I x a' b' bd) ∧ An dG I L (F_X12_areFriends_2 N k (nI x) bd (nI a)) (bif q then 1 else 0) := by
  have hm := r.1
  intro t
  induction t with
  | zero =>
    intro k a hb hk
    obtain ⟨k, rfl⟩ : ∃ q, k = q + 1 := ⟨k - 1, by omega⟩
    refine ⟨true, ⟨fun _ a' b' h1 h2 => by omega, fun _ => rfl⟩, An.pure fun I' hK => ?_⟩
    rw [F_X12_areFriends_2, (r.cong (dG_dC hK)).2.2.1, if_pos (nI_le (by omega) (by omega)), gd_k1]
    rfl
  | succ t ih =>
    intro k a hb hk
    obtain ⟨k, rfl⟩ : ∃ q, k = q + 1 := ⟨k - 1, by omega⟩
    obtain ⟨q, q2, q1⟩ := ih k (a + 1) (by omega) (by omega)
    by_cases hbad : ∃ b', b' < a ∧ ¬ Fr I x a b' bd
    · refine ⟨false, ⟨fun h => (by cases h), fun h => ?_⟩, fun I' hK => ?_⟩
      · obtain ⟨b', g1, g2⟩ := hbad
        exact absurd (h a b' (Nat.le_refl a) (by omega) g1) g2
      · obtain ⟨J, kJ, g⟩ := frm13 (N := N) (L := L) (bd := bd) (r2 := F_X12_areFriends_2 N k) hN hx r hh (by omega : a < m) a N 0 I' (by omega) (by omega) hK
        rw [F_X12_areFriends_2, (r.cong (dG_dC hK)).2.2.1, if_neg (nI_ge (by omega) (by omega))]
        rcases g with ⟨-, g⟩ | ⟨e, -⟩
        · obtain ⟨b', g1, g2⟩ := hbad
          exact absurd (g b' (Nat.zero_le _) g1) g2
        · exact ⟨J, e, kJ⟩
    · refine ⟨q, q2.trans ⟨fun h a' b' h1 h2 h3 => ?_, fun h a' b' h1 h2 h3 => h a' b' (by omega) h2 h3⟩, fun I' hK => ?_⟩
      · by_cases ea : a' = a
        · rw [ea] at h3 ⊢
          exact Classical.byContradiction fun hn => hbad ⟨b', h3, hn⟩
        · exact h a' b' (by omega) h2 h3
      · obtain ⟨J, kJ, g⟩ := frm13 (N := N) (L := L) (bd := bd) (r2 := F_X12_areFriends_2 N k) hN hx r hh (by omega : a < m) a N 0 I' (by omega) (by omega) hK
        rcases g with ⟨e, -⟩ | ⟨-, g⟩
        · obtain ⟨J2, e2, k2⟩ := q1 J (hK.tr kJ)
          refine ⟨J2, ?_, kJ.tr k2⟩
          have e' : F_X12_areFriends_13 N (F_X12_areFriends_2 N k) N (nI x) bd (nI a) 0 I' L = _ := e
          rw [F_X12_areFriends_2, (r.cong (dG_dC hK)).2.2.1, if_neg (nI_ge (by omega) (by omega)), e']
          exact e2
        · exact absurd g hbad
theorem friLp {bd : Int32} (hN : 20000 ≤ N) (r : CSet I m n S) (hh : XHi I m n S) : ∀ (t k l i y : Nat), i + t = 2 ^ m → t < k → t < l → y < 256 → ∃ z : Nat, F_X4_mostFriends_4 N k bd (nI y) (nI i) I L = some (some (.int (nI z)), I, L) ∧ An dG I L (F_X12_friends_17 N l bd (nI y) (nI i)) (nI z) := by
  have hm := r.1
  have e3 : 2 ^ m ≤ 256 := Nat.pow_le_pow_right (by decide) hm
  intro t
  induction t with
  | zero =>
    intro k l i y hi hk hl hy
    obtain ⟨k, rfl⟩ : ∃ q, k = q + 1 := ⟨k - 1, by omega⟩
    obtain ⟨l, rfl⟩ : ∃ q, l = q + 1 := ⟨l - 1, by omega⟩
    refine ⟨y, ?_, An.pure fun I' hK => ?_⟩
    · rw [F_X4_mostFriends_4, r.2.1, shl_n m (by omega), if_pos (nI_le (by omega) (by omega))]
    · rw [F_X12_friends_17, (r.cong (dG_dC hK)).2.2.1, shl_n m (by omega), if_pos (nI_le (by omega) (by omega))]
  | succ t ih =>
    intro k l i y hi hk hl hy
    obtain ⟨k, rfl⟩ : ∃ q, k = q + 1 := ⟨k - 1, by omega⟩
    obtain ⟨l, rfl⟩ : ∃ q, l = q + 1 := ⟨l - 1, by omega⟩
    have c1 := cnt_le (b := fun k => i.testBit k) 8
    have c2 := cnt_le (b := fun k => y.testBit k) 8
    obtain ⟨q, q1, q2⟩ := fri2 (N := N) (L := L) (x := i) (bd := bd) hN (by omega) r m N 0 (by omega) (by omega)
    obtain ⟨p, p2, p1⟩ := frm2 (N := N) (L := L) (x := i) (bd := bd) hN (by omega) r hh m N 0 (by omega) (by omega)
    have e : p = q := by
      have h := p2.trans q2.symm
      cases p with
      | false =>
        cases q with
        | false => rfl
        | true => exact absurd (h.mpr rfl) (by decide)
      | true => exact (h.mp rfl).symm
    subst e
    have q1' : f_X4_areFriends N (nI i) bd I L = _ := q1
    have hstep : ∃ z : Nat, (if nI (cnt (fun k => i.testBit k) 8) ≤ nI (cnt (fun k => y.testBit k) 8) then F_X4_mostFriends_4 N k bd (nI y) (nI (i + 1)) I L else if (bif p then (1 : Int32) else 0) = 0 then F_X4_mostFriends_4 N k bd (nI y) (nI (i + 1)) I L else F_X4_mostFriends_4 N k bd (nI i) (nI (i + 1)) I L) = some (some (.int (nI z)), I, L) ∧ An dG I L (fun I' L' => if nI (cnt (fun k => i.testBit k) 8) ≤ nI (cnt (fun k => y.testBit k) 8) then F_X12_friends_17 N l bd (nI y) (nI (i + 1)) I' L' else bI (f_X12_areFriends N (nI i) bd I' L') (fun x7 I8 L9 => (if x7 = 0 then F_X12_friends_17 N l bd (nI y) (nI (i + 1)) I8 L9 else F_X12_friends_17 N l bd (nI i) (nI (i + 1)) I8 L9))) (nI z) := by
      by_cases hle : cnt (fun k => i.testBit k) 8 ≤ cnt (fun k => y.testBit k) 8
      · obtain ⟨z, z1, z2⟩ := ih k l (i + 1) y (by omega) (by omega) (by omega) hy
        refine ⟨z, ?_, An.of (fun I' hK => ?_) z2⟩
        · rw [if_pos (nI_le hle (by omega))]; exact z1
        · rw [if_pos (nI_le hle (by omega))]
      · have hn := nI_ge (a := cnt (fun k => y.testBit k) 8) (b := cnt (fun k => i.testBit k) 8) (by omega) (by omega)
        cases hp : p with
        | false =>
          obtain ⟨z, z1, z2⟩ := ih k l (i + 1) y (by omega) (by omega) (by omega) hy
          refine ⟨z, ?_, fun I' hK => ?_⟩
          · rw [if_neg hn, ifz_f rfl]; exact z1
          · obtain ⟨J, g1, g2⟩ := p1 I' hK
            obtain ⟨J2, g3, g4⟩ := z2 J (hK.tr g2)
            refine ⟨J2, ?_, g2.tr g4⟩
            have g1' : f_X12_areFriends N (nI i) bd I' L = _ := g1
            show (if nI (cnt (fun k => i.testBit k) 8) ≤ nI (cnt (fun k => y.testBit k) 8) then _ else _) = _
            rw [if_neg hn, g1', bI_s, ifz_f hp]
            exact g3
        | true =>
          obtain ⟨z, z1, z2⟩ := ih k l (i + 1) i (by omega) (by omega) (by omega) (by omega)
          refine ⟨z, ?_, fun I' hK => ?_⟩
          · rw [if_neg hn, ifz_t rfl]; exact z1
          · obtain ⟨J, g1, g2⟩ := p1 I' hK
            obtain ⟨J2, g3, g4⟩ := z2 J (hK.tr g2)
            refine ⟨J2, ?_, g2.tr g4⟩
            have g1' : f_X12_areFriends N (nI i) bd I' L = _ := g1
            show (if nI (cnt (fun k => i.testBit k) 8) ≤ nI (cnt (fun k => y.testBit k) 8) then _ else _) = _
            rw [if_neg hn, g1', bI_s, ifz_t hp]
            exact g3
    obtain ⟨z, z1, z2⟩ := hstep
    refine ⟨z, ?_, An.of (fun I' hK => ?_) z2⟩
    · rw [F_X4_mostFriends_4, r.2.1, shl_n m (by omega), if_neg (nI_ge (by omega) (by omega)), bits_s (by omega), bI_s, bits_s hy, bI_s, q1', bI_s, nI_1]
      exact z1
    · rw [F_X12_friends_17, (r.cong (dG_dC hK)).2.2.1, shl_n m (by omega), if_neg (nI_ge (by omega) (by omega)), bits_s (by omega), bI_s, bits_s hy, bI_s, nI_1]
end FRI
theorem case_friends {X : PI → Prop} (hX : Xok X) {N : Nat} (hN : 20000 ≤ N) (hXH : XH X) (a1 : Int32) : CaseI (Inv X) (f_X11_friends N a1) (f_X12_friends N a1) := by
  intro I L hI
  have hI0 := hI
  obtain ⟨-, -, hC, -, -, -, -, hx⟩ := hI
  obtain ⟨m, n, S, r⟩ := hC.set
  have hm := r.1
  have e3 : 2 ^ m ≤ 256 := Nat.pow_le_pow_right (by decide) hm
  have e4 : 1 ≤ 2 ^ m := Nat.one_le_two_pow
  by_cases h0 : m = 0
  · have z0 : nI m = 0 := by rw [h0]; rfl
    refine ⟨-1, I, L, I, L, ?_, ?_, hI0⟩
    · unfold f_X11_friends F_X11_friends_14
      rw [r.2.1, if_pos z0]
    · unfold f_X12_friends
      rw [r.2.2.1, if_pos z0]
  · have z0 : ¬ nI m = 0 := nI_ne0 (by omega) (by omega)
    by_cases h1 : 0 ≤ a1
    · obtain ⟨z, z1, z2⟩ := friLp (L := L) (bd := a1) hN r (hXH I m n S hx r) (2 ^ m - 1) N N 1 0 (by omega) (by omega) (by omega) (by omega)
      obtain ⟨J, g1, g2⟩ := z2 I Kp.rf
      have z1' : f_X4_mostFriends N a1 I L = _ := z1
      refine ⟨nI z, I, L, J, L, ?_, ?_, hI0.keep hX g2 dG_free⟩
      · unfold f_X11_friends
        rw [r.2.1, if_neg z0, if_pos h1, z1', bI_s]
      · unfold f_X12_friends
        rw [r.2.2.1, if_neg z0, if_pos h1]
        exact g1
    · refine ⟨-1, I, L, I, L, ?_, ?_, hI0⟩
      · unfold f_X11_friends F_X11_friends_14
        rw [r.2.1, if_neg z0, if_neg h1]
      · unfold f_X12_friends
        rw [r.2.2.1, if_neg z0, if_neg h1]
/-! partners -/
section PAR
variable {N m a b : Nat} {n : Nat → Nat} {S : Nat → Nat → Nat} {L : PL}
def pwT (n : Nat) (s t : Nat → Nat) (z : Int) : Int32 := (meW oneW s s n n z 0 1 + meW oneW t t n n z 0 1) * (meW oneW s s n n z 0 1 + meW oneW t t n n z 0 1) + (meW oneW s s n n z 0 0 + meW oneW t t n n z 0 0) * (meW oneW s s n n z 0 0 + meW oneW t t n n z 0 0)
theorem meW_out {w : Nat → Int32} {s t : Nat → Nat} {ns nt : Nat} {way : Int} {sp r : Int32} (h : (ns : Int) ≤ way ∨ way ≤ -(nt : Int)) : meW w s t ns nt way sp r = 0 := sumW_0 ns (fun k hk => by
  unfold tmW
  rw [if_neg (by omega)])
theorem pwT_neg {n : Nat} {s t : Nat → Nat} {z : Int} (hs : ∀ k, k < n → s k < 4) (ht : ∀ k, k < n → t k < 4) : pwT n s t (-z) = pwT n s t z := by
  have e1 := me_sym (way := z) hs hs
  have e2 := me_sym (way := z) ht ht
  unfold pwT
  rw [e1.1, e1.2, e2.1, e2.2]
  grind
theorem togLp (hN : 20000 ≤ N) (ha : a < m) (hb : b < m) (hnn : n b = n a) : ∀ (t k i : Nat) (v : Int32) (I : PI), i + t = n a → 1 ≤ i → t < k → CSet I m n S → (∀ x, x < n a → I 21 x = oneW x) → IsMx (fun y : Int => 1 ≤ y ∧ y < i) (pwT (n a) (S a) (S b)) v → ∃ (J : PI) (x : Int32), F_X4_sideTogether_11 N k (nI a) (nI b) v (nI i) I L = some (some (.int x), J, L) ∧ Kp dM I J ∧ IsMx (fun y : Int => 1 ≤ y ∧ y < n a) (pwT (n a) (S a) (S b)) x := by
  intro t
  induction t with
  | zero =>
    intro k i v I hi h1 hk r h21 hv
    obtain ⟨k, rfl⟩ : ∃ q, k = q + 1 := ⟨k - 1, by omega⟩
    have c24 := (r.2.2.2 a ha).2.1
    rw [F_X4_sideTogether_11, r.len ha, bI_s, if_pos (nI_le (by omega) (by omega))]
    exact ⟨I, v, rfl, Kp.rf, hv.congr (fun y => by omega)⟩
  | succ t ih =>
    intro k i v I hi h1 hk r h21 hv
    obtain ⟨k, rfl⟩ : ∃ q, k = q + 1 := ⟨k - 1, by omega⟩
    have c24 := (r.2.2.2 a ha).2.1
    obtain ⟨J1, e1, k1, p1, q1⟩ := pow4_s (L := L) (way := (i : Int)) (sp := 0) hN (by omega) (by omega) ha ha r h21
    have r1 := r.cong (dG_dC (dM_dG k1))
    obtain ⟨J2, e2, k2, p2, q2⟩ := add_s (L := L) (way := (i : Int)) (sp := 0) (w := oneW) hN (by omega) (by omega) hb hb r1 (by rw [hnn]; exact dM_21 k1 h21) p1 q1
    rw [hnn] at p2 q2
    have eT : f_X4_powerTogether N (nI a) (nI b) (nI i) I L = some (some (.int (pwT (n a) (S a) (S b) i)), J2, L) := by
      unfold f_X4_powerTogether f_X4_power
      rw [zI_n i, e1, bI_s, e2, bV_s, bI_s, p2, q2]
      rfl
    obtain ⟨J, x, g1, g2, g3⟩ := ih k (i + 1) (jmax v (pwT (n a) (S a) (S b) i)) J2 (by omega) (by omega) (by omega) (r1.cong (dG_dC (dM_dG k2))) (dM_21 k2 (dM_21 k1 h21)) ((hv.add (i : Int)).congr (fun y => by omega))
    refine ⟨J, x, ?_, (k1.tr k2).tr g2, g3⟩
    rw [F_X4_sideTogether_11, r.len ha, bI_s, if_neg (nI_ge (by omega) (by omega)), eT, bI_s, nmI_s, nI_1]
    exact g1
theorem parLp (hN : 20000 ≤ N) (ha : a < m) (hb : b < m) (hnn : n b = n a) : ∀ (t k : Nat) (z : Int) (v : Int32) (I : PI), z + t = 24 → -23 ≤ z → t < k → CSet I m n S → (∀ x, x < n a → I 53 x = oneW x) → IsMx (fun y : Int => -23 ≤ y ∧ y ≠ 0 ∧ y < z) (pwT (n a) (S a) (S b)) v → ∃ (J : PI) (x : Int32), F_X12_partners_45 N k (nI a) (nI b) v (zI z) I L = some (some (.int x), J, L) ∧ Kp dN I J ∧ IsMx (fun y : Int => -23 ≤ y ∧ y ≠ 0 ∧ y < 24) (pwT (n a) (S a) (S b)) x := by
  intro t
  induction t with
  | zero =>
    intro k z v I hz h1 hk r h53 hv
    obtain ⟨k, rfl⟩ : ∃ q, k = q + 1 := ⟨k - 1, by omega⟩
    obtain rfl : z = 24 := by omega
    rw [F_X12_partners_45, if_pos (show (24 : Int32) ≤ zI 24 by decide)]
    exact ⟨I, v, rfl, Kp.rf, hv⟩
  | succ t ih =>
    intro k z v I hz h1 hk r h53 hv
    obtain ⟨k, rfl⟩ : ∃ q, k = q + 1 := ⟨k - 1, by omega⟩
    obtain ⟨J1, e1, k1, p1, q1, -⟩ := sum12_s (L := L) (way := z) (sp := 0) hN (by omega) (by omega) ha ha r h53
    have r1 := r.cong (dG_dC (dN_dG k1))
    have w1 : ∀ x, x < n b → J1 53 x = oneW x := fun x hx => (k1 53 x (by unfold dN; omega)).trans (h53 x (by omega))
    obtain ⟨J2, e2, k2, p2, q2, -⟩ := sum12_s (L := L) (way := z) (sp := 0) hN (by omega) (by omega) hb hb r1 w1
    rw [hnn] at p2 q2
    have w2 : ∀ x, x < n a → J2 53 x = oneW x := fun x hx => (k2 53 x (by unfold dN; omega)).trans (w1 x (by omega))
    rw [F_X12_partners_45, z24, if_neg (fun q => absurd ((zI_le (a := 24) (by omega) (by omega) (by omega) (by omega)).mp q) (by omega)), e1, bV_s, nmI_s, nmI_s, e2, bV_s, p1, q1, p2, q2, zI_1]
    by_cases h0 : z = 0
    · obtain ⟨J, x, g1, g2, g3⟩ := ih k (z + 1) v J2 (by omega) (by omega) (by omega) (r1.cong (dG_dC (dN_dG k2))) w2 (hv.congr (fun y => by omega))
      refine ⟨J, x, ?_, (k1.tr k2).tr g2, g3⟩
      rw [if_pos (by rw [h0]; rfl)]
      exact g1
    · obtain ⟨J, x, g1, g2, g3⟩ := ih k (z + 1) (jmax v (pwT (n a) (S a) (S b) z)) J2 (by omega) (by omega) (by omega) (r1.cong (dG_dC (dN_dG k2))) w2 ((hv.add z).congr (fun y => by omega))
      refine ⟨J, x, ?_, (k1.tr k2).tr g2, g3⟩
      rw [if_neg (show ¬ zI z = (0 : Int32) from fun q => h0 ((zI_eq (b := 0) (by omega) (by omega) (by omega) (by omega)).mp q)), nmI_s]
      exact g1
end PAR
theorem case_partners {X : PI → Prop} (hX : Xok X) {N : Nat} (hN : 20000 ≤ N) (a1 a2 : Int32) : CaseI (Inv X) (f_X11_partners N a1 a2) (f_X12_partners N a1 a2) := by
  intro I L hI
  have hI0 := hI
  obtain ⟨-, -, hC, -, -, -, -, hx⟩ := hI
  obtain ⟨m, n, S, r⟩ := hC.set
  have hm := r.1
  have eC := f_X11_partners.eq_1 N a1 a2 I L
  have eM := fun J => f_X12_partners.eq_1 N a1 a2 J L
  have eM0 := eM I
  rw [r.has, bI_s] at eC
  rw [r.is, bI_s] at eM0
  cases hq : hz a1 m with
  | false =>
    rw [ifz_f hq] at eC eM0
    exact ⟨-1, I, L, I, L, eC, eM0, hI0⟩
  | true =>
    rw [ifz_t hq, r.has, bI_s] at eC
    rw [ifz_t hq, r.is, bI_s] at eM0
    cases hp : hz a2 m with
    | false =>
      rw [ifz_f hp] at eC eM0
      exact ⟨-1, I, L, I, L, eC, eM0, hI0⟩
    | true =>
      obtain ⟨a, ha, rfl⟩ := (hz_iff (by omega)).mp hq
      obtain ⟨b, hb, rfl⟩ := (hz_iff (by omega)).mp hp
      obtain ⟨a1', a24, -, -, ga⟩ := r.2.2.2 a ha
      obtain ⟨b1', b24, -, -, gb⟩ := r.2.2.2 b hb
      rw [ifz_t hp, r.len ha, bI_s, r.len hb, bI_s] at eC
      rw [ifz_t hp, gd_in (by omega) (by omega), gd_in (by omega) (by omega), nI_clamp (by omega), nI_clamp (by omega), r.l50 ha, r.l50 hb] at eM0
      by_cases hnn : n b = n a
      · have hs : ∀ k, k < n a → S a k < 4 := fun k hk => (ga k hk).1
        have ht : ∀ k, k < n a → S b k < 4 := fun k hk => (gb k (by omega)).1
        obtain ⟨J1, e1, k1, w1⟩ := weigh_s (I := I) (L := L) hN ha r WT.none
        have r1 := r.cong (dG_dC k1)
        obtain ⟨J, x, g1, g2, g3⟩ := togLp (N := N) (L := L) hN ha hb hnn (n a - 1) N 1 0 J1 (by omega) (by omega) (by omega) r1 w1 (IsMx.nil (fun z => by omega))
        have kJ := k1.tr (dM_dG g2)
        have rJ := r.cong (dG_dC kJ)
        obtain ⟨J3, e3, k3, w3⟩ := lay_s (I := J) (L := L) hN ha rJ WT.none
        obtain ⟨J4, y, f1, f2, f3⟩ := parLp (N := N) (L := L) hN ha hb hnn 47 N (-23) 0 J3 (by omega) (by omega) (by omega) (rJ.cong (dG_dC k3)) w3 (IsMx.nil (fun z => by omega))
        have exy : y = x := f3.eq g3 (fun z hz => by
          by_cases h : -(n a : Int) < z ∧ z < n a
          · by_cases h2 : 0 ≤ z
            · exact Or.inr ⟨z, ⟨by omega, h.2⟩, rfl⟩
            · exact Or.inr ⟨-z, ⟨by omega, by omega⟩, pwT_neg hs ht⟩
          · left
            unfold pwT
            rw [meW_out (by omega), meW_out (by omega), meW_out (by omega), meW_out (by omega)]
            rfl) (fun z hz => Or.inr ⟨z, ⟨by omega, by omega, by omega⟩, rfl⟩)
        have g1' : F_X4_sideTogether_11 N N (nI a) (nI b) 0 1 J1 L = _ := g1
        unfold f_X4_sideTogether at eC
        rw [if_pos (by rw [hnn]), e1, bV_s, g1', bI_s] at eC
        have eM1 := eM J
        rw [rJ.is, bI_s, ifz_t hq, rJ.is, bI_s, ifz_t hp, gd_in (by omega) (by omega), gd_in (by omega) (by omega), nI_clamp (by omega), nI_clamp (by omega), rJ.l50 ha, rJ.l50 hb, if_pos (by rw [hnn]), e3, bV_s, zm23, f1, exy] at eM1
        exact ⟨x, J, L, J4, L, eC, eM1, hI0.keep hX ((kJ.tr k3).tr (dN_dG f2)) dG_free⟩
      · have hne : ¬ nI (n a) = nI (n b) := fun q => hnn ((nI_eq (by omega) (by omega)).mp q.symm)
        rw [if_neg hne] at eC eM0
        exact ⟨-1, I, L, I, L, eC, eM0, hI0⟩
