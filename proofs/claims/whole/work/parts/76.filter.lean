/-! filters told by digits -/
def rs : Nat → Nat → Nat
  | 0, n => n
  | i + 1, n => rs i n / 5
def dgt (i n : Nat) : Nat := rs i n % 5
def wF (l x k : Nat) : Int32 := zI ((dgt (l - 1 - k) x : Int) - 2)
theorem rs_lt {l x : Nat} (hx : x < 5 ^ l) : ∀ i, i ≤ l → rs i x < 5 ^ (l - i) := by
  intro i
  induction i with
  | zero => intro _; exact hx
  | succ i ih =>
    intro hi
    have h := ih (by omega)
    have e : 5 ^ (l - i) = 5 * 5 ^ (l - (i + 1)) := by
      rw [show l - i = (l - (i + 1)) + 1 by omega, Nat.pow_succ, Nat.mul_comm]
    show rs i x / 5 < _
    omega
theorem rs_com {l x : Nat} (hx : x < 5 ^ l) : ∀ i, i ≤ l → rs i (5 ^ l - 1 - x) = 5 ^ (l - i) - 1 - rs i x := by
  intro i
  induction i with
  | zero => intro _; rfl
  | succ i ih =>
    intro hi
    have h := ih (by omega)
    have hl := rs_lt hx i (by omega)
    have e : 5 ^ (l - i) = 5 * 5 ^ (l - (i + 1)) := by
      rw [show l - i = (l - (i + 1)) + 1 by omega, Nat.pow_succ, Nat.mul_comm]
    show rs i (5 ^ l - 1 - x) / 5 = _ - rs i x / 5
    rw [h]
    omega
theorem dgt_com {l x i : Nat} (hx : x < 5 ^ l) (hi : i < l) : dgt i (5 ^ l - 1 - x) = 4 - dgt i x := by
  unfold dgt
  have hl := rs_lt hx i (by omega)
  have e : 5 ^ (l - i) = 5 * 5 ^ (l - (i + 1)) := by
    rw [show l - i = (l - (i + 1)) + 1 by omega, Nat.pow_succ, Nat.mul_comm]
  rw [rs_com hx i (by omega)]
  omega
theorem dgt_lt {i x : Nat} : dgt i x < 5 := Nat.mod_lt _ (by decide)
theorem wF_com {l x k : Nat} (hx : x < 5 ^ l) (hk : k < l) : wF l (5 ^ l - 1 - x) k = -wF l x k := by
  unfold wF
  have h := dgt_lt (i := l - 1 - k) (x := x)
  rw [dgt_com hx (by omega), zI_neg]
  congr 1
  omega
theorem me_neg {w w' : Nat → Int32} {s t : Nat → Nat} {ns nt : Nat} {way : Int} {sp r : Int32} (h : ∀ k, k < nt → w' k = -w k) : meW w' s t ns nt way sp r = -meW w s t ns nt way sp r := by
  unfold meW
  rw [← sumW_neg]
  refine sumW_congr ns (fun k _ => ?_)
  unfold tmW
  by_cases hv : 0 ≤ (k : Int) - way ∧ (k : Int) - way < nt
  · rw [if_pos hv, if_pos hv, h _ (by omega), Int32.neg_mul]
  · rw [if_neg hv, if_neg hv]; rfl
theorem pw_neg {w w' : Nat → Int32} {s t : Nat → Nat} {ns nt : Nat} {way : Int} {sp : Int32} (h : ∀ k, k < nt → w' k = -w k) : pwW w' s t ns nt way sp = pwW w s t ns nt way sp := by
  unfold pwW
  rw [me_neg h, me_neg h, Int32.neg_mul_neg, Int32.neg_mul_neg]
theorem pv_3 (a r : Int32) : partV a r = 0 ∨ partV a r = 1 ∨ partV a r = -1 := by
  unfold partV
  by_cases h : r = 0
  · rw [if_pos h]
    by_cases h1 : a &&& 3 = 1
    · rw [if_pos h1]; exact Or.inr (Or.inl rfl)
    · rw [if_neg h1]
      by_cases h2 : a &&& 3 = 3
      · rw [if_pos h2]; exact Or.inr (Or.inr rfl)
      · rw [if_neg h2]; exact Or.inl rfl
  · rw [if_neg h]
    by_cases h1 : a &&& 3 = 0
    · rw [if_pos h1]; exact Or.inr (Or.inl rfl)
    · rw [if_neg h1]
      by_cases h2 : a &&& 3 = 2
      · rw [if_pos h2]; exact Or.inr (Or.inr rfl)
      · rw [if_neg h2]; exact Or.inl rfl
theorem zm1 : (-1 : Int32) = zI (-1) := by decide +kernel
theorem tm_b {l x k : Nat} {s : Nat → Nat} {way : Int} {sp r : Int32} : ∃ v : Int, tmW (wF l x) s s l way sp r k = zI v ∧ -2 ≤ v ∧ v ≤ 2 := by
  unfold tmW
  by_cases hv : 0 ≤ (k : Int) - way ∧ (k : Int) - way < l
  · rw [if_pos hv]
    have h := dgt_lt (i := l - 1 - ((k : Int) - way).toNat) (x := x)
    rcases pv_3 (trn s s sp k ((k : Int) - way).toNat) r with e | e | e
    · rw [e, Int32.mul_zero]; exact ⟨0, rfl, by omega, by omega⟩
    · rw [e, Int32.mul_one]
      exact ⟨_, rfl, by omega, by omega⟩
    · rw [e, zm1]
      refine ⟨_, zI_mul _ _, by omega, by omega⟩
  · rw [if_neg hv]; exact ⟨0, rfl, by omega, by omega⟩
theorem me_b {l x : Nat} {s : Nat → Nat} {way : Int} {sp r : Int32} (hl : l ≤ 6) : ∃ v : Int, meW (wF l x) s s l l way sp r = zI v ∧ -12 ≤ v ∧ v ≤ 12 := by
  have : ∀ n, ∃ v : Int, sumW (tmW (wF l x) s s l way sp r) n = zI v ∧ -(2 * (n : Int)) ≤ v ∧ v ≤ 2 * n := by
    intro n
    induction n with
    | zero => exact ⟨0, rfl, by omega, by omega⟩
    | succ n ih =>
      obtain ⟨v, h1, h2, h3⟩ := ih
      obtain ⟨u, g1, g2, g3⟩ := tm_b (l := l) (x := x) (k := n) (s := s) (way := way) (sp := sp) (r := r)
      exact ⟨v + u, by rw [sumW_s, h1, g1, zI_add], by omega, by omega⟩
  obtain ⟨v, h1, h2, h3⟩ := this l
  exact ⟨v, h1, by omega, by omega⟩
theorem pw_b {l x : Nat} {s : Nat → Nat} {q : Int × Nat} (hl : l ≤ 6) : ∃ v : Nat, pwC (wF l x) s l q = nI v ∧ v ≤ 288 := by
  obtain ⟨u, h1, h2, h3⟩ := me_b (x := x) (s := s) (way := q.1) (sp := nI q.2) (r := 1) hl
  obtain ⟨v, g1, g2, g3⟩ := me_b (x := x) (s := s) (way := q.1) (sp := nI q.2) (r := 0) hl
  have s1 := sq_b h2 h3
  have s2 := sq_b g2 g3
  refine ⟨(u * u + v * v).toNat, ?_, by omega⟩
  unfold pwC pwW
  rw [h1, g1, zI_mul, zI_mul, zI_add, zI_nat (by omega)]
/-! a candidate: its peak, side and loss -/
def pN (l : Nat) (s : Nat → Nat) (x : Nat) (z : Int) : Nat := (pwC (wF l x) s l (z, 0)).toNatClampNeg
theorem pN_s {l x : Nat} {s : Nat → Nat} {z : Int} (hl : l ≤ 6) : pwC (wF l x) s l (z, 0) = nI (pN l s x z) ∧ pN l s x z ≤ 288 := by
  obtain ⟨v, h1, h2⟩ := pw_b (x := x) (s := s) (q := (z, 0)) hl
  unfold pN
  rw [h1, nI_clamp (by omega)]
  exact ⟨rfl, h2⟩
theorem pN_com {l x : Nat} {s : Nat → Nat} {z : Int} (hx : x < 5 ^ l) : pN l s (5 ^ l - 1 - x) z = pN l s x z := by
  unfold pN pwC
  rw [pw_neg (fun k hk => wF_com hx hk)]
def sdF (P : Int → Nat) : Nat → Nat
  | 0 => 0
  | i + 1 => max (max (sdF P i) (P ((i + 1 : Nat) : Int))) (P (-((i + 1 : Nat) : Int)))
theorem sdF_mono {P : Int → Nat} {i j : Nat} (h : i ≤ j) : sdF P i ≤ sdF P j := by
  induction j with
  | zero => rw [show i = 0 by omega]; exact Nat.le_refl _
  | succ j ih =>
    by_cases e : i = j + 1
    · rw [e]; exact Nat.le_refl _
    · have := ih (by omega)
      have e2 : sdF P (j + 1) = max (max (sdF P j) (P ((j + 1 : Nat) : Int))) (P (-((j + 1 : Nat) : Int))) := rfl
      omega
theorem sdF_b {P : Int → Nat} {c : Nat} (h : ∀ z, P z ≤ c) : ∀ i, sdF P i ≤ c := by
  intro i
  induction i with
  | zero => exact Nat.zero_le c
  | succ i ih =>
    have h1 := h ((i + 1 : Nat) : Int)
    have h2 := h (-((i + 1 : Nat) : Int))
    have e2 : sdF P (i + 1) = max (max (sdF P i) (P ((i + 1 : Nat) : Int))) (P (-((i + 1 : Nat) : Int))) := rfl
    omega
theorem sdF_mx {P : Int → Nat} {Q : Int → Int32} {c : Nat} (h : ∀ z, P z ≤ c) (hc : c < 2 ^ 30) (hQ : ∀ z, Q z = nI (P z)) : ∀ i, IsMx (fun y : Int => y ≠ 0 ∧ -((i + 1 : Nat) : Int) < y ∧ y < ((i + 1 : Nat) : Int)) Q (nI (sdF P i)) := by
  intro i
  induction i with
  | zero => exact IsMx.nil (fun z => by omega)
  | succ i ih =>
    have b0 := sdF_b h i
    have b1 := h ((i + 1 : Nat) : Int)
    have b2 := h (-((i + 1 : Nat) : Int))
    have e : nI (sdF P (i + 1)) = jmax (jmax (nI (sdF P i)) (Q ((i + 1 : Nat) : Int))) (Q (-((i + 1 : Nat) : Int))) := by
      rw [hQ, hQ, jmax_n (by omega) (by omega), jmax_n (by omega) (by omega)]
      rfl
    rw [e]
    exact ((ih.add ((i + 1 : Nat) : Int)).add (-((i + 1 : Nat) : Int))).congr (fun y => by omega)
def pkN (l : Nat) (s : Nat → Nat) (x : Nat) : Nat := pN l s x 0
def sdN (l : Nat) (s : Nat → Nat) (x : Nat) : Nat := sdF (pN l s x) (l - 1)
def loN (l : Nat) (s : Nat → Nat) (x : Nat) : Int32 := losV l (sumW (fun k => wF l x k * wF l x k) l) (nI (pkN l s x))
theorem sdN_b {l x : Nat} {s : Nat → Nat} (hl : l ≤ 6) : sdN l s x ≤ 288 := sdF_b (fun _ => (pN_s hl).2) (l - 1)
theorem pkN_com {l x : Nat} {s : Nat → Nat} (hx : x < 5 ^ l) : pkN l s (5 ^ l - 1 - x) = pkN l s x := pN_com hx
theorem sdN_com {l x : Nat} {s : Nat → Nat} (hx : x < 5 ^ l) : sdN l s (5 ^ l - 1 - x) = sdN l s x := by
  unfold sdN
  rw [show pN l s (5 ^ l - 1 - x) = pN l s x from funext fun z => pN_com hx]
theorem loN_com {l x : Nat} {s : Nat → Nat} (hx : x < 5 ^ l) : loN l s (5 ^ l - 1 - x) = loN l s x := by
  unfold loN
  rw [pkN_com hx, sumW_congr l (fun k hk => by rw [wF_com hx hk, Int32.neg_mul_neg])]
theorem sumW_wF {l x : Nat} : sumW (wF l x) l = sumW (fun j => zI ((dgt j x : Int) - 2)) l := by
  rw [sumW_rev]
  refine sumW_congr l (fun k hk => ?_)
  unfold wF
  rw [show l - 1 - (l - 1 - k) = k by omega]
theorem pk_tell {l x : Nat} {s : Nat → Nat} : pwC (wF l x) s l (0, 0) = sumW (fun j => zI ((dgt j x : Int) - 2)) l * sumW (fun j => zI ((dgt j x : Int) - 2)) l := by
  have e : ∀ k, k < l → ∀ r, tmW (wF l x) s s l 0 (nI 0) r k = wF l x k * partV 0 r := fun k hk r => by
    unfold tmW trn
    rw [if_pos (by omega), show ((k : Int) - 0).toNat = k by omega, show nI 0 = (0 : Int32) from rfl, Int32.zero_mul, Int32.add_zero, Int32.sub_self]
  have e1 : meW (wF l x) s s l l 0 (nI 0) 1 = sumW (wF l x) l := sumW_congr l (fun k hk => by
    rw [e k hk, show partV 0 1 = 1 from by decide, Int32.mul_one])
  have e0 : meW (wF l x) s s l l 0 (nI 0) 0 = 0 := sumW_0 l (fun k hk => by
    rw [e k hk, show partV 0 0 = 0 from by decide, Int32.mul_zero])
  show pwW (wF l x) s s l l 0 (nI 0) = _
  unfold pwW
  rw [e1, e0, Int32.mul_zero, Int32.add_zero, sumW_wF]
theorem pk0_ne {l : Nat} {s : Nat → Nat} (h1 : 1 ≤ l) (h6 : l ≤ 6) : 0 < pkN l s 0 := by
  have h := (pN_s (l := l) (s := s) (x := 0) (z := 0) h6).1
  rw [pk_tell] at h
  refine Nat.pos_of_ne_zero fun h0 => ?_
  have h0' : pN l s 0 0 = 0 := h0
  rw [h0'] at h
  have d : ∀ q : Nat, q < 7 → 1 ≤ q → ¬ sumW (fun j => zI ((dgt j 0 : Int) - 2)) q * sumW (fun j => zI ((dgt j 0 : Int) - 2)) q = nI 0 := by decide +kernel
  exact d l (by omega) h1 h
theorem pk_mid {l : Nat} {s : Nat → Nat} (h6 : l ≤ 6) : pkN l s (5 ^ l / 2) = 0 := by
  have h := (pN_s (l := l) (s := s) (x := 5 ^ l / 2) (z := 0) h6)
  rw [pk_tell] at h
  have d : ∀ q : Nat, q < 7 → sumW (fun j => zI ((dgt j (5 ^ q / 2) : Int) - 2)) q * sumW (fun j => zI ((dgt j (5 ^ q / 2) : Int) - 2)) q = nI 0 := by decide +kernel
  rw [d l (by omega)] at h
  have h2 := (nI_eq (by omega) (by omega)).mp h.1
  exact h2.symm
abbrev FT : Type := Int32 × Nat × Nat × Int32
/-- better than the best so far -/
def btr (b : FT) (sd pk : Nat) (lo : Int32) : Bool := decide (sd * b.2.2.1 < b.2.1 * pk) || (decide (sd * b.2.2.1 = b.2.1 * pk) && decide (b.2.2.2 < lo))
theorem btr_t {b : FT} {sd pk : Nat} {lo : Int32} : btr b sd pk lo = true ↔ sd * b.2.2.1 < b.2.1 * pk ∨ (sd * b.2.2.1 = b.2.1 * pk ∧ b.2.2.2 < lo) := by
  unfold btr
  rw [Bool.or_eq_true, Bool.and_eq_true, decide_eq_true_eq, decide_eq_true_eq, decide_eq_true_eq]
def stF (l : Nat) (s : Nat → Nat) (x : Nat) (b : FT) : FT := if pkN l s x = 0 then b else if btr b (sdN l s x) (pkN l s x) (loN l s x) = true then (nI x, sdN l s x, pkN l s x, loN l s x) else b
def fiB (l : Nat) (s : Nat → Nat) : Nat → FT
  | 0 => (-1, 1000000, 1, 0)
  | x + 1 => stF l s x (fiB l s x)
theorem fiB_1 {l : Nat} {s : Nat → Nat} (h1 : 1 ≤ l) (h6 : l ≤ 6) : fiB l s 1 = (nI 0, sdN l s 0, pkN l s 0, loN l s 0) := by
  have hp := pk0_ne (s := s) h1 h6
  have hs := sdN_b (s := s) (x := 0) h6
  show stF l s 0 (-1, 1000000, 1, 0) = _
  unfold stF
  rw [if_neg (by omega), if_pos (btr_t.mpr (Or.inl (by
    show sdN l s 0 * 1 < 1000000 * pkN l s 0
    omega)))]
theorem i32_refl (a : Int32) : a ≤ a := by
  rw [Int32.le_iff_toInt_le]; omega
/-- what is known of the best after some -/
def Fok (l : Nat) (s : Nat → Nat) (x : Nat) (b : FT) : Prop := (∃ y, y < x ∧ b.1 = nI y) ∧ 0 < b.2.2.1 ∧ b.2.2.1 ≤ 288 ∧ b.2.1 ≤ 288 ∧ ∀ y, y < x → 0 < pkN l s y → b.2.1 * pkN l s y < sdN l s y * b.2.2.1 ∨ (b.2.1 * pkN l s y = sdN l s y * b.2.2.1 ∧ loN l s y ≤ b.2.2.2)
theorem btr_trans {S P Sn Pn St Pt : Nat} {L Ln Lt : Int32} (hP : 0 < P) (hn : 0 < Pn) (ht : 0 < Pt) (h1 : Sn * P < S * Pn ∨ (Sn * P = S * Pn ∧ L < Ln)) (h2 : S * Pt < St * P ∨ (S * Pt = St * P ∧ Lt ≤ L)) : Sn * Pt < St * Pn ∨ (Sn * Pt = St * Pn ∧ Lt ≤ Ln) := by
  have a1 : Sn * Pt * P = Sn * P * Pt := Nat.mul_right_comm Sn Pt P
  have a2 : St * Pn * P = St * P * Pn := Nat.mul_right_comm St Pn P
  have a3 : S * Pn * Pt = S * Pt * Pn := Nat.mul_right_comm S Pn Pt
  rcases h1 with h1 | ⟨h1, h1'⟩
  · left
    have b1 : Sn * P * Pt < S * Pn * Pt := Nat.mul_lt_mul_of_pos_right h1 ht
    have b2 : S * Pt * Pn ≤ St * P * Pn := by
      rcases h2 with h2 | ⟨h2, -⟩
      · exact Nat.mul_le_mul_right Pn (by omega)
      · rw [h2]; exact Nat.le_refl _
    exact Nat.lt_of_mul_lt_mul_right (a := P) (by omega)
  · rcases h2 with h2 | ⟨h2, h2'⟩
    · left
      have b2 : S * Pt * Pn < St * P * Pn := Nat.mul_lt_mul_of_pos_right h2 hn
      have b1 : Sn * P * Pt = S * Pn * Pt := by rw [h1]
      exact Nat.lt_of_mul_lt_mul_right (a := P) (by omega)
    · right
      have b1 : Sn * P * Pt = S * Pn * Pt := by rw [h1]
      have b2 : S * Pt * Pn = St * P * Pn := by rw [h2]
      refine ⟨Nat.eq_of_mul_eq_mul_right hP (by omega), ?_⟩
      rw [Int32.le_iff_toInt_le] at h2' ⊢
      rw [Int32.lt_iff_toInt_lt] at h1'
      omega
theorem fiB_ok {l : Nat} {s : Nat → Nat} (h1 : 1 ≤ l) (h6 : l ≤ 6) : ∀ x, 1 ≤ x → Fok l s x (fiB l s x) := by
  intro x
  induction x with
  | zero => intro h; omega
  | succ x ih =>
    intro _
    by_cases hx : x = 0
    · subst hx
      rw [fiB_1 h1 h6]
      refine ⟨⟨0, by omega, rfl⟩, pk0_ne h1 h6, (pN_s h6).2, sdN_b h6, fun y hy hp => ?_⟩
      obtain rfl : y = 0 := by omega
      right
      exact ⟨rfl, i32_refl _⟩
    · obtain ⟨⟨y0, q0, q1⟩, q2, q3, q4, q5⟩ := ih (by omega)
      show Fok l s (x + 1) (stF l s x (fiB l s x))
      unfold stF
      by_cases hp : pkN l s x = 0
      · rw [if_pos hp]
        refine ⟨⟨y0, by omega, q1⟩, q2, q3, q4, fun y hy hpy => ?_⟩
        by_cases ey : y = x
        · rw [ey] at hpy; omega
        · exact q5 y (by omega) hpy
      · rw [if_neg hp]
        by_cases hb : btr (fiB l s x) (sdN l s x) (pkN l s x) (loN l s x) = true
        · rw [if_pos hb]
          refine ⟨⟨x, by omega, rfl⟩, Nat.pos_of_ne_zero hp, (pN_s h6).2, sdN_b h6, fun y hy hpy => ?_⟩
          by_cases ey : y = x
          · rw [ey]
            right
            exact ⟨rfl, i32_refl _⟩
          · exact btr_trans q2 (Nat.pos_of_ne_zero hp) hpy (btr_t.mp hb) (q5 y (by omega) hpy)
        · rw [if_neg hb]
          refine ⟨⟨y0, by omega, q1⟩, q2, q3, q4, fun y hy hpy => ?_⟩
          by_cases ey : y = x
          · rw [ey]
            have hb' := fun q => hb (btr_t.mpr q)
            rcases Nat.lt_trichotomy ((fiB l s x).2.1 * pkN l s x) (sdN l s x * (fiB l s x).2.2.1) with g | g | g
            · exact Or.inl g
            · right
              refine ⟨g, ?_⟩
              refine Classical.byContradiction fun g2 => hb' (Or.inr ⟨g.symm, ?_⟩)
              exact i32_nle.mp g2
            · exact absurd (Or.inl g) hb'
          · exact q5 y (by omega) hpy
theorem five_odd : ∀ l : Nat, ∃ h, 5 ^ l = 2 * h + 1 := by
  intro l
  induction l with
  | zero => exact ⟨0, rfl⟩
  | succ l ih =>
    obtain ⟨h, e⟩ := ih
    exact ⟨5 * h + 2, by rw [Nat.pow_succ, e]; omega⟩
theorem fiB_half {l : Nat} {s : Nat → Nat} (h1 : 1 ≤ l) (h6 : l ≤ 6) : fiB l s (5 ^ l) = fiB l s (5 ^ l / 2) := by
  obtain ⟨h, e⟩ := five_odd l
  have hh : 5 ^ l / 2 = h := by omega
  have h5 : 5 ^ 1 ≤ 5 ^ l := Nat.pow_le_pow_right (by decide) h1
  have key : ∀ t, h + t ≤ 5 ^ l → fiB l s (h + t) = fiB l s h := by
    intro t
    induction t with
    | zero => intro _; rfl
    | succ t ih =>
      intro ht
      have ih' := ih (by omega)
      show stF l s (h + t) (fiB l s (h + t)) = _
      rw [ih']
      have ok := fiB_ok (s := s) h1 h6 h (by omega)
      unfold stF
      by_cases hp : pkN l s (h + t) = 0
      · rw [if_pos hp]
      · rw [if_neg hp]
        have ht0 : t ≠ 0 := fun q => hp (by
          rw [q, Nat.add_zero, ← hh]
          exact pk_mid h6)
        have hx : h + t < 5 ^ l := by omega
        have hy : 5 ^ l - 1 - (h + t) < h := by omega
        have e1 := pkN_com (s := s) hx
        have e2 := sdN_com (s := s) hx
        have e3 := loN_com (s := s) hx
        have q := ok.2.2.2.2 _ hy (by rw [e1]; exact Nat.pos_of_ne_zero hp)
        rw [e1, e2, e3] at q
        rw [if_neg (fun hb => by
          rcases btr_t.mp hb with g | ⟨g, g'⟩
          · rcases q with q | ⟨q, -⟩
            · omega
            · omega
          · rcases q with q | ⟨q, q'⟩
            · omega
            · exact absurd g' (fun z => i32_nle.mpr z q'))]
  have := key (5 ^ l - h) (by omega)
  rw [show h + (5 ^ l - h) = 5 ^ l by omega] at this
  rw [hh]
  exact this
