/-! filters, in both -/
section FIL
variable {N m c : Nat} {n : Nat → Nat} {S : Nat → Nat → Nat} {L : PL}
theorem rs_le {x i : Nat} : rs i x ≤ x := by
  induction i with
  | zero => exact Nat.le_refl _
  | succ i ih =>
    show rs i x / 5 ≤ x
    omega
theorem tellLp {l x : Nat} (hl : l ≤ 6) (hx : x < 2 ^ 30) : ∀ (t k i : Nat) (I : PI), i + t = l → t < k → (∀ y, l - i ≤ y → y < l → I 21 y = wF l x y) → ∃ J : PI, F_X1_tellFilter_22 N k (nI (rs i x)) (sumW (fun j => zI ((dgt j x : Int) - 2)) i) (zI ((l : Int) - 1 - i)) I L = some (some (.int (sumW (fun j => zI ((dgt j x : Int) - 2)) l * sumW (fun j => zI ((dgt j x : Int) - 2)) l)), J, L) ∧ Kp (fun a _ => a = 21) I J ∧ ∀ y, y < l → J 21 y = wF l x y := by
  intro t
  induction t with
  | zero =>
    intro k i I hi hk h21
    obtain ⟨k, rfl⟩ : ∃ q, k = q + 1 := ⟨k - 1, by omega⟩
    obtain rfl : i = l := by omega
    rw [F_X1_tellFilter_22, if_pos (show zI ((i : Int) - 1 - i) < (0 : Int32) from (zI_lt (b := 0) (by omega) (by omega) (by omega) (by omega)).mpr (by omega))]
    exact ⟨I, rfl, Kp.rf, fun y hy => h21 y (by omega) hy⟩
  | succ t ih =>
    intro k i I hi hk h21
    obtain ⟨k, rfl⟩ : ∃ q, k = q + 1 := ⟨k - 1, by omega⟩
    have hr := rs_le (x := x) (i := i)
    have e5 : (5 : Int32) = nI 5 := rfl
    have ez : zI ((l : Int) - 1 - i) = nI (l - 1 - i) := by rw [zI_nat (by omega)]; congr 1; omega
    have ed : nI (rs i x % 5) - 2 = zI ((dgt i x : Int) - 2) := by
      rw [show (2 : Int32) = zI 2 from rfl, zI_n, zI_sub]; rfl
    have em : zI ((l : Int) - 1 - i) + (-1) = zI ((l : Int) - 1 - (i + 1 : Nat)) := by
      rw [zm1, zI_add]; congr 1; omega
    obtain ⟨J, g1, g2, g3⟩ := ih k (i + 1) (uI I 21 (l - 1 - i) (zI ((dgt i x : Int) - 2))) (by omega) (by omega) (fun y h1 h2 => by
      by_cases ey : y = l - 1 - i
      · rw [ey, uI_eq]
        unfold wF
        rw [show l - 1 - (l - 1 - i) = i by omega]
      · rw [uI_ne (by omega)]; exact h21 y (by omega) h2)
    refine ⟨J, ?_, ((Kp.rf (F := fun a _ => a = 21)).up rfl).tr g2, g3⟩
    rw [F_X1_tellFilter_22, if_neg (show ¬ zI ((l : Int) - 1 - i) < (0 : Int32) from fun q => absurd ((zI_lt (b := 0) (by omega) (by omega) (by omega) (by omega)).mp q) (by omega)), decide_eq_true (by decide), gd_t, e5, jirem_n (by omega) (by omega) (by omega), ed, nmI_s, gd_t, pk_div (by omega) (by omega) (by omega), nmI_s, nmI_s, em, ez, gd_in (by omega) (by omega), nI_clamp (by omega), nmW_s]
    exact g1
theorem tell_s {x : Nat} {I : PI} (hN : 20000 ≤ N) (hx : x < 2 ^ 30) (hc : c < m) (h6 : n c ≤ 6) (r : CSet I m n S) : ∃ J : PI, f_X1_tellFilter N (nI c) (nI x) I L = some (some (.int (nI (pkN (n c) (S c) x))), J, L) ∧ Kp (fun a _ => a = 21) I J ∧ ∀ y, y < n c → J 21 y = wF (n c) x y := by
  obtain ⟨J, g1, g2, g3⟩ := tellLp (N := N) (L := L) (l := n c) h6 hx (n c) N 0 I (by omega) (by omega) (fun y h1 h2 => by omega)
  refine ⟨J, ?_, g2, g3⟩
  have hp := (pN_s (l := n c) (s := S c) (x := x) (z := 0) h6).1
  rw [pk_tell] at hp
  have hp' : sumW (fun j => zI ((dgt j x : Int) - 2)) (n c) * sumW (fun j => zI ((dgt j x : Int) - 2)) (n c) = nI (pkN (n c) (S c) x) := hp
  rw [hp'] at g1
  unfold f_X1_tellFilter
  have ez : nI (n c) - 1 = zI ((n c : Int) - 1 - (0 : Nat)) := by
    rw [zI_n (n c), show (1 : Int32) = zI 1 from rfl, zI_sub]
    congr 1
    omega
  rw [r.len hc, bI_s, show (6 : Int32) = nI 6 from rfl, jmin_n (by omega) (by omega), Nat.min_eq_left h6, nmI_s, ez]
  exact g1
/-- the four numbers of the best filter so far -/
def F4 (I : PI) (b : FT) : Prop := I 1 4 = b.1 ∧ I 1 5 = nI b.2.1 ∧ I 1 6 = nI b.2.2.1 ∧ I 1 7 = b.2.2.2
def Bnd (b : FT) : Prop := b.2.1 ≤ 1000000 ∧ b.2.2.1 ≤ 288
theorem F4.cong {I J : PI} {b : FT} (h : Kp dM I J) (f : F4 I b) : F4 J b := by
  obtain ⟨h1, h2, h3, h4⟩ := f
  exact ⟨(h 1 4 (by unfold dM; omega)).trans h1, (h 1 5 (by unfold dM; omega)).trans h2, (h 1 6 (by unfold dM; omega)).trans h3, (h 1 7 (by unfold dM; omega)).trans h4⟩
theorem mul_b {a b : Nat} (ha : a ≤ 1000000) (hb : b ≤ 288) : a * b ≤ 288000000 := Nat.le_trans (Nat.mul_le_mul ha hb) (by decide)
theorem try92 {x : Nat} {I : PI} {b : FT} (hN : 20000 ≤ N) (hc : c < m) (h6 : n c ≤ 6) (r : CSet I m n S) (h21 : ∀ y, y < n c → I 21 y = wF (n c) x y) (hb : Bnd b) (f : F4 I b) (hp : pkN (n c) (S c) x ≠ 0) : ∃ J : PI, F_X1_tryFilter_92 N (nI c) (nI x) (nI (pkN (n c) (S c) x)) (nI (sdN (n c) (S c) x)) I L = some (none, J, L) ∧ Kp dK I J ∧ F4 J (stF (n c) (S c) x b) := by
  have hs := sdN_b (s := S c) (x := x) h6
  have hk := (pN_s (l := n c) (s := S c) (x := x) (z := 0) h6).2
  have hk' : pkN (n c) (S c) x ≤ 288 := hk
  have m1 : sdN (n c) (S c) x * b.2.2.1 ≤ 288000000 := mul_b (by omega) hb.2
  have m2 : b.2.1 * pkN (n c) (S c) x ≤ 288000000 := mul_b hb.1 hk'
  have f' := f
  obtain ⟨f1, f2, f3, f4⟩ := f'
  have el := loss_s (L := L) (p := nI (pkN (n c) (S c) x)) hN hc r h21
  have el' : f_X4_loss N (nI c) (nI (pkN (n c) (S c) x)) I L = some (some (.int (loN (n c) (S c) x)), I, L) := el
  have e0 : nI (sdN (n c) (S c) x) * I 1 6 - I 1 5 * nI (pkN (n c) (S c) x) = zI (((sdN (n c) (S c) x * b.2.2.1 : Nat) : Int) - ((b.2.1 * pkN (n c) (S c) x : Nat) : Int)) := by
    rw [f2, f3, pk_mul, pk_mul, zI_n, zI_n, zI_sub]
  have e139 : F_X1_tryFilter_139 N (nI x) (nI (pkN (n c) (S c) x)) (nI (sdN (n c) (S c) x)) (loN (n c) (S c) x) I L = some (none, uI (uI (uI (uI I 1 4 (nI x)) 1 5 (nI (sdN (n c) (S c) x))) 1 6 (nI (pkN (n c) (S c) x))) 1 7 (loN (n c) (S c) x), L) := by
    unfold F_X1_tryFilter_139
    rw [nmW_s, nmW_s, nmW_s, nmW_s]
  have kU : Kp dK I (uI (uI (uI (uI I 1 4 (nI x)) 1 5 (nI (sdN (n c) (S c) x))) 1 6 (nI (pkN (n c) (S c) x))) 1 7 (loN (n c) (S c) x)) := (((Kp.rf.up (by unfold dK; omega)).up (by unfold dK; omega)).up (by unfold dK; omega)).up (by unfold dK; omega)
  have fU : F4 (uI (uI (uI (uI I 1 4 (nI x)) 1 5 (nI (sdN (n c) (S c) x))) 1 6 (nI (pkN (n c) (S c) x))) 1 7 (loN (n c) (S c) x)) (nI x, sdN (n c) (S c) x, pkN (n c) (S c) x, loN (n c) (S c) x) := by
    refine ⟨?_, ?_, ?_, ?_⟩
    · rw [uI_ne (by omega), uI_ne (by omega), uI_ne (by omega), uI_eq]
    · rw [uI_ne (by omega), uI_ne (by omega), uI_eq]
    · rw [uI_ne (by omega), uI_eq]
    · rw [uI_eq]
  unfold F_X1_tryFilter_92
  rw [e0, nmI_s]
  rcases Nat.lt_trichotomy (sdN (n c) (S c) x * b.2.2.1) (b.2.1 * pkN (n c) (S c) x) with g | g | g
  · have eS : stF (n c) (S c) x b = (nI x, sdN (n c) (S c) x, pkN (n c) (S c) x, loN (n c) (S c) x) := by
      unfold stF
      rw [if_neg hp, if_pos (btr_t.mpr (Or.inl g))]
    rw [eS, if_pos (show zI _ ≤ (0 : Int32) from (zI_le (b := 0) (by omega) (by omega) (by omega) (by omega)).mpr (by omega)), el', bI_s, if_pos (show zI _ < (0 : Int32) from (zI_lt (b := 0) (by omega) (by omega) (by omega) (by omega)).mpr (by omega)), e139]
    exact ⟨_, rfl, kU, fU⟩
  · rw [if_pos (show zI _ ≤ (0 : Int32) from (zI_le (b := 0) (by omega) (by omega) (by omega) (by omega)).mpr (by omega)), el', bI_s, if_neg (show ¬ zI _ < (0 : Int32) from fun q => absurd ((zI_lt (b := 0) (by omega) (by omega) (by omega) (by omega)).mp q) (by omega)), f4]
    by_cases hl : loN (n c) (S c) x ≤ b.2.2.2
    · have eS : stF (n c) (S c) x b = b := by
        unfold stF
        rw [if_neg hp, if_neg (fun q => by
          rcases btr_t.mp q with q | ⟨-, q⟩
          · omega
          · exact absurd q (fun z => i32_nle.mpr z hl))]
      rw [eS, if_pos hl]
      exact ⟨I, rfl, Kp.rf, f⟩
    · have eS : stF (n c) (S c) x b = (nI x, sdN (n c) (S c) x, pkN (n c) (S c) x, loN (n c) (S c) x) := by
        unfold stF
        rw [if_neg hp, if_pos (btr_t.mpr (Or.inr ⟨g, i32_nle.mp hl⟩))]
      rw [eS, if_neg hl, e139]
      exact ⟨_, rfl, kU, fU⟩
  · have eS : stF (n c) (S c) x b = b := by
      unfold stF
      rw [if_neg hp, if_neg (fun q => by
        rcases btr_t.mp q with q | ⟨q, -⟩
        · omega
        · omega)]
    rw [eS, if_neg (show ¬ zI _ ≤ (0 : Int32) from fun q => absurd ((zI_le (b := 0) (by omega) (by omega) (by omega) (by omega)).mp q) (by omega))]
    exact ⟨I, rfl, Kp.rf, f⟩
theorem try18 {x : Nat} {b : FT} (hN : 20000 ≤ N) (hc : c < m) (h6 : n c ≤ 6) (hb : Bnd b) (hp : pkN (n c) (S c) x ≠ 0) : ∀ (t k i : Nat) (I : PI), i + 1 + t = n c → t < k → CSet I m n S → (∀ y, y < n c → I 21 y = wF (n c) x y) → F4 I b → ∃ J : PI, F_X1_tryFilter_18 N k (nI c) (nI x) (nI (pkN (n c) (S c) x)) (nI (sdF (pN (n c) (S c) x) i)) (nI (i + 1)) I L = some (none, J, L) ∧ Kp dG I J ∧ F4 J (stF (n c) (S c) x b) := by
  have hs := sdN_b (s := S c) (x := x) h6
  have hk := (pN_s (l := n c) (s := S c) (x := x) (z := 0) h6).2
  have hk' : pkN (n c) (S c) x ≤ 288 := hk
  have dKG : ∀ {I J : PI}, Kp dK I J → Kp dG I J := fun h => h.mono (fun a k q => by unfold dK at q; unfold dG; omega)
  intro t
  induction t with
  | zero =>
    intro k i I hi hk r h21 f
    obtain ⟨k, rfl⟩ : ∃ q, k = q + 1 := ⟨k - 1, by omega⟩
    obtain rfl : i = n c - 1 := by omega
    obtain ⟨J, g1, g2, g3⟩ := try92 (L := L) hN hc h6 r h21 hb f hp
    refine ⟨J, ?_, dKG g2, g3⟩
    rw [F_X1_tryFilter_18, r.len hc, bI_s, if_pos (nI_le (by omega) (by omega))]
    exact g1
  | succ t ih =>
    intro k i I hi hk r h21 f
    obtain ⟨k, rfl⟩ : ∃ q, k = q + 1 := ⟨k - 1, by omega⟩
    have f' := f
    obtain ⟨f1, f2, f3, f4⟩ := f'
    have hsi : sdF (pN (n c) (S c) x) i ≤ 288 := sdF_b (fun _ => (pN_s h6).2) i
    have m1 : sdF (pN (n c) (S c) x) i * b.2.2.1 ≤ 288000000 := mul_b (by omega) hb.2
    have m3 : sdN (n c) (S c) x * b.2.2.1 ≤ 288000000 := mul_b (by omega) hb.2
    have m2 : b.2.1 * pkN (n c) (S c) x ≤ 288000000 := mul_b hb.1 hk'
    rw [F_X1_tryFilter_18, r.len hc, bI_s, if_neg (nI_ge (by omega) (by omega)), f2, f3, pk_mul, pk_mul]
    by_cases hlt : b.2.1 * pkN (n c) (S c) x < sdF (pN (n c) (S c) x) i * b.2.2.1
    · have hle : sdF (pN (n c) (S c) x) i ≤ sdN (n c) (S c) x := sdF_mono (by omega)
      have h2 : sdF (pN (n c) (S c) x) i * b.2.2.1 ≤ sdN (n c) (S c) x * b.2.2.1 := Nat.mul_le_mul_right _ hle
      have eS : stF (n c) (S c) x b = b := by
        unfold stF
        rw [if_neg hp, if_neg (fun q => by
          rcases btr_t.mp q with q | ⟨q, -⟩
          · omega
          · omega)]
      rw [if_pos (nI_lt hlt (by omega)), eS]
      unfold F_X1_tryFilter_92
      rw [f2, f3, pk_mul, pk_mul, zI_n (_ * _), zI_n (_ * _), zI_sub, nmI_s, if_neg (show ¬ zI _ ≤ (0 : Int32) from fun q => absurd ((zI_le (b := 0) (by omega) (by omega) (by omega) (by omega)).mp q) (by omega))]
      exact ⟨I, rfl, Kp.rf, f⟩
    · obtain ⟨J1, e1, k1, -⟩ := pow4_s (L := L) (way := ((i + 1 : Nat) : Int)) (sp := 0) hN (by omega) (by omega) hc hc r h21
      have r1 := r.cong (dG_dC (dM_dG k1))
      obtain ⟨J2, e2, k2, -⟩ := pow4_s (L := L) (way := -((i + 1 : Nat) : Int)) (sp := 0) hN (by omega) (by omega) hc hc r1 (dM_21 k1 h21)
      obtain ⟨p1, p2⟩ := pN_s (l := n c) (s := S c) (x := x) (z := ((i + 1 : Nat) : Int)) h6
      obtain ⟨p3, p4⟩ := pN_s (l := n c) (s := S c) (x := x) (z := -((i + 1 : Nat) : Int)) h6
      have p1' : pwW (wF (n c) x) (S c) (S c) (n c) (n c) ((i + 1 : Nat) : Int) 0 = nI (pN (n c) (S c) x ((i + 1 : Nat) : Int)) := p1
      have p3' : pwW (wF (n c) x) (S c) (S c) (n c) (n c) (-((i + 1 : Nat) : Int)) 0 = nI (pN (n c) (S c) x (-((i + 1 : Nat) : Int))) := p3
      obtain ⟨J, g1, g2, g3⟩ := ih k (i + 1) J2 (by omega) (by omega) (r1.cong (dG_dC (dM_dG k2))) (dM_21 k2 (dM_21 k1 h21)) ((f.cong k1).cong k2)
      refine ⟨J, ?_, ((dM_dG k1).tr (dM_dG k2)).tr g2, g3⟩
      rw [if_neg (nI_nlt (by omega) (by omega)), zI_n (i + 1), e1, bI_s, p1', jmax_n (by omega) (by omega), nmI_s, zI_neg, e2, bI_s, p3', jmax_n (by omega) (by omega), nmI_s, ← zI_n (i + 1), nI_1]
      exact g1
theorem tryF_s {x : Nat} {I : PI} {b : FT} (hN : 20000 ≤ N) (hx : x < 2 ^ 30) (hc : c < m) (h6 : n c ≤ 6) (r : CSet I m n S) (hb : Bnd b) (f : F4 I b) : ∃ J : PI, f_X1_tryFilter N (nI c) (nI x) I L = some (none, J, L) ∧ Kp dG I J ∧ F4 J (stF (n c) (S c) x b) := by
  have h1 := (r.2.2.2 c hc).1
  have hk := (pN_s (l := n c) (s := S c) (x := x) (z := 0) h6).2
  have hk' : pkN (n c) (S c) x ≤ 288 := hk
  obtain ⟨J1, e1, k1, w1⟩ := tell_s (L := L) hN hx hc h6 r
  have k1' : Kp dG I J1 := k1.mono (fun a k q => by unfold dG; omega)
  have f1 : F4 J1 b := by
    obtain ⟨q1, q2, q3, q4⟩ := f
    exact ⟨(k1 1 4 (by omega)).trans q1, (k1 1 5 (by omega)).trans q2, (k1 1 6 (by omega)).trans q3, (k1 1 7 (by omega)).trans q4⟩
  unfold f_X1_tryFilter
  rw [e1, bI_s]
  by_cases hp : pkN (n c) (S c) x = 0
  · rw [if_pos (by rw [hp]; rfl)]
    have eS : stF (n c) (S c) x b = b := by
      unfold stF
      rw [if_pos hp]
    rw [eS]
    exact ⟨J1, rfl, k1', f1⟩
  · rw [if_neg (nI_ne0 (Nat.pos_of_ne_zero hp) (by omega))]
    obtain ⟨J, g1, g2, g3⟩ := try18 (L := L) (b := b) hN hc h6 hb hp (n c - 1) N 0 J1 (by omega) (by omega) (r.cong (dG_dC k1')) w1 f1
    exact ⟨J, g1, k1'.tr g2, g3⟩
theorem fiB_bnd {l : Nat} {s : Nat → Nat} (h1 : 1 ≤ l) (h6 : l ≤ 6) (x : Nat) : Bnd (fiB l s x) := by
  by_cases h : x = 0
  · rw [h]; exact ⟨Nat.le_refl _, (by decide : 1 ≤ 288)⟩
  · obtain ⟨-, -, q3, q4, -⟩ := fiB_ok (s := s) h1 h6 x (by omega)
    exact ⟨by omega, q3⟩
theorem five_le {l : Nat} (h6 : l ≤ 6) : 5 ^ l ≤ 15625 := Nat.pow_le_pow_right (by decide) h6
theorem find49 {h : Nat} (hN : 20000 ≤ N) (hc : c < m) (h6 : n c ≤ 6) (hh : h ≤ 15625) : ∀ (t k x : Nat) (I : PI), x + t = h / 2 → t < k → CSet I m n S → F4 I (fiB (n c) (S c) x) → ∃ J : PI, F_X1_findFilter_49 N k (nI c) (nI h) (nI x) I L = some (none, J, L) ∧ Kp dG I J ∧ F4 J (fiB (n c) (S c) (h / 2)) := by
  intro t
  induction t with
  | zero =>
    intro k x I hi hk r f
    obtain ⟨k, rfl⟩ : ∃ q, k = q + 1 := ⟨k - 1, by omega⟩
    obtain rfl : x = h / 2 := by omega
    rw [F_X1_findFilter_49, decide_eq_true (by decide), gd_t, show (2 : Int32) = nI 2 from rfl, pk_div (by omega) (by omega) (by omega), if_pos (nI_le (Nat.le_refl _) (by omega))]
    exact ⟨I, rfl, Kp.rf, f⟩
  | succ t ih =>
    intro k x I hi hk r f
    obtain ⟨k, rfl⟩ : ∃ q, k = q + 1 := ⟨k - 1, by omega⟩
    have h1 := (r.2.2.2 c hc).1
    obtain ⟨J1, e1, k1, f1⟩ := tryF_s (L := L) hN (by omega : x < 2 ^ 30) hc h6 r (fiB_bnd h1 h6 x) f
    obtain ⟨J, g1, g2, g3⟩ := ih k (x + 1) J1 (by omega) (by omega) (r.cong (dG_dC k1)) f1
    refine ⟨J, ?_, k1.tr g2, g3⟩
    rw [F_X1_findFilter_49, decide_eq_true (by decide), gd_t, show (2 : Int32) = nI 2 from rfl, pk_div (by omega) (by omega) (by omega), if_neg (nI_ge (by omega) (by omega)), e1, bV_s, nI_1]
    exact g1
theorem find4 {I : PI} (hN : 20000 ≤ N) (hc : c < m) (h6 : n c ≤ 6) (r : CSet I m n S) : ∀ (t k i : Nat), i + t = n c → t < k → ∃ J : PI, F_X1_findFilter_4 N k (nI c) (nI (5 ^ i)) (nI i) I L = some (none, J, L) ∧ Kp dG I J ∧ F4 J (fiB (n c) (S c) (5 ^ n c / 2)) := by
  have h5 := five_le h6
  intro t
  induction t with
  | zero =>
    intro k i hi hk
    obtain ⟨k, rfl⟩ : ∃ q, k = q + 1 := ⟨k - 1, by omega⟩
    obtain rfl : i = n c := by omega
    have kU : Kp dG I (uI (uI (uI (uI I 1 4 (-1)) 1 5 1000000) 1 6 1) 1 7 0) := (((Kp.rf.up (by unfold dG; omega)).up (by unfold dG; omega)).up (by unfold dG; omega)).up (by unfold dG; omega)
    obtain ⟨J, g1, g2, g3⟩ := find49 (N := N) (L := L) hN hc h6 h5 (5 ^ n c / 2) N 0 _ (by omega) (by omega) (r.cong (dG_dC kU)) (by
      refine ⟨?_, ?_, ?_, ?_⟩
      · rw [uI_ne (by omega), uI_ne (by omega), uI_ne (by omega), uI_eq]; rfl
      · rw [uI_ne (by omega), uI_ne (by omega), uI_eq]; rfl
      · rw [uI_ne (by omega), uI_eq]; rfl
      · rw [uI_eq]; rfl)
    refine ⟨J, ?_, kU.tr g2, g3⟩
    rw [F_X1_findFilter_4, r.len hc, bI_s, if_pos (nI_le (Nat.le_refl _) (by omega)), nmW_s, nmW_s, nmW_s, nmW_s]
    exact g1
  | succ t ih =>
    intro k i hi hk
    obtain ⟨k, rfl⟩ : ∃ q, k = q + 1 := ⟨k - 1, by omega⟩
    rw [F_X1_findFilter_4, r.len hc, bI_s, if_neg (nI_ge (by omega) (by omega)), show (5 : Int32) = nI 5 from rfl, pk_mul, ← Nat.pow_succ, nmI_s, nI_1]
    exact ih k (i + 1) (by omega) (by omega)
theorem findF_s {I : PI} (hN : 20000 ≤ N) (hc : c < m) (h6 : n c ≤ 6) (r : CSet I m n S) : ∃ J : PI, f_X1_findFilter N (nI c) I L = some (none, J, L) ∧ Kp dG I J ∧ F4 J (fiB (n c) (S c) (5 ^ n c / 2)) := find4 (N := N) hN hc h6 r (n c) N 0 (by omega) (by omega)
/-! the model -/
def selF (w : Int32) (b : FT) : Int32 := if b.1 = -1 then b.1 else if w = 0 then b.1 else if w = 1 then nI b.2.1 else if w = 2 then nI b.2.2.1 else b.2.2.2
/-- the model's four numbers after x filters -/
def mdF (l : Nat) (s : Nat → Nat) (x : Nat) : Int32 × Int32 × Int32 × Int32 := if x = 0 then (-1, 0, 0, 0) else ((fiB l s x).1, nI (fiB l s x).2.1, nI (fiB l s x).2.2.1, (fiB l s x).2.2.2)
theorem fm153 {x h : Nat} {a2 : Int32} {I : PI} {r : Int32 → Int32 → Int32 → Int32 → Int32 → Int32 → Int32 → Int32 → PI → PL → RES} (h1 : 1 ≤ n c) (h6 : n c ≤ 6) (hx : x < 2 ^ 30) (q27 : I 12 27 = nI (pkN (n c) (S c) x)) (q28 : I 12 28 = nI (sdN (n c) (S c) x)) (q31 : I 12 31 = loN (n c) (S c) x) : (if (mdF (n c) (S c) x).1 = -1 then F_X12_filter_153 N r (nI c) a2 (mdF (n c) (S c) x).1 (mdF (n c) (S c) x).2.1 (mdF (n c) (S c) x).2.2.1 (mdF (n c) (S c) x).2.2.2 (nI h) (nI x) 1 I L else F_X12_filter_153 N r (nI c) a2 (mdF (n c) (S c) x).1 (mdF (n c) (S c) x).2.1 (mdF (n c) (S c) x).2.2.1 (mdF (n c) (S c) x).2.2.2 (nI h) (nI x) (((mdF (n c) (S c) x).2.1 * (I 12 27)) - ((I 12 28) * (mdF (n c) (S c) x).2.2.1)) I L) = r (nI c) a2 (mdF (n c) (S c) (x + 1)).1 (mdF (n c) (S c) (x + 1)).2.1 (mdF (n c) (S c) (x + 1)).2.2.1 (mdF (n c) (S c) (x + 1)).2.2.2 (nI h) (nI (x + 1)) I L := by
  have hs := sdN_b (s := S c) (x := x) h6
  have hk' : pkN (n c) (S c) x ≤ 288 := (pN_s (l := n c) (s := S c) (x := x) (z := 0) h6).2
  have e181 : F_X12_filter_181 N r (nI c) a2 (nI h) (nI x) I L = r (nI c) a2 (nI x) (nI (sdN (n c) (S c) x)) (nI (pkN (n c) (S c) x)) (loN (n c) (S c) x) (nI h) (nI (x + 1)) I L := by
    unfold F_X12_filter_181
    rw [nmI_s, nmI_s, nmI_s, q27, q28, q31, nI_1]
  by_cases h0 : x = 0
  · subst h0
    have hp := pk0_ne (s := S c) h1 h6
    have e1 : mdF (n c) (S c) (0 + 1) = (nI 0, nI (sdN (n c) (S c) 0), nI (pkN (n c) (S c) 0), loN (n c) (S c) 0) := by
      unfold mdF
      rw [if_neg (by omega), fiB_1 h1 h6]
    rw [e1, if_pos (show (mdF (n c) (S c) 0).1 = -1 from rfl)]
    unfold F_X12_filter_153
    rw [q27, if_neg (nI_nle hp (by omega)), if_pos (by decide)]
    exact e181
  · obtain ⟨⟨y, y1, y2⟩, o2, o3, o4, -⟩ := fiB_ok (s := S c) h1 h6 x (by omega)
    have e0 : mdF (n c) (S c) x = ((fiB (n c) (S c) x).1, nI (fiB (n c) (S c) x).2.1, nI (fiB (n c) (S c) x).2.2.1, (fiB (n c) (S c) x).2.2.2) := by
      unfold mdF
      rw [if_neg h0]
    have eS : mdF (n c) (S c) (x + 1) = ((stF (n c) (S c) x (fiB (n c) (S c) x)).1, nI (stF (n c) (S c) x (fiB (n c) (S c) x)).2.1, nI (stF (n c) (S c) x (fiB (n c) (S c) x)).2.2.1, (stF (n c) (S c) x (fiB (n c) (S c) x)).2.2.2) := by
      unfold mdF
      rw [if_neg (by omega)]
      rfl
    have m1 : sdN (n c) (S c) x * (fiB (n c) (S c) x).2.2.1 ≤ 288000000 := mul_b (by omega) o3
    have m2 : (fiB (n c) (S c) x).2.1 * pkN (n c) (S c) x ≤ 288000000 := mul_b (by omega) hk'
    rw [e0, eS, if_neg (show ¬ (fiB (n c) (S c) x).1 = -1 by rw [y2]; exact m_ne' (by omega)), q27, q28]
    show F_X12_filter_153 N r (nI c) a2 (fiB (n c) (S c) x).1 (nI (fiB (n c) (S c) x).2.1) (nI (fiB (n c) (S c) x).2.2.1) (fiB (n c) (S c) x).2.2.2 (nI h) (nI x) (nI (fiB (n c) (S c) x).2.1 * nI (pkN (n c) (S c) x) - nI (sdN (n c) (S c) x) * nI (fiB (n c) (S c) x).2.2.1) I L = _
    rw [pk_mul, pk_mul, zI_n ((fiB (n c) (S c) x).2.1 * _), zI_n (sdN (n c) (S c) x * _), zI_sub]
    unfold F_X12_filter_153
    rw [q27, nI_1]
    by_cases hp : pkN (n c) (S c) x = 0
    · have e : stF (n c) (S c) x (fiB (n c) (S c) x) = fiB (n c) (S c) x := by
        unfold stF
        rw [if_pos hp]
      rw [e, if_pos (by rw [hp]; decide)]
    · rw [if_neg (nI_nle (Nat.pos_of_ne_zero hp) (by omega))]
      rcases Nat.lt_trichotomy (sdN (n c) (S c) x * (fiB (n c) (S c) x).2.2.1) ((fiB (n c) (S c) x).2.1 * pkN (n c) (S c) x) with g | g | g
      · have e : stF (n c) (S c) x (fiB (n c) (S c) x) = (nI x, sdN (n c) (S c) x, pkN (n c) (S c) x, loN (n c) (S c) x) := by
          unfold stF
          rw [if_neg hp, if_pos (btr_t.mpr (Or.inl g))]
        rw [e, if_pos (show (0 : Int32) < zI _ from (zI_lt (a := 0) (by omega) (by omega) (by omega) (by omega)).mpr (by omega))]
        exact e181
      · rw [if_neg (show ¬ (0 : Int32) < zI _ from fun q => absurd ((zI_lt (a := 0) (by omega) (by omega) (by omega) (by omega)).mp q) (by omega)), if_pos (show zI _ = (0 : Int32) from (zI_eq (b := 0) (by omega) (by omega) (by omega) (by omega)).mpr (by omega)), q31]
        by_cases hl : loN (n c) (S c) x ≤ (fiB (n c) (S c) x).2.2.2
        · have e : stF (n c) (S c) x (fiB (n c) (S c) x) = fiB (n c) (S c) x := by
            unfold stF
            rw [if_neg hp, if_neg (fun q => by
              rcases btr_t.mp q with q | ⟨-, q⟩
              · omega
              · exact absurd q (fun z => i32_nle.mpr z hl))]
          rw [e, if_pos hl]
        · have e : stF (n c) (S c) x (fiB (n c) (S c) x) = (nI x, sdN (n c) (S c) x, pkN (n c) (S c) x, loN (n c) (S c) x) := by
            unfold stF
            rw [if_neg hp, if_pos (btr_t.mpr (Or.inr ⟨g, i32_nle.mp hl⟩))]
          rw [e, if_neg hl]
          exact e181
      · have e : stF (n c) (S c) x (fiB (n c) (S c) x) = fiB (n c) (S c) x := by
          unfold stF
          rw [if_neg hp, if_neg (fun q => by
            rcases btr_t.mp q with q | ⟨q, -⟩
            · omega
            · omega)]
        rw [e, if_neg (show ¬ (0 : Int32) < zI _ from fun q => absurd ((zI_lt (a := 0) (by omega) (by omega) (by omega) (by omega)).mp q) (by omega)), if_neg (show ¬ zI _ = (0 : Int32) from fun q => absurd ((zI_eq (b := 0) (by omega) (by omega) (by omega) (by omega)).mp q) (by omega))]
theorem fm94 {x h : Nat} {a2 : Int32} {r : Int32 → Int32 → Int32 → Int32 → Int32 → Int32 → Int32 → Int32 → PI → PL → RES} (hN : 20000 ≤ N) (hc : c < m) (h6 : n c ≤ 6) (hx : x < 2 ^ 30) : ∀ (t k i : Nat) (I : PI), i + t = n c → t < k → CSet I m n S → (∀ y, n c - i ≤ y → y < n c → I 53 y = wF (n c) x y) → ∃ J : PI, F_X12_filter_94 N r k (nI c) a2 (mdF (n c) (S c) x).1 (mdF (n c) (S c) x).2.1 (mdF (n c) (S c) x).2.2.1 (mdF (n c) (S c) x).2.2.2 (nI h) (nI x) (nI (rs i x)) (zI ((n c : Int) - 1 - i)) I L = r (nI c) a2 (mdF (n c) (S c) (x + 1)).1 (mdF (n c) (S c) (x + 1)).2.1 (mdF (n c) (S c) (x + 1)).2.2.1 (mdF (n c) (S c) (x + 1)).2.2.2 (nI h) (nI (x + 1)) J L ∧ Kp dG I J := by
  intro t
  induction t with
  | zero =>
    intro k i I hi hk r0 h53
    obtain ⟨k, rfl⟩ : ∃ q, k = q + 1 := ⟨k - 1, by omega⟩
    obtain rfl : i = n c := by omega
    obtain ⟨c1, c24, -⟩ := r0.2.2.2 c hc
    obtain ⟨J, g1, g2, g3, g4, -, -, g5⟩ := lobesOf_s (L := L) (w := wF (n c) x) hN hc r0 (fun y hy => h53 y (by omega) hy)
    have p0 := (pN_s (l := n c) (s := S c) (x := x) (z := 0) h6).1
    have q27 : J 12 27 = nI (pkN (n c) (S c) x) := g3.trans p0
    have q31 : J 12 31 = loN (n c) (S c) x := by
      rw [g5, p0]; rfl
    have mx := sdF_mx (P := pN (n c) (S c) x) (Q := fun z => pwC (wF (n c) x) (S c) (n c) (z, 0)) (c := 288) (fun _ => (pN_s h6).2) (by decide) (fun z => (pN_s h6).1) (n c - 1)
    have q28 : J 12 28 = nI (sdN (n c) (S c) x) := g4.eq mx (fun z hz => by
      by_cases hh : -(n c : Int) < z ∧ z < n c
      · exact Or.inr ⟨z, ⟨hz.2.1, by omega⟩, rfl⟩
      · exact Or.inl (pwW_out (by omega))) (fun z hz => Or.inr ⟨z, ⟨by omega, hz.1, by omega⟩, rfl⟩)
    refine ⟨J, ?_, dL_dG g2⟩
    rw [F_X12_filter_94, if_pos (show zI ((n c : Int) - 1 - n c) < (0 : Int32) from (zI_lt (b := 0) (by omega) (by omega) (by omega) (by omega)).mpr (by omega)), g1, bV_s]
    exact fm153 (N := N) (L := L) (I := J) (a2 := a2) (r := r) (h := h) c1 h6 hx q27 q28 q31
  | succ t ih =>
    intro k i I hi hk r0 h53
    obtain ⟨k, rfl⟩ : ∃ q, k = q + 1 := ⟨k - 1, by omega⟩
    have hr := rs_le (x := x) (i := i)
    have e5 : (5 : Int32) = nI 5 := rfl
    have ez : zI ((n c : Int) - 1 - i) = nI (n c - 1 - i) := by rw [zI_nat (by omega)]; congr 1; omega
    have ed : nI (rs i x % 5) - 2 = zI ((dgt i x : Int) - 2) := by
      rw [show (2 : Int32) = zI 2 from rfl, zI_n, zI_sub]; rfl
    have em : zI ((n c : Int) - 1 - i) + (-1) = zI ((n c : Int) - 1 - (i + 1 : Nat)) := by
      rw [zm1, zI_add]; congr 1; omega
    have kU : Kp dG I (uI I 53 (n c - 1 - i) (zI ((dgt i x : Int) - 2))) := Kp.rf.up (by unfold dG; omega)
    obtain ⟨J, g1, g2⟩ := ih k (i + 1) (uI I 53 (n c - 1 - i) (zI ((dgt i x : Int) - 2))) (by omega) (by omega) (r0.cong (dG_dC kU)) (fun y h1 h2 => by
      by_cases ey : y = n c - 1 - i
      · rw [ey, uI_eq]
        unfold wF
        rw [show n c - 1 - (n c - 1 - i) = i by omega]
      · rw [uI_ne (by omega)]; exact h53 y (by omega) h2)
    refine ⟨J, ?_, kU.tr g2⟩
    rw [F_X12_filter_94, if_neg (show ¬ zI ((n c : Int) - 1 - i) < (0 : Int32) from fun q => absurd ((zI_lt (b := 0) (by omega) (by omega) (by omega) (by omega)).mp q) (by omega)), decide_eq_true (by decide), gd_t, em, ez, gd_in (by omega) (by omega), e5, jirem_n (by omega) (by omega) (by omega), ed, nI_clamp (by omega), nmW_s, gd_t, pk_div (by omega) (by omega) (by omega), nmI_s]
    exact g1
theorem fm73 {a2 : Int32} (hN : 20000 ≤ N) (hc : c < m) (h6 : n c ≤ 6) : ∀ (t k x : Nat) (I : PI), x + t = 5 ^ n c → t < k → CSet I m n S → ∃ J : PI, F_X12_filter_73 N k (nI c) a2 (mdF (n c) (S c) x).1 (mdF (n c) (S c) x).2.1 (mdF (n c) (S c) x).2.2.1 (mdF (n c) (S c) x).2.2.2 (nI (5 ^ n c)) (nI x) I L = some (some (.int (selF a2 (fiB (n c) (S c) (5 ^ n c)))), J, L) ∧ Kp dG I J := by
  have h5 := five_le h6
  have hp : 1 ≤ 5 ^ n c := Nat.pow_le_pow_right (n := 5) (i := 0) (by decide) (Nat.zero_le _)
  intro t
  induction t with
  | zero =>
    intro k x I hi hk r0
    obtain ⟨k, rfl⟩ : ∃ q, k = q + 1 := ⟨k - 1, by omega⟩
    obtain rfl : x = 5 ^ n c := by omega
    have e0 : mdF (n c) (S c) (5 ^ n c) = ((fiB (n c) (S c) (5 ^ n c)).1, nI (fiB (n c) (S c) (5 ^ n c)).2.1, nI (fiB (n c) (S c) (5 ^ n c)).2.2.1, (fiB (n c) (S c) (5 ^ n c)).2.2.2) := by
      unfold mdF
      rw [if_neg (by omega)]
    refine ⟨I, ?_, Kp.rf⟩
    rw [F_X12_filter_73, if_pos (nI_le (Nat.le_refl _) (by omega)), e0]
    unfold F_X12_filter_217 selF
    by_cases g1 : (fiB (n c) (S c) (5 ^ n c)).1 = -1
    · rw [if_pos g1, if_pos g1]
    · rw [if_neg g1, if_neg g1]
      by_cases g2 : a2 = 0
      · rw [if_pos g2, if_pos g2]
      · rw [if_neg g2, if_neg g2]
        by_cases g3 : a2 = 1
        · rw [if_pos g3, if_pos g3]
        · rw [if_neg g3, if_neg g3]
          by_cases g4 : a2 = 2
          · rw [if_pos g4, if_pos g4]
          · rw [if_neg g4, if_neg g4]
  | succ t ih =>
    intro k x I hi hk r0
    obtain ⟨k, rfl⟩ : ∃ q, k = q + 1 := ⟨k - 1, by omega⟩
    have hm := r0.1
    have c1 := (r0.2.2.2 c hc).1
    obtain ⟨J1, e1, k1⟩ := fm94 (N := N) (L := L) (x := x) (h := 5 ^ n c) (a2 := a2) (r := F_X12_filter_73 N k) hN hc h6 (by omega) (n c) N 0 I (by omega) (by omega) r0 (fun y h1 h2 => by omega)
    obtain ⟨J, g1, g2⟩ := ih k (x + 1) J1 (by omega) (by omega) (r0.cong (dG_dC k1))
    refine ⟨J, ?_, k1.tr g2⟩
    have ez : zI ((n c : Int) - 1 - (0 : Nat)) = nI (n c - 1) := by rw [zI_nat (by omega)]; congr 1; omega
    rw [ez] at e1
    have e1' : F_X12_filter_94 N (F_X12_filter_73 N k) N (nI c) a2 (mdF (n c) (S c) x).1 (mdF (n c) (S c) x).2.1 (mdF (n c) (S c) x).2.2.1 (mdF (n c) (S c) x).2.2.2 (nI (5 ^ n c)) (nI x) (nI x) (nI (n c - 1)) I L = _ := e1
    rw [F_X12_filter_73, if_neg (nI_ge (by omega) (by omega)), gd_in (by omega) (by omega), nI_clamp (by omega), r0.l50 hc, nsub1 c1, nmI_s, e1']
    exact g1
theorem fm47 {a2 : Int32} {I : PI} (hN : 20000 ≤ N) (hc : c < m) (h6 : n c ≤ 6) (r0 : CSet I m n S) : ∀ (t k i : Nat), i + t = n c → t < k → ∃ J : PI, F_X12_filter_47 N k (nI c) a2 (-1) 0 0 0 (nI (5 ^ i)) (nI i) I L = some (some (.int (selF a2 (fiB (n c) (S c) (5 ^ n c)))), J, L) ∧ Kp dG I J := by
  have h5 := five_le h6
  have hm := r0.1
  intro t
  induction t with
  | zero =>
    intro k i hi hk
    obtain ⟨k, rfl⟩ : ∃ q, k = q + 1 := ⟨k - 1, by omega⟩
    obtain rfl : i = n c := by omega
    obtain ⟨J, g1, g2⟩ := fm73 (N := N) (L := L) (a2 := a2) hN hc h6 (5 ^ n c) N 0 I (by omega) (by omega) r0
    refine ⟨J, ?_, g2⟩
    rw [F_X12_filter_47, gd_in (by omega) (by omega), nI_clamp (by omega), r0.l50 hc, if_pos (nI_le (Nat.le_refl _) (by omega))]
    exact g1
  | succ t ih =>
    intro k i hi hk
    obtain ⟨k, rfl⟩ : ∃ q, k = q + 1 := ⟨k - 1, by omega⟩
    rw [F_X12_filter_47, gd_in (by omega) (by omega), nI_clamp (by omega), r0.l50 hc, if_neg (nI_ge (by omega) (by omega)), show (5 : Int32) = nI 5 from rfl, pk_mul, ← Nat.pow_succ, nmI_s, nI_1]
    exact ih k (i + 1) (by omega) (by omega)
end FIL
/-- the best filters found so far -/
def V24 (I : PI) (c : Nat) (b : FT) : Prop := I 24 (4 * c) = b.1 ∧ I 24 (4 * c + 1) = nI b.2.1 ∧ I 24 (4 * c + 2) = nI b.2.2.1 ∧ I 24 (4 * c + 3) = b.2.2.2
def XF1 (I : PI) (m : Nat) (n : Nat → Nat) (S : Nat → Nat → Nat) : Prop := ∀ c, c < 8 → I 24 (4 * c) = -1 ∨ (c < m ∧ n c ≤ 6 ∧ V24 I c (fiB (n c) (S c) (5 ^ n c)))
def XFo (X : PI → Prop) : Prop := (∀ I m n S, X I → CSet I m n S → XF1 I m n S) ∧ ∀ I J m n S, X I → CSet I m n S → Kp (fun a k => a = 24 ∨ dG a k) I J → XF1 J m n S → X J
theorem case_filter {X : PI → Prop} (hX : Xok X) {N : Nat} (hN : 20000 ≤ N) (hXF : XFo X) (a1 a2 : Int32) : CaseI (Inv X) (f_X11_filter N a1 a2) (f_X12_filter N a1 a2) := by
  intro I L hI
  have hI0 := hI
  obtain ⟨-, -, hC, -, -, -, -, hx⟩ := hI
  obtain ⟨m, n, S, r⟩ := hC.set
  have hm := r.1
  have eC := f_X11_filter.eq_1 N a1 a2 I L
  have eM := fun J => f_X12_filter.eq_1 N a1 a2 J L
  have eM0 := eM I
  rw [r.has, bI_s] at eC
  rw [r.is, bI_s] at eM0
  cases hq : hz a1 m with
  | false =>
    rw [ifz_f hq] at eC eM0
    exact ⟨-1, I, L, I, L, eC, eM0, hI0⟩
  | true =>
    obtain ⟨c, hc, rfl⟩ := (hz_iff (by omega)).mp hq
    obtain ⟨c1, c24, -⟩ := r.2.2.2 c hc
    rw [ifz_t hq, r.len hc, bI_s, show (6 : Int32) = nI 6 from rfl] at eC
    rw [ifz_t hq, gd_in (by omega) (by omega), nI_clamp (by omega), r.l50 hc, show (6 : Int32) = nI 6 from rfl] at eM0
    by_cases h6 : n c ≤ 6
    · rw [if_neg (nI_nlt h6 (by omega)), within_s, bI_s] at eC
      rw [if_neg (nI_nlt h6 (by omega)), in_s, bI_s] at eM0
      cases hu : wi a2 0 3 with
      | false =>
        rw [ifz_f hu] at eC eM0
        exact ⟨-1, I, L, I, L, eC, eM0, hI0⟩
      | true =>
        rw [ifz_t hu] at eC
        obtain ⟨j, j3, rfl⟩ := wi_nat (n := 3) rfl (by omega) hu
        have hM : ∀ J, Kp (fun a k => a = 24 ∨ dG a k) I J → ∃ J', f_X12_filter N (nI c) (nI j) J L = some (some (.int (selF (nI j) (fiB (n c) (S c) (5 ^ n c)))), J', L) ∧ Kp dG J J' := fun J kJ => by
          have rJ : CSet J m n S := r.cong (fun a k h => kJ a k (fun q => by unfold dG at q; unfold dC at h; omega))
          obtain ⟨J', g1, g2⟩ := fm47 (N := N) (L := L) (a2 := nI j) hN hc h6 rJ (n c) N 0 (by omega) (by omega)
          refine ⟨J', ?_, g2⟩
          rw [eM J, rJ.is, bI_s, ifz_t hq, gd_in (by omega) (by omega), nI_clamp (by omega), rJ.l50 hc, show (6 : Int32) = nI 6 from rfl, if_neg (nI_nlt h6 (by omega)), in_s, bI_s, ifz_t hu]
          exact g1
        have e4 : nI c * 4 = nI (4 * c) := by rw [show (4 : Int32) = nI 4 from rfl, pk_mul, Nat.mul_comm]
        have hp5 : 1 ≤ 5 ^ n c := Nat.pow_le_pow_right (n := 5) (i := 0) (by decide) (Nat.zero_le _)
        obtain ⟨⟨y, y1, y2⟩, -⟩ := fiB_ok (s := S c) c1 h6 (5 ^ n c) hp5
        have h5 := five_le h6
        have hne : ¬ (fiB (n c) (S c) (5 ^ n c)).1 = -1 := by rw [y2]; exact m_ne' (by omega)
        have hsel : ∀ J : PI, V24 J c (fiB (n c) (S c) (5 ^ n c)) → F_X1_filterOf_48 N (nI c) (nI j) J L = some (some (.int (selF (nI j) (fiB (n c) (S c) (5 ^ n c)))), J, L) := fun J hJ => by
          unfold F_X1_filterOf_48
          rw [e4, nI_add, gd_in (by omega) (by omega), nI_clamp (by omega)]
          unfold selF
          rw [if_neg hne]
          rcases (by omega : j = 0 ∨ j = 1 ∨ j = 2 ∨ j = 3) with hj | hj | hj | hj
          · rw [hj, if_pos (by decide)]; exact congrArg (fun y => some (some (Value.int y), J, L)) hJ.1
          · rw [hj, if_neg (by decide), if_pos (by decide)]; exact congrArg (fun y => some (some (Value.int y), J, L)) hJ.2.1
          · rw [hj, if_neg (by decide), if_neg (by decide), if_pos (by decide)]; exact congrArg (fun y => some (some (Value.int y), J, L)) hJ.2.2.1
          · rw [hj, if_neg (by decide), if_neg (by decide), if_neg (by decide)]; exact congrArg (fun y => some (some (Value.int y), J, L)) hJ.2.2.2
        unfold f_X1_filterOf at eC
        rw [r.has, bI_s, ifz_t hq, if_neg (nI_pos (by omega)), show (4 : Int32) = nI 4 from rfl, if_pos (nI_lt (by omega) (by omega)), show nI 4 = (4 : Int32) from rfl, e4, gd_in (by omega) (by omega), nI_clamp (by omega)] at eC
        by_cases hf : I 24 (4 * c) = -1
        · obtain ⟨J1, e1, k1, b1⟩ := findF_s (I := I) (L := L) hN hc h6 r
          rw [← fiB_half c1 h6] at b1
          obtain ⟨J, hJ⟩ : ∃ J : PI, J = uI (uI (uI (uI J1 24 (4 * c) (J1 1 4)) 24 (4 * c + 1) (J1 1 5)) 24 (4 * c + 2) (J1 1 6)) 24 (4 * c + 3) (J1 1 7) := ⟨_, rfl⟩
          have eK : f_X1_keepIn_r24 N (nI c) J1 L = some (none, J, L) := by
            unfold f_X1_keepIn_r24
            rw [e4, nmI_s, if_neg (nI_pos (by omega)), show (3 : Int32) = nI 3 from rfl, show (2 : Int32) = nI 2 from rfl, nI_add, nI_add, nI_1, show (32 : Int32) = nI 32 from rfl, if_neg (nI_ge (by omega) (by omega)), gd_in (by omega) (by omega), nI_clamp (by omega), nmW_s, gd_in (by omega) (by omega), nI_clamp (by omega), uI_ne (a := 1) (k := 5) (by omega), nmW_s, gd_in (by omega) (by omega), nI_clamp (by omega), uI_ne (a := 1) (k := 6) (by omega), uI_ne (a := 1) (k := 6) (by omega), nmW_s, gd_in (by omega) (by omega), nI_clamp (by omega), uI_ne (a := 1) (k := 7) (by omega), uI_ne (a := 1) (k := 7) (by omega), uI_ne (a := 1) (k := 7) (by omega), nmW_s, ← hJ]
          have h4 : V24 J c (fiB (n c) (S c) (5 ^ n c)) := by
            obtain ⟨q1, q2, q3, q4⟩ := b1
            refine ⟨?_, ?_, ?_, ?_⟩
            · rw [hJ, uI_ne (by omega), uI_ne (by omega), uI_ne (by omega), uI_eq]; exact q1
            · rw [hJ, uI_ne (by omega), uI_ne (by omega), uI_eq]; exact q2
            · rw [hJ, uI_ne (by omega), uI_eq]; exact q3
            · rw [hJ, uI_eq]; exact q4
          rw [if_pos hf, e1, bV_s, eK, bV_s, hsel J h4, bI_s] at eC
          have kJ : Kp (fun a k => a = 24 ∨ dG a k) I J := (k1.mono (fun a k q => Or.inr q)).tr (hJ ▸ (((Kp.rf.up (Or.inl rfl)).up (Or.inl rfl)).up (Or.inl rfl)).up (Or.inl rfl))
          have hXJ : X J := hXF.2 I J m n S hx r kJ (fun c' hc' => by
            by_cases el : c' = c
            · rw [el]; exact Or.inr ⟨hc, h6, h4⟩
            · have o : ∀ k, k < 4 → J 24 (4 * c' + k) = I 24 (4 * c' + k) := fun k hk => by
                rw [hJ, uI_ne (by omega), uI_ne (by omega), uI_ne (by omega), uI_ne (by omega), k1 24 _ (by unfold dG; omega)]
              have o0 : J 24 (4 * c') = I 24 (4 * c') := o 0 (by omega)
              unfold V24
              rw [o0, o 1 (by omega), o 2 (by omega), o 3 (by omega)]
              exact hXF.1 I m n S hx r c' hc')
          have hIJ : Inv X J L := Inv.mkX kJ (fun a k h => by unfold dG at h; unfold dT dS dR dD dE dZ dC; omega) hXJ hI0
          obtain ⟨J', g1, g2⟩ := hM J kJ
          exact ⟨_, J, L, J', L, eC, g1, hIJ.keep hX g2 dG_free⟩
        · rcases hXF.1 I m n S hx r c (by omega) with q | ⟨-, -, q⟩
          · exact absurd q hf
          · rw [if_neg hf, hsel I q, bI_s] at eC
            obtain ⟨J', g1, g2⟩ := hM I Kp.rf
            exact ⟨_, I, L, J', L, eC, g1, hI0.keep hX g2 dG_free⟩
    · have h6' : nI 6 < nI (n c) := nI_lt (by omega) (by omega)
      rw [if_pos h6'] at eC eM0
      exact ⟨-1, I, L, I, L, eC, eM0, hI0⟩
