/-! what comes of a code against a filter, in both -/
def sumW (g : Nat → Int32) : Nat → Int32
  | 0 => 0
  | n + 1 => sumW g n + g n
theorem sumW_s {g : Nat → Int32} {n : Nat} : sumW g (n + 1) = sumW g n + g n := rfl
theorem sumW_congr {f g : Nat → Int32} : ∀ n, (∀ k, k < n → f k = g k) → sumW f n = sumW g n := by
  intro n
  induction n with
  | zero => intro _; rfl
  | succ n ih =>
    intro h
    rw [sumW_s, sumW_s, ih (fun k hk => h k (by omega)), h n (by omega)]
theorem sumW_ext {g : Nat → Int32} {a b : Nat} (h : a ≤ b) (h2 : ∀ k, a ≤ k → k < b → g k = 0) : sumW g b = sumW g a := by
  induction b with
  | zero => rw [show a = 0 by omega]
  | succ b ih =>
    by_cases e : a = b + 1
    · rw [e]
    · rw [sumW_s, h2 b (by omega) (by omega), ih (by omega) (fun k h1 h3 => h2 k h1 (by omega)), Int32.add_zero]
/-- place k of one meets a place of the other -/
def trn (s t : Nat → Nat) (sp : Int32) (k x : Nat) : Int32 := (nI (s k) + sp * nI k) - nI (t x)
def tmW (w : Nat → Int32) (s t : Nat → Nat) (nt : Nat) (way : Int) (sp r : Int32) (k : Nat) : Int32 := if 0 ≤ (k : Int) - way ∧ (k : Int) - way < nt then w ((k : Int) - way).toNat * partV (trn s t sp k ((k : Int) - way).toNat) r else 0
def meW (w : Nat → Int32) (s t : Nat → Nat) (ns nt : Nat) (way : Int) (sp r : Int32) : Int32 := sumW (tmW w s t nt way sp r) ns
def pwW (w : Nat → Int32) (s t : Nat → Nat) (ns nt : Nat) (way : Int) (sp : Int32) : Int32 := meW w s t ns nt way sp 1 * meW w s t ns nt way sp 1 + meW w s t ns nt way sp 0 * meW w s t ns nt way sp 0
/-- what echoes may change -/
def dG (a k : Nat) : Prop := a = 20 ∨ (a = 7 ∧ k = 3) ∨ a = 21 ∨ (a = 4 ∧ (k = 4 ∨ k = 5)) ∨ a = 47 ∨ a = 48 ∨ a = 53 ∨ (a = 12 ∧ 24 ≤ k ∧ k ≤ 31) ∨ (a = 1 ∧ 4 ≤ k ∧ k ≤ 7)
theorem dG_free : Free dG := fun a k h => by unfold dG at h; unfold dT dS dR dD dE dZ dX dC; omega
theorem dG_dC {I J : PI} (h : Kp dG I J) : ∀ a k, dC a k → J a k = I a k := fun a k hc => h a k (fun q => by unfold dG at q; unfold dC at hc; omega)
def dM (a k : Nat) : Prop := a = 4 ∧ (k = 4 ∨ k = 5)
def dN (a k : Nat) : Prop := a = 12 ∧ 24 ≤ k ∧ k ≤ 26
theorem dM_dG {I J : PI} (h : Kp dM I J) : Kp dG I J := h.mono (fun a k q => by unfold dM at q; unfold dG; omega)
theorem dN_dG {I J : PI} (h : Kp dN I J) : Kp dG I J := h.mono (fun a k q => by unfold dN at q; unfold dG; omega)
theorem zI_ltN {z : Int} {i : Nat} (h1 : -1000 ≤ z) (h2 : z ≤ 1000) (hi : i ≤ 1000) : zI z ≤ nI i ↔ z ≤ (i : Int) := by
  rw [zI_n, zI_le (by omega) (by omega) (by omega) (by omega)]
section ECHO
variable {N m c d : Nat} {n : Nat → Nat} {S : Nat → Nat → Nat} {L : PL} {w : Nat → Int32} {sp : Int32} {way : Int}
theorem meetLp {A B : Int32} {hz0 : Int} (hw : -24 < way) (hw2 : way < 24) (hc : c < m) (hd : d < m) (hz : hz0 = min (n c : Int) (n d + way)) : ∀ (t k i : Nat) (I : PI), hz0 ≤ (i : Int) + t → t < k → way ≤ i → i ≤ 24 → (i ≤ n c ∨ (i : Int) = way) → CSet I m n S → (∀ x, x < n d → I 21 x = w x) → I 4 4 = A + sumW (tmW w (S c) (S d) (n d) way sp 1) i → I 4 5 = B + sumW (tmW w (S c) (S d) (n d) way sp 0) i → ∃ J : PI, F_X4_addMeeting_83 N k (nI c) (nI d) (zI way) sp (zI hz0) (nI i) I L = some (none, J, L) ∧ Kp dM I J ∧ J 4 4 = A + meW w (S c) (S d) (n c) (n d) way sp 1 ∧ J 4 5 = B + meW w (S c) (S d) (n c) (n d) way sp 0 := by
  have stop : ∀ (i : Nat) (r : Int32), hz0 ≤ (i : Int) → way ≤ i → (i ≤ n c ∨ (i : Int) = way) → sumW (tmW w (S c) (S d) (n d) way sp r) i = meW w (S c) (S d) (n c) (n d) way sp r := by
    intro i r h1 h2 h3
    unfold meW
    by_cases h4 : i ≤ n c
    · refine (sumW_ext h4 (fun k h5 h6 => ?_)).symm
      unfold tmW
      rw [if_neg (by omega)]
    · refine sumW_ext (by omega) (fun k h5 h6 => ?_)
      unfold tmW
      rw [if_neg (by omega)]
  intro t
  induction t with
  | zero =>
    intro k i I hi hk h1 h24 h2 r h21 hA hB
    obtain ⟨k, rfl⟩ : ∃ q, k = q + 1 := ⟨k - 1, by omega⟩
    have hnc := (r.2.2.2 c hc).2.1
    have hnd := (r.2.2.2 d hd).2.1
    rw [F_X4_addMeeting_83, if_pos ((zI_ltN (by omega) (by omega) (by omega)).mpr (by omega))]
    refine ⟨I, rfl, Kp.rf, ?_, ?_⟩
    · rw [hA, stop i 1 (by omega) h1 h2]
    · rw [hB, stop i 0 (by omega) h1 h2]
  | succ t ih =>
    intro k i I hi hk h1 h24 h2 r h21 hA hB
    obtain ⟨k, rfl⟩ : ∃ q, k = q + 1 := ⟨k - 1, by omega⟩
    have r' := r
    obtain ⟨m8, m2, m3, hh⟩ := r'
    obtain ⟨c1, c24, -, -, gc⟩ := hh c hc
    obtain ⟨d1, d24, -, -, gd0⟩ := hh d hd
    by_cases hst : hz0 ≤ (i : Int)
    · rw [F_X4_addMeeting_83, if_pos ((zI_ltN (by omega) (by omega) (by omega)).mpr hst)]
      refine ⟨I, rfl, Kp.rf, ?_, ?_⟩
      · rw [hA, stop i 1 (by omega) h1 h2]
      · rw [hB, stop i 0 (by omega) h1 h2]
    · obtain ⟨x, hx⟩ : ∃ x, x = ((i : Int) - way).toNat := ⟨_, rfl⟩
      have hxi : (x : Int) = i - way := by rw [hx]; omega
      have hic : i < n c := by omega
      have hxd : x < n d := by omega
      have e1 : nI i - zI way = nI x := by rw [zI_n i, zI_sub, zI_nat (by omega), ← hx]
      have e2 : nI c * 24 + nI i = nI (24 * c + i) := by rw [show (24 : Int32) = nI 24 from rfl, pk_mul, nI_add, Nat.mul_comm]
      have e3 : (nI d * 24 + nI i) - zI way = nI (24 * d + x) := by
        rw [show (24 : Int32) = nI 24 from rfl, pk_mul, nI_add, zI_n (d * 24 + i), zI_sub, zI_nat (by omega)]
        congr 1
        omega
      have et : ∀ r, tmW w (S c) (S d) (n d) way sp r i = w x * partV (trn (S c) (S d) sp i x) r := fun r => by
        unfold tmW
        rw [if_pos (by omega), ← hx]
      have es : ∀ r, sumW (tmW w (S c) (S d) (n d) way sp r) (i + 1) = sumW (tmW w (S c) (S d) (n d) way sp r) i + w x * partV (trn (S c) (S d) sp i x) r := fun r => by rw [sumW_s, et]
      obtain ⟨j, j4, hj⟩ := pk_andE (trn (S c) (S d) sp i x) (m := 3) 2 (by decide)
      have hT : ((nI (S c i) + sp * nI i) - nI (S d x)) &&& 3 = nI j := hj
      have go : ∀ I' : PI, Kp dM I I' → I' 4 4 = A + sumW (tmW w (S c) (S d) (n d) way sp 1) (i + 1) → I' 4 5 = B + sumW (tmW w (S c) (S d) (n d) way sp 0) (i + 1) → ∃ J : PI, F_X4_addMeeting_83 N k (nI c) (nI d) (zI way) sp (zI hz0) (nI (i + 1)) I' L = some (none, J, L) ∧ Kp dM I J ∧ J 4 4 = A + meW w (S c) (S d) (n c) (n d) way sp 1 ∧ J 4 5 = B + meW w (S c) (S d) (n c) (n d) way sp 0 := fun I' hk' hA' hB' => by
        obtain ⟨J, g1, g2, g3⟩ := ih k (i + 1) I' (by omega) (by omega) (by omega) (by omega) (Or.inl (by omega)) (r.cong (dG_dC (dM_dG hk'))) (fun x hx => (hk' 21 x (by unfold dM; omega)).trans (h21 x hx)) hA' hB'
        exact ⟨J, g1, hk'.tr g2, g3⟩
      rw [F_X4_addMeeting_83, if_neg (fun q => hst ((zI_ltN (by omega) (by omega) (by omega)).mp q)), e1, gd_in (by omega) (by omega), nI_clamp (n := x) (by omega), h21 x hxd, nmI_s, e2, e3, gd_in (by omega) (by omega), gd_in (by omega) (by omega), nI_clamp (n := 24 * c + i) (by omega), nI_clamp (n := 24 * d + x) (by omega), (gc i hic).2.1, (gd0 x hxd).2.1, hT, nmI_s, nI_1]
      have p1 : partV (trn (S c) (S d) sp i x) 1 = if nI j = 0 then 1 else if nI j = 2 then -1 else 0 := by
        unfold partV
        rw [hj, if_neg ne_10]
      have p0 : partV (trn (S c) (S d) sp i x) 0 = if nI j = 1 then 1 else if nI j = 3 then -1 else 0 := by
        unfold partV
        rw [hj, if_pos rfl]
      have s1 := es 1
      have s0 := es 0
      rw [p1] at s1
      rw [p0] at s0
      match j, j4 with
      | 0, _ =>
        rw [if_pos (by decide), nmW_s]
        refine go _ (Kp.rf.up ⟨rfl, Or.inl rfl⟩) ?_ ?_
        · rw [uI_eq, s1, if_pos (by decide), hA, Int32.mul_one, Int32.add_assoc]
        · rw [uI_ne (by omega), s0, if_neg (by decide), if_neg (by decide), hB, Int32.mul_zero, Int32.add_zero]
      | 1, _ =>
        rw [if_neg (by decide), if_pos (by decide), nmW_s]
        refine go _ (Kp.rf.up ⟨rfl, Or.inr rfl⟩) ?_ ?_
        · rw [uI_ne (by omega), s1, if_neg (by decide), if_neg (by decide), hA, Int32.mul_zero, Int32.add_zero]
        · rw [uI_eq, s0, if_pos (by decide), hB, Int32.mul_one, Int32.add_assoc]
      | 2, _ =>
        rw [if_neg (by decide), if_neg (by decide), if_pos (by decide), nmW_s]
        refine go _ (Kp.rf.up ⟨rfl, Or.inl rfl⟩) ?_ ?_
        · rw [uI_eq, s1, if_neg (by decide), if_pos (by decide), hA]
          grind
        · rw [uI_ne (by omega), s0, if_neg (by decide), if_neg (by decide), hB, Int32.mul_zero, Int32.add_zero]
      | 3, _ =>
        rw [if_neg (by decide), if_neg (by decide), if_neg (by decide), nmW_s]
        refine go _ (Kp.rf.up ⟨rfl, Or.inr rfl⟩) ?_ ?_
        · rw [uI_ne (by omega), s1, if_neg (by decide), if_neg (by decide), hA, Int32.mul_zero, Int32.add_zero]
        · rw [uI_eq, s0, if_neg (by decide), if_pos (by decide), hB]
          grind
      | j + 4, q => omega
theorem jmax_z : jmax 0 (zI way) = nI way.toNat ∨ way < -1000000 ∨ 1000000 < way := by
  by_cases h : way < -1000000 ∨ 1000000 < way
  · exact Or.inr h
  · left
    unfold jmax
    by_cases h0 : 0 < way
    · rw [if_pos (show (0 : Int32) < zI way from (zI_lt (by omega) (by omega) (by omega) (by omega)).mpr h0), zI_nat (by omega)]
    · rw [if_neg (show ¬ (0 : Int32) < zI way from fun q => h0 ((zI_lt (by omega) (by omega) (by omega) (by omega)).mp q)), show way.toNat = 0 by omega]
      rfl
theorem jmin_z {a b : Int} (h1 : -1000000 ≤ a) (h2 : a ≤ 1000000) (h3 : -1000000 ≤ b) (h4 : b ≤ 1000000) : jmin (zI a) (zI b) = zI (min a b) := by
  unfold jmin
  by_cases h : b < a
  · rw [if_pos ((zI_lt (by omega) (by omega) (by omega) (by omega)).mpr h), show min a b = b by omega]
  · rw [if_neg (fun q => h ((zI_lt (by omega) (by omega) (by omega) (by omega)).mp q)), show min a b = a by omega]
theorem add_s {A B : Int32} {I : PI} (hN : 20000 ≤ N) (hw : -24 < way) (hw2 : way < 24) (hc : c < m) (hd : d < m) (r : CSet I m n S) (h21 : ∀ x, x < n d → I 21 x = w x) (hA : I 4 4 = A) (hB : I 4 5 = B) : ∃ J : PI, f_X4_addMeeting N (nI c) (nI d) (zI way) sp I L = some (none, J, L) ∧ Kp dM I J ∧ J 4 4 = A + meW w (S c) (S d) (n c) (n d) way sp 1 ∧ J 4 5 = B + meW w (S c) (S d) (n c) (n d) way sp 0 := by
  have r' := r
  obtain ⟨m8, m2, m3, hh⟩ := r'
  obtain ⟨c1, c24, -, -, gc⟩ := hh c hc
  obtain ⟨d1, d24, -, -, gd0⟩ := hh d hd
  have z0 : ∀ r, sumW (tmW w (S c) (S d) (n d) way sp r) way.toNat = 0 := fun r => by
    refine (sumW_ext (a := 0) (Nat.zero_le _) (fun k _ hk => ?_))
    unfold tmW
    rw [if_neg (by omega)]
  obtain ⟨J, g1, g2, g3⟩ := meetLp (N := N) (L := L) (w := w) (sp := sp) (A := A) (B := B) (S := S) hw hw2 hc hd rfl 24 N way.toNat I (by omega) (by omega) (by omega) (by omega) (by omega) r h21 (by rw [z0, Int32.add_zero]; exact hA) (by rw [z0, Int32.add_zero]; exact hB)
  refine ⟨J, ?_, g2, g3⟩
  unfold f_X4_addMeeting
  rw [r.has, bI_s, ifz_t (hz_t hc (by omega)), r.has, bI_s, ifz_t (hz_t hd (by omega)), jmax_z.resolve_right (by omega), nmI_s, r.len hd, bI_s, show (24 : Int32) = nI 24 from rfl, jmin_l d24 (by omega), nmI_s, r.len hc, bI_s, jmin_l c24 (by omega), zI_n (n c), zI_n (n d), zI_add, jmin_z (by omega) (by omega) (by omega) (by omega), nmI_s]
  exact g1
theorem pow4_s {I : PI} (hN : 20000 ≤ N) (hw : -24 < way) (hw2 : way < 24) (hc : c < m) (hd : d < m) (r : CSet I m n S) (h21 : ∀ x, x < n d → I 21 x = w x) : ∃ J : PI, f_X4_powerOf N (nI c) (nI d) (zI way) sp I L = some (some (.int (pwW w (S c) (S d) (n c) (n d) way sp)), J, L) ∧ Kp dM I J ∧ J 4 4 = meW w (S c) (S d) (n c) (n d) way sp 1 ∧ J 4 5 = meW w (S c) (S d) (n c) (n d) way sp 0 := by
  have kU : Kp dM I (uI (uI I 4 4 0) 4 5 0) := (Kp.rf.up ⟨rfl, Or.inl rfl⟩).up ⟨rfl, Or.inr rfl⟩
  obtain ⟨J, g1, g2, g3, g4⟩ := add_s (L := L) (sp := sp) hN hw hw2 hc hd (r.cong (dG_dC (dM_dG kU))) (w := w) (A := 0) (B := 0) (fun x hx => (kU 21 x (by unfold dM; omega)).trans (h21 x hx)) (by rw [uI_ne (by omega), uI_eq]) uI_eq
  rw [Int32.zero_add] at g3 g4
  refine ⟨J, ?_, kU.tr g2, g3, g4⟩
  unfold f_X4_powerOf f_X4_power
  rw [nmW_s, nmW_s, g1, bV_s, bI_s, g3, g4]
  rfl
theorem sumLp (hw : -24 < way) (hw2 : way < 24) (hc : c < m) (hd : d < m) : ∀ (t k i : Nat) (I : PI), i + t = n c → t < k → CSet I m n S → (∀ x, x < n d → I 53 x = w x) → I 12 24 = sumW (tmW w (S c) (S d) (n d) way sp 1) i → I 12 25 = sumW (tmW w (S c) (S d) (n d) way sp 0) i → ∃ J : PI, F_X12_sum__13 N k (nI c) (nI d) (zI way) sp (nI i) I L = some (none, J, L) ∧ Kp dN I J ∧ J 12 24 = meW w (S c) (S d) (n c) (n d) way sp 1 ∧ J 12 25 = meW w (S c) (S d) (n c) (n d) way sp 0 ∧ J 12 26 = pwW w (S c) (S d) (n c) (n d) way sp := by
  intro t
  induction t with
  | zero =>
    intro k i I hi hk r h53 hA hB
    obtain ⟨k, rfl⟩ : ∃ q, k = q + 1 := ⟨k - 1, by omega⟩
    obtain ⟨m8, m2, m3, hh⟩ := r
    obtain ⟨c1, c24, c16, c50, gc⟩ := hh c hc
    obtain rfl : i = n c := by omega
    rw [F_X12_sum__13, gd_in (by omega) (by omega), nI_clamp (by omega), c50, if_pos (nI_le (Nat.le_refl _) (by omega)), nmW_s]
    refine ⟨_, rfl, Kp.rf.up (by unfold dN; omega), ?_, ?_, ?_⟩
    · rw [uI_ne (by omega), hA]; rfl
    · rw [uI_ne (by omega), hB]; rfl
    · rw [uI_eq, hA, hB]; rfl
  | succ t ih =>
    intro k i I hi hk r h53 hA hB
    obtain ⟨k, rfl⟩ : ∃ q, k = q + 1 := ⟨k - 1, by omega⟩
    have r' := r
    obtain ⟨m8, m2, m3, hh⟩ := r'
    obtain ⟨c1, c24, c16, c50, gc⟩ := hh c hc
    obtain ⟨d1, d24, d16, d50, gd0⟩ := hh d hd
    have e1 : nI i - zI way = zI (i - way) := by rw [zI_n i, zI_sub]
    have es : ∀ r, sumW (tmW w (S c) (S d) (n d) way sp r) (i + 1) = sumW (tmW w (S c) (S d) (n d) way sp r) i + tmW w (S c) (S d) (n d) way sp r i := fun r => sumW_s
    rw [F_X12_sum__13, gd_in (by omega) (by omega), nI_clamp (n := c) (by omega), c50, if_neg (nI_ge (by omega) (by omega)), e1, nmI_s, gd_in (by omega) (by omega), nI_clamp (n := d) (by omega), d50, in_hz, bI_s, hz_z (by omega) (by omega) (by omega), nI_1]
    by_cases hv : 0 ≤ (i : Int) - way ∧ (i : Int) - way < n d
    · obtain ⟨x, hx⟩ : ∃ x, x = ((i : Int) - way).toNat := ⟨_, rfl⟩
      have hxi : (x : Int) = i - way := by rw [hx]; omega
      have hxd : x < n d := by omega
      have et : ∀ r, tmW w (S c) (S d) (n d) way sp r i = w x * partV (trn (S c) (S d) sp i x) r := fun r => by
        unfold tmW
        rw [if_pos hv, ← hx]
      have hT : ((nI (S c i) + sp * nI i) - nI (S d x)) = trn (S c) (S d) sp i x := rfl
      rw [ifz_t (decide_eq_true hv), zI_nat (by omega), ← hx, show (24 : Int32) = nI 24 from rfl, pk_mul, pk_mul, nI_add, nI_add, gd_in (by omega) (by omega), gd_in (by omega) (by omega), nI_clamp (n := 24 * c + i) (by omega), nI_clamp (n := 24 * d + x) (by omega), (gc i (by omega)).2.2, (gd0 x hxd).2.2, hT, nmI_s, gd_in (by omega) (by omega), partV_s, bI_s, nI_clamp (n := x) (by omega), h53 x hxd, nmW_s, gd_in (by omega) (by omega), partV_s, bI_s, uI_ne (by omega), uI_ne (by omega), h53 x hxd, nmW_s]
      have kU : Kp dN I (uI (uI I 12 24 (I 12 24 + w x * partV (trn (S c) (S d) sp i x) 1)) 12 25 (I 12 25 + w x * partV (trn (S c) (S d) sp i x) 0)) := (Kp.rf.up (by unfold dN; omega)).up (by unfold dN; omega)
      obtain ⟨J, g1, g2, g3⟩ := ih k (i + 1) _ (by omega) (by omega) (r.cong (dG_dC (dN_dG kU))) (fun x hx => (kU 53 x (by unfold dN; omega)).trans (h53 x hx)) (by rw [uI_ne (by omega), uI_eq, es, et, hA]) (by rw [uI_eq, es, et, hB])
      exact ⟨J, g1, kU.tr g2, g3⟩
    · have et : ∀ r, tmW w (S c) (S d) (n d) way sp r i = 0 := fun r => by
        unfold tmW
        rw [if_neg hv]
      rw [ifz_f (decide_eq_false hv)]
      exact ih k (i + 1) I (by omega) (by omega) r h53 (by rw [es, et, Int32.add_zero]; exact hA) (by rw [es, et, Int32.add_zero]; exact hB)
theorem sum12_s {I : PI} (hN : 20000 ≤ N) (hw : -24 < way) (hw2 : way < 24) (hc : c < m) (hd : d < m) (r : CSet I m n S) (h53 : ∀ x, x < n d → I 53 x = w x) : ∃ J : PI, f_X12_sum_ N (nI c) (nI d) (zI way) sp I L = some (none, J, L) ∧ Kp dN I J ∧ J 12 24 = meW w (S c) (S d) (n c) (n d) way sp 1 ∧ J 12 25 = meW w (S c) (S d) (n c) (n d) way sp 0 ∧ J 12 26 = pwW w (S c) (S d) (n c) (n d) way sp := by
  have kU : Kp dN I (uI (uI I 12 24 0) 12 25 0) := (Kp.rf.up (by unfold dN; omega)).up (by unfold dN; omega)
  have := (r.2.2.2 c hc).2.1
  obtain ⟨J, g1, g2, g3⟩ := sumLp (N := N) (L := L) (w := w) (sp := sp) hw hw2 hc hd (n c) N 0 _ (by omega) (by omega) (r.cong (dG_dC (dN_dG kU))) (fun x hx => (kU 53 x (by unfold dN; omega)).trans (h53 x hx)) (by rw [uI_ne (by omega), uI_eq]; rfl) (by rw [uI_eq]; rfl)
  refine ⟨J, ?_, kU.tr g2, g3⟩
  unfold f_X12_sum_
  rw [nmW_s, nmW_s]
  exact g1
/-! weights by a law: in both one number -/
def dV (a k : Nat) : Prop := a = 20 ∨ (a = 7 ∧ k = 3) ∨ a = 47 ∨ a = 48
theorem dV_dG {I J : PI} (h : Kp dV I J) : Kp dG I J := h.mono (fun a k q => by unfold dV at q; unfold dG; omega)
def An2 (G F : Nat → Nat → Prop) (I : PI) (L : PL) (f : PI → PL → RES) (y : Int32) : Prop := ∀ I', Kp G I I' → ∃ J, f I' L = some (some (.int y), J, L) ∧ Kp F I' J
def WT (N : Nat) (I : PI) (L : PL) (m : Nat) (n : Nat → Nat) (S : Nat → Nat → Nat) (law : Int32) (w : Nat → Nat → Int32) : Prop := ∀ c k, c < m → k < n c → An2 dG dV I L (f_X7_weightOf N law (nI k) (nI (n c)) (nI (S c k))) (w c k) ∧ An2 dG dV I L (f_X12_weightOf N (nI c) law (nI k)) (w c k)
theorem WT.none {I : PI} : WT N I L m n S (-1) (fun _ _ => 1) := by
  refine fun c k hc hk => ⟨fun I' _ => ⟨I', ?_, Kp.rf⟩, fun I' _ => ⟨I', ?_, Kp.rf⟩⟩
  · unfold f_X7_weightOf
    rw [if_pos (by decide)]
  · unfold f_X12_weightOf
    rw [if_pos rfl]
theorem WT.cong {I J : PI} {law : Int32} {w : Nat → Nat → Int32} (h : Kp dG I J) (t : WT N I L m n S law w) : WT N J L m n S law w := fun c k hc hk => ⟨fun I' hI => (t c k hc hk).1 I' (h.tr hI), fun I' hI => (t c k hc hk).2 I' (h.tr hI)⟩
theorem weighLp {law : Int32} {w : Nat → Nat → Int32} (hc : c < m) : ∀ (t k i : Nat) (I : PI), i + t = n c → t < k → CSet I m n S → WT N I L m n S law w → (∀ x, x < i → I 21 x = w c x) → ∃ J : PI, F_X4_weigh_12 N k (nI c) law (nI (n c)) (nI i) I L = some (none, J, L) ∧ Kp dG I J ∧ ∀ x, x < n c → J 21 x = w c x := by
  intro t
  induction t with
  | zero =>
    intro k i I hi hk r ht h21
    obtain ⟨k, rfl⟩ : ∃ q, k = q + 1 := ⟨k - 1, by omega⟩
    have := (r.2.2.2 c hc).2.1
    rw [F_X4_weigh_12, if_pos (nI_le (by omega) (by omega))]
    exact ⟨I, rfl, Kp.rf, fun x hx => h21 x (by omega)⟩
  | succ t ih =>
    intro k i I hi hk r ht h21
    obtain ⟨k, rfl⟩ : ∃ q, k = q + 1 := ⟨k - 1, by omega⟩
    have hn := (r.2.2.2 c hc).2.1
    obtain ⟨J1, e1, k1⟩ := (ht c i hc (by omega)).1 I Kp.rf
    have kU : Kp dG I (uI J1 21 i (w c i)) := (dV_dG k1).up (by unfold dG; omega)
    obtain ⟨J, g1, g2, g3⟩ := ih k (i + 1) _ (by omega) (by omega) (r.cong (dG_dC kU)) (ht.cong kU) (fun x hx => by
      by_cases ex : x = i
      · rw [ex, uI_eq]
      · rw [uI_ne (by omega), k1 21 x (by unfold dV; omega)]; exact h21 x (by omega))
    refine ⟨J, ?_, kU.tr g2, g3⟩
    rw [F_X4_weigh_12, if_neg (nI_ge (by omega) (by omega)), show (24 : Int32) = nI 24 from rfl, if_neg (nI_ge (by omega) (by omega)), r.turn hc (by omega), bI_s, e1, bI_s, gd_in (by omega) (by omega), nI_clamp (by omega), nmW_s, nI_1]
    exact g1
theorem weigh_s {law : Int32} {w : Nat → Nat → Int32} {I : PI} (hN : 20000 ≤ N) (hc : c < m) (r : CSet I m n S) (ht : WT N I L m n S law w) : ∃ J : PI, f_X4_weigh N (nI c) law I L = some (none, J, L) ∧ Kp dG I J ∧ ∀ x, x < n c → J 21 x = w c x := by
  have := (r.2.2.2 c hc).2.1
  obtain ⟨J, g1, g2⟩ := weighLp (N := N) hc (n c) N 0 I (by omega) (by omega) r ht (fun x hx => by omega)
  refine ⟨J, ?_, g2⟩
  unfold f_X4_weigh
  rw [r.len hc, bI_s]
  exact g1
theorem layLp {law : Int32} {w : Nat → Nat → Int32} (hc : c < m) : ∀ (t k i : Nat) (I : PI), i + t = n c → t < k → CSet I m n S → WT N I L m n S law w → (∀ x, x < i → I 53 x = w c x) → ∃ J : PI, F_X12_lay_2 N k (nI c) law (nI i) I L = some (none, J, L) ∧ Kp dG I J ∧ ∀ x, x < n c → J 53 x = w c x := by
  intro t
  induction t with
  | zero =>
    intro k i I hi hk r ht h53
    obtain ⟨k, rfl⟩ : ∃ q, k = q + 1 := ⟨k - 1, by omega⟩
    have := (r.2.2.2 c hc).2.1
    have := r.1
    rw [F_X12_lay_2, gd_in (by omega) (by omega), nI_clamp (by omega), r.l50 hc, if_pos (nI_le (by omega) (by omega))]
    exact ⟨I, rfl, Kp.rf, fun x hx => h53 x (by omega)⟩
  | succ t ih =>
    intro k i I hi hk r ht h53
    obtain ⟨k, rfl⟩ : ∃ q, k = q + 1 := ⟨k - 1, by omega⟩
    have hn := (r.2.2.2 c hc).2.1
    have := r.1
    obtain ⟨J1, e1, k1⟩ := (ht c i hc (by omega)).2 I Kp.rf
    have kU : Kp dG I (uI J1 53 i (w c i)) := (dV_dG k1).up (by unfold dG; omega)
    obtain ⟨J, g1, g2, g3⟩ := ih k (i + 1) _ (by omega) (by omega) (r.cong (dG_dC kU)) (ht.cong kU) (fun x hx => by
      by_cases ex : x = i
      · rw [ex, uI_eq]
      · rw [uI_ne (by omega), k1 53 x (by unfold dV; omega)]; exact h53 x (by omega))
    refine ⟨J, ?_, kU.tr g2, g3⟩
    rw [F_X12_lay_2, gd_in (by omega) (by omega), nI_clamp (by omega), r.l50 hc, if_neg (nI_ge (by omega) (by omega)), e1, bI_s, gd_in (by omega) (by omega), nI_clamp (by omega), nmW_s, nI_1]
    exact g1
theorem lay_s {law : Int32} {w : Nat → Nat → Int32} {I : PI} (hN : 20000 ≤ N) (hc : c < m) (r : CSet I m n S) (ht : WT N I L m n S law w) : ∃ J : PI, f_X12_lay N (nI c) law I L = some (none, J, L) ∧ Kp dG I J ∧ ∀ x, x < n c → J 53 x = w c x := by
  have := (r.2.2.2 c hc).2.1
  exact layLp (N := N) hc (n c) N 0 I (by omega) (by omega) r ht (fun x hx => by omega)
end ECHO
