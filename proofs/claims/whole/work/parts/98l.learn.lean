/-! codes in the class alone: what the class learns of a new code, ahead of the model's reading -/
/-- as CSet, but the class's cells only (the shape is the same, so that its proofs serve) -/
def CS1 (I : PI) (m : Nat) (n : Nat → Nat) (S : Nat → Nat → Nat) : Prop := m ≤ 8 ∧ I 3 2 = nI m ∧ True ∧ ∀ c, c < m → 1 ≤ n c ∧ n c ≤ 24 ∧ I 16 c = nI (n c) ∧ True ∧ ∀ k, k < n c → S c k < 4 ∧ I 15 (24 * c + k) = nI (S c k) ∧ True
theorem CS1.cong {I J : PI} {m : Nat} {n : Nat → Nat} {S : Nat → Nat → Nat} (h : ∀ a k, dC a k → J a k = I a k) (r : CS1 I m n S) : CS1 J m n S := by
  obtain ⟨h1, h2, h3, h4⟩ := r
  refine ⟨h1, (h 3 2 (by unfold dC; omega)).trans h2, trivial, fun c hc => ?_⟩
  obtain ⟨g1, g2, g3, g4, g5⟩ := h4 c hc
  refine ⟨g1, g2, (h 16 c (by unfold dC; omega)).trans g3, trivial, fun k hk => ?_⟩
  rw [h 15 _ (by unfold dC; omega)]
  exact g5 k hk
section LEARN
variable {N m c d : Nat} {n : Nat → Nat} {S : Nat → Nat → Nat} {L : PL} {w : Nat → Int32} {sp : Int32} {way : Int}
theorem CS1.has {I : PI} {a : Int32} (r : CS1 I m n S) : f_X3_has N a I L = some (some (.int (bif hz a m then 1 else 0)), I, L) := by
  obtain ⟨h1, h2, h3, h4⟩ := r
  unfold f_X3_has
  rw [k0, k1, gd_t, gd_t, h2]
  cases hw : hz a m with
  | true =>
    have h3 := (has_iff (a := a) (n := m) (by omega)).mpr ((hz_iff (by omega)).mp hw)
    rw [if_neg h3.1, if_neg h3.2]; rfl
  | false =>
    by_cases h3 : a < 0
    · rw [if_pos h3]; rfl
    · rw [if_neg h3]
      by_cases h4 : nI m ≤ a
      · rw [if_pos h4]; rfl
      · have h5 := (hz_iff (a := a) (m := m) (by omega)).mpr ((has_iff (by omega)).mp ⟨h3, h4⟩)
        rw [hw] at h5
        cases h5
theorem CS1.len {I : PI} (r : CS1 I m n S) (hc : c < m) : f_X3_lengthOf N (nI c) I L = some (some (.int (nI (n c))), I, L) := by
  obtain ⟨h1, h2, h3, h4⟩ := r
  unfold f_X3_lengthOf
  rw [if_neg (nI_pos (by omega)), show (9 : Int32) = nI 9 from rfl, if_neg (nI_ge (by omega) (by omega)), gd_in (by omega) (by omega), nI_clamp (by omega), (h4 c hc).2.2.1]
theorem CS1.turn {I : PI} {k : Nat} (r : CS1 I m n S) (hc : c < m) (hk : k < n c) : f_X3_turn N (nI c) (nI k) I L = some (some (.int (nI (S c k))), I, L) := by
  have hh : f_X3_has N (nI c) I L = _ := r.has
  obtain ⟨h1, h2, h3, h4⟩ := r
  obtain ⟨g1, g2, g3, g4, g5⟩ := h4 c hc
  have e : nI c * 24 + nI k = nI (24 * c + k) := by
    rw [show (24 : Int32) = nI 24 from rfl, pk_mul, nI_add, Nat.mul_comm]
  unfold f_X3_turn
  rw [hh, bI_s, ifz_t (hz_t hc (by omega)), if_neg (nI_pos (by omega)), gd_in (by omega) (by omega), nI_clamp (by omega), g3, if_neg (nI_ge hk (by omega)), e, gd_in (by omega) (by omega), nI_clamp (by omega), (g5 k hk).2.1]
theorem meetL1 {A B : Int32} {hz0 : Int} (hw : -24 < way) (hw2 : way < 24) (hc : c < m) (hd : d < m) (hz : hz0 = min (n c : Int) (n d + way)) : ∀ (t k i : Nat) (I : PI), hz0 ≤ (i : Int) + t → t < k → way ≤ i → i ≤ 24 → (i ≤ n c ∨ (i : Int) = way) → CS1 I m n S → (∀ x, x < n d → I 21 x = w x) → I 4 4 = A + sumW (tmW w (S c) (S d) (n d) way sp 1) i → I 4 5 = B + sumW (tmW w (S c) (S d) (n d) way sp 0) i → ∃ J : PI, F_X4_addMeeting_83 N k (nI c) (nI d) (zI way) sp (zI hz0) (nI i) I L = some (none, J, L) ∧ Kp dM I J ∧ J 4 4 = A + meW w (S c) (S d) (n c) (n d) way sp 1 ∧ J 4 5 = B + meW w (S c) (S d) (n c) (n d) way sp 0 := by
  have stop : ∀ (i : Nat) (r : Int32), hz0 ≤ (i : Int) → way ≤ i → (i ≤ n c ∨ (i : Int) = way) → sumW (tmW w (S c) (S d) (n d) way sp r) i = meW w (S c) (S d) (n c) (n d) way sp r := by
    intro i r h1 h2 h3
    unfold meW
    by_cases h4 : i ≤ n c
    · refine (sumW_ext h4 (fun k h5 h6 => ?_)).symm
      unfold tmW
      rw [if_neg (by omega)]
    · refine sumW_ext (by omega) (fun k h5 h6 => ?_)
      unfold tmW
      rw [if_neg (by omega)]
  intro t
  induction t with
  | zero =>
    intro k i I hi hk h1 h24 h2 r h21 hA hB
    obtain ⟨k, rfl⟩ : ∃ q, k = q + 1 := ⟨k - 1, by omega⟩
    have hnc := (r.2.2.2 c hc).2.1
    have hnd := (r.2.2.2 d hd).2.1
    rw [F_X4_addMeeting_83, if_pos ((zI_ltN (by omega) (by omega) (by omega)).mpr (by omega))]
    refine ⟨I, rfl, Kp.rf, ?_, ?_⟩
    · rw [hA, stop i 1 (by omega) h1 h2]
    · rw [hB, stop i 0 (by omega) h1 h2]
  | succ t ih =>
    intro k i I hi hk h1 h24 h2 r h21 hA hB
    obtain ⟨k, rfl⟩ : ∃ q, k = q + 1 := ⟨k - 1, by omega⟩
    have r' := r
    obtain ⟨m8, m2, m3, hh⟩ := r'
    obtain ⟨c1, c24, -, -, gc⟩ := hh c hc
    obtain ⟨d1, d24, -, -, gd0⟩ := hh d hd
    by_cases hst : hz0 ≤ (i : Int)
    · rw [F_X4_addMeeting_83, if_pos ((zI_ltN (by omega) (by omega) (by omega)).mpr hst)]
      refine ⟨I, rfl, Kp.rf, ?_, ?_⟩
      · rw [hA, stop i 1 (by omega) h1 h2]
      · rw [hB, stop i 0 (by omega) h1 h2]
    · obtain ⟨x, hx⟩ : ∃ x, x = ((i : Int) - way).toNat := ⟨_, rfl⟩
      have hxi : (x : Int) = i - way := by rw [hx]; omega
      have hic : i < n c := by omega
      have hxd : x < n d := by omega
      have e1 : nI i - zI way = nI x := by rw [zI_n i, zI_sub, zI_nat (by omega), ← hx]
      have e2 : nI c * 24 + nI i = nI (24 * c + i) := by rw [show (24 : Int32) = nI 24 from rfl, pk_mul, nI_add, Nat.mul_comm]
      have e3 : (nI d * 24 + nI i) - zI way = nI (24 * d + x) := by
        rw [show (24 : Int32) = nI 24 from rfl, pk_mul, nI_add, zI_n (d * 24 + i), zI_sub, zI_nat (by omega)]
        congr 1
        omega
      have et : ∀ r, tmW w (S c) (S d) (n d) way sp r i = w x * partV (trn (S c) (S d) sp i x) r := fun r => by
        unfold tmW
        rw [if_pos (by omega), ← hx]
      have es : ∀ r, sumW (tmW w (S c) (S d) (n d) way sp r) (i + 1) = sumW (tmW w (S c) (S d) (n d) way sp r) i + w x * partV (trn (S c) (S d) sp i x) r := fun r => by rw [sumW_s, et]
      obtain ⟨j, j4, hj⟩ := pk_andE (trn (S c) (S d) sp i x) (m := 3) 2 (by decide)
      have hT : ((nI (S c i) + sp * nI i) - nI (S d x)) &&& 3 = nI j := hj
      have go : ∀ I' : PI, Kp dM I I' → I' 4 4 = A + sumW (tmW w (S c) (S d) (n d) way sp 1) (i + 1) → I' 4 5 = B + sumW (tmW w (S c) (S d) (n d) way sp 0) (i + 1) → ∃ J : PI, F_X4_addMeeting_83 N k (nI c) (nI d) (zI way) sp (zI hz0) (nI (i + 1)) I' L = some (none, J, L) ∧ Kp dM I J ∧ J 4 4 = A + meW w (S c) (S d) (n c) (n d) way sp 1 ∧ J 4 5 = B + meW w (S c) (S d) (n c) (n d) way sp 0 := fun I' hk' hA' hB' => by
        obtain ⟨J, g1, g2, g3⟩ := ih k (i + 1) I' (by omega) (by omega) (by omega) (by omega) (Or.inl (by omega)) (r.cong (dG_dC (dM_dG hk'))) (fun x hx => (hk' 21 x (by unfold dM; omega)).trans (h21 x hx)) hA' hB'
        exact ⟨J, g1, hk'.tr g2, g3⟩
      rw [F_X4_addMeeting_83, if_neg (fun q => hst ((zI_ltN (by omega) (by omega) (by omega)).mp q)), e1, gd_in (by omega) (by omega), nI_clamp (n := x) (by omega), h21 x hxd, nmI_s, e2, e3, gd_in (by omega) (by omega), gd_in (by omega) (by omega), nI_clamp (n := 24 * c + i) (by omega), nI_clamp (n := 24 * d + x) (by omega), (gc i hic).2.1, (gd0 x hxd).2.1, hT, nmI_s, nI_1]
      have p1 : partV (trn (S c) (S d) sp i x) 1 = if nI j = 0 then 1 else if nI j = 2 then -1 else 0 := by
        unfold partV
        rw [hj, if_neg ne_10]
      have p0 : partV (trn (S c) (S d) sp i x) 0 = if nI j = 1 then 1 else if nI j = 3 then -1 else 0 := by
        unfold partV
        rw [hj, if_pos rfl]
      have s1 := es 1
      have s0 := es 0
      rw [p1] at s1
      rw [p0] at s0
      match j, j4 with
      | 0, _ =>
        rw [if_pos (by decide), nmW_s]
        refine go _ (Kp.rf.up ⟨rfl, Or.inl rfl⟩) ?_ ?_
        · rw [uI_eq, s1, if_pos (by decide), hA, Int32.mul_one, Int32.add_assoc]
        · rw [uI_ne (by omega), s0, if_neg (by decide), if_neg (by decide), hB, Int32.mul_zero, Int32.add_zero]
      | 1, _ =>
        rw [if_neg (by decide), if_pos (by decide), nmW_s]
        refine go _ (Kp.rf.up ⟨rfl, Or.inr rfl⟩) ?_ ?_
        · rw [uI_ne (by omega), s1, if_neg (by decide), if_neg (by decide), hA, Int32.mul_zero, Int32.add_zero]
        · rw [uI_eq, s0, if_pos (by decide), hB, Int32.mul_one, Int32.add_assoc]
      | 2, _ =>
        rw [if_neg (by decide), if_neg (by decide), if_pos (by decide), nmW_s]
        refine go _ (Kp.rf.up ⟨rfl, Or.inl rfl⟩) ?_ ?_
        · rw [uI_eq, s1, if_neg (by decide), if_pos (by decide), hA]
          grind
        · rw [uI_ne (by omega), s0, if_neg (by decide), if_neg (by decide), hB, Int32.mul_zero, Int32.add_zero]
      | 3, _ =>
        rw [if_neg (by decide), if_neg (by decide), if_neg (by decide), nmW_s]
        refine go _ (Kp.rf.up ⟨rfl, Or.inr rfl⟩) ?_ ?_
        · rw [uI_ne (by omega), s1, if_neg (by decide), if_neg (by decide), hA, Int32.mul_zero, Int32.add_zero]
        · rw [uI_eq, s0, if_neg (by decide), if_pos (by decide), hB]
          grind
      | j + 4, q => omega
theorem add_1 {A B : Int32} {I : PI} (hN : 20000 ≤ N) (hw : -24 < way) (hw2 : way < 24) (hc : c < m) (hd : d < m) (r : CS1 I m n S) (h21 : ∀ x, x < n d → I 21 x = w x) (hA : I 4 4 = A) (hB : I 4 5 = B) : ∃ J : PI, f_X4_addMeeting N (nI c) (nI d) (zI way) sp I L = some (none, J, L) ∧ Kp dM I J ∧ J 4 4 = A + meW w (S c) (S d) (n c) (n d) way sp 1 ∧ J 4 5 = B + meW w (S c) (S d) (n c) (n d) way sp 0 := by
  have r' := r
  obtain ⟨m8, m2, m3, hh⟩ := r'
  obtain ⟨c1, c24, -, -, gc⟩ := hh c hc
  obtain ⟨d1, d24, -, -, gd0⟩ := hh d hd
  have z0 : ∀ r, sumW (tmW w (S c) (S d) (n d) way sp r) way.toNat = 0 := fun r => by
    refine (sumW_ext (a := 0) (Nat.zero_le _) (fun k _ hk => ?_))
    unfold tmW
    rw [if_neg (by omega)]
  obtain ⟨J, g1, g2, g3⟩ := meetL1 (N := N) (L := L) (w := w) (sp := sp) (A := A) (B := B) (S := S) hw hw2 hc hd rfl 24 N way.toNat I (by omega) (by omega) (by omega) (by omega) (by omega) r h21 (by rw [z0, Int32.add_zero]; exact hA) (by rw [z0, Int32.add_zero]; exact hB)
  refine ⟨J, ?_, g2, g3⟩
  unfold f_X4_addMeeting
  rw [r.has, bI_s, ifz_t (hz_t hc (by omega)), r.has, bI_s, ifz_t (hz_t hd (by omega)), jmax_z.resolve_right (by omega), nmI_s, r.len hd, bI_s, show (24 : Int32) = nI 24 from rfl, jmin_l d24 (by omega), nmI_s, r.len hc, bI_s, jmin_l c24 (by omega), zI_n (n c), zI_n (n d), zI_add, jmin_z (by omega) (by omega) (by omega) (by omega), nmI_s]
  exact g1
theorem pow4_1 {I : PI} (hN : 20000 ≤ N) (hw : -24 < way) (hw2 : way < 24) (hc : c < m) (hd : d < m) (r : CS1 I m n S) (h21 : ∀ x, x < n d → I 21 x = w x) : ∃ J : PI, f_X4_powerOf N (nI c) (nI d) (zI way) sp I L = some (some (.int (pwW w (S c) (S d) (n c) (n d) way sp)), J, L) ∧ Kp dM I J ∧ J 4 4 = meW w (S c) (S d) (n c) (n d) way sp 1 ∧ J 4 5 = meW w (S c) (S d) (n c) (n d) way sp 0 := by
  have kU : Kp dM I (uI (uI I 4 4 0) 4 5 0) := (Kp.rf.up ⟨rfl, Or.inl rfl⟩).up ⟨rfl, Or.inr rfl⟩
  obtain ⟨J, g1, g2, g3, g4⟩ := add_1 (L := L) (sp := sp) hN hw hw2 hc hd (r.cong (dG_dC (dM_dG kU))) (w := w) (A := 0) (B := 0) (fun x hx => (kU 21 x (by unfold dM; omega)).trans (h21 x hx)) (by rw [uI_ne (by omega), uI_eq]) uI_eq
  rw [Int32.zero_add] at g3 g4
  refine ⟨J, ?_, kU.tr g2, g3, g4⟩
  unfold f_X4_powerOf f_X4_power
  rw [nmW_s, nmW_s, g1, bV_s, bI_s, g3, g4]
  rfl
theorem weighL1 {law : Int32} {w : Nat → Nat → Int32} (hc : c < m) : ∀ (t k i : Nat) (I : PI), i + t = n c → t < k → CS1 I m n S → WT N I L m n S law w → (∀ x, x < i → I 21 x = w c x) → ∃ J : PI, F_X4_weigh_12 N k (nI c) law (nI (n c)) (nI i) I L = some (none, J, L) ∧ Kp dG I J ∧ ∀ x, x < n c → J 21 x = w c x := by
  intro t
  induction t with
  | zero =>
    intro k i I hi hk r ht h21
    obtain ⟨k, rfl⟩ : ∃ q, k = q + 1 := ⟨k - 1, by omega⟩
    have := (r.2.2.2 c hc).2.1
    rw [F_X4_weigh_12, if_pos (nI_le (by omega) (by omega))]
    exact ⟨I, rfl, Kp.rf, fun x hx => h21 x (by omega)⟩
  | succ t ih =>
    intro k i I hi hk r ht h21
    obtain ⟨k, rfl⟩ : ∃ q, k = q + 1 := ⟨k - 1, by omega⟩
    have hn := (r.2.2.2 c hc).2.1
    obtain ⟨J1, e1, k1⟩ := (ht c i hc (by omega)).1 I Kp.rf
    have kU : Kp dG I (uI J1 21 i (w c i)) := (dV_dG k1).up (by unfold dG; omega)
    obtain ⟨J, g1, g2, g3⟩ := ih k (i + 1) _ (by omega) (by omega) (r.cong (dG_dC kU)) (ht.cong kU) (fun x hx => by
      by_cases ex : x = i
      · rw [ex, uI_eq]
      · rw [uI_ne (by omega), k1 21 x (by unfold dV; omega)]; exact h21 x (by omega))
    refine ⟨J, ?_, kU.tr g2, g3⟩
    rw [F_X4_weigh_12, if_neg (nI_ge (by omega) (by omega)), show (24 : Int32) = nI 24 from rfl, if_neg (nI_ge (by omega) (by omega)), r.turn hc (by omega), bI_s, e1, bI_s, gd_in (by omega) (by omega), nI_clamp (by omega), nmW_s, nI_1]
    exact g1
theorem weigh_1 {law : Int32} {w : Nat → Nat → Int32} {I : PI} (hN : 20000 ≤ N) (hc : c < m) (r : CS1 I m n S) (ht : WT N I L m n S law w) : ∃ J : PI, f_X4_weigh N (nI c) law I L = some (none, J, L) ∧ Kp dG I J ∧ ∀ x, x < n c → J 21 x = w c x := by
  have := (r.2.2.2 c hc).2.1
  obtain ⟨J, g1, g2⟩ := weighL1 (N := N) hc (n c) N 0 I (by omega) (by omega) r ht (fun x hx => by omega)
  refine ⟨J, ?_, g2⟩
  unfold f_X4_weigh
  rw [r.len hc, bI_s]
  exact g1
theorem greatL1 (hN : 20000 ≤ N) (hc : c < m) (hd : d < m) : ∀ (t k : Nat) (z : Int) (v : Int32) (I : PI), z + t = n c → 1 - (n d : Int) ≤ z → t < k → CS1 I m n S → (∀ x, x < n d → I 21 x = w x) → IsMx (fun y : Int => 1 - (n d : Int) ≤ y ∧ y < z) (fun y => pwW w (S c) (S d) (n c) (n d) y sp) v → ∃ (J : PI) (x : Int32), F_X4_greatestOf_15 N k (nI c) (nI d) sp v (zI z) I L = some (some (.int x), J, L) ∧ Kp dM I J ∧ IsMx (fun y : Int => 1 - (n d : Int) ≤ y ∧ y < n c) (fun y => pwW w (S c) (S d) (n c) (n d) y sp) x := by
  intro t
  induction t with
  | zero =>
    intro k z v I hz h1 hk r h21 hv
    obtain ⟨k, rfl⟩ : ∃ q, k = q + 1 := ⟨k - 1, by omega⟩
    have c24 := (r.2.2.2 c hc).2.1
    have d24 := (r.2.2.2 d hd).2.1
    rw [F_X4_greatestOf_15, r.len hc, bI_s, zI_n (n c), if_pos ((zI_le (by omega) (by omega) (by omega) (by omega)).mpr (by omega))]
    exact ⟨I, v, rfl, Kp.rf, hv.congr (fun y => by omega)⟩
  | succ t ih =>
    intro k z v I hz h1 hk r h21 hv
    obtain ⟨k, rfl⟩ : ∃ q, k = q + 1 := ⟨k - 1, by omega⟩
    have c24 := (r.2.2.2 c hc).2.1
    have d24 := (r.2.2.2 d hd).2.1
    obtain ⟨J1, e1, k1, -⟩ := pow4_1 (L := L) (way := z) (sp := sp) hN (by omega) (by omega) hc hd r h21
    obtain ⟨J, x, g1, g2, g3⟩ := ih k (z + 1) (jmax v (pwW w (S c) (S d) (n c) (n d) z sp)) J1 (by omega) (by omega) (by omega) (r.cong (dG_dC (dM_dG k1))) (dM_21 k1 h21) ((hv.add z).congr (fun y => by omega))
    refine ⟨J, x, ?_, k1.tr g2, g3⟩
    rw [F_X4_greatestOf_15, r.len hc, bI_s, zI_n (n c), if_neg (fun q => absurd ((zI_le (by omega) (by omega) (by omega) (by omega)).mp q) (by omega)), e1, bI_s, nmI_s, show (1 : Int32) = zI 1 from rfl, zI_add]
    exact g1
theorem great_1 {I : PI} (hN : 20000 ≤ N) (hc : c < m) (hd : d < m) (r : CS1 I m n S) (h21 : ∀ x, x < n d → I 21 x = w x) : ∃ (J : PI) (x : Int32), f_X4_greatestOf N (nI c) (nI d) sp I L = some (some (.int x), J, L) ∧ Kp dM I J ∧ IsMx (fun y : Int => 1 - (n d : Int) ≤ y ∧ y < n c) (fun y => pwW w (S c) (S d) (n c) (n d) y sp) x := by
  have c1 := (r.2.2.2 c hc).1
  have c24 := (r.2.2.2 c hc).2.1
  have d24 := (r.2.2.2 d hd).2.1
  have d1 := (r.2.2.2 d hd).1
  obtain ⟨J, x, g1, g2⟩ := greatL1 (N := N) (L := L) (sp := sp) hN hc hd (n c + n d - 1) N (1 - (n d : Int)) 0 I (by omega) (by omega) (by omega) r h21 (IsMx.nil (fun z => by omega))
  refine ⟨J, x, ?_, g2⟩
  unfold f_X4_greatestOf
  rw [r.len hd, bI_s, zI_n (n d), show (1 : Int32) = zI 1 from rfl, zI_sub, nmI_s]
  exact g1
def dWn (a k : Nat) : Prop := dG a k ∨ a = 22
theorem dWn_dC {I J : PI} (h : Kp dWn I J) : ∀ a k, dC a k → J a k = I a k := fun a k hc => h a k (fun q => by unfold dWn dG at q; unfold dC at hc; omega)
theorem learnC1 (hN : 20000 ≤ N) (hc : c < m) : ∀ (t k i : Nat) (I : PI), i + t = c + 1 → t < k → CS1 I m n S → ∃ J : PI, F_X4_learn_14 N k (nI c) (nI i) I L = some (none, J, L) ∧ Kp dWn I J ∧ (∀ q, (∀ j, i ≤ j → j ≤ c → q ≠ 8 * c + j ∧ q ≠ 8 * j + c) → J 22 q = I 22 q) ∧ ∀ j, i ≤ j → j ≤ c → IsMx HR (hP n S c j) (J 22 (8 * c + j)) ∧ IsMx HR (hP n S j c) (J 22 (8 * j + c)) := by
  intro t
  induction t with
  | zero =>
    intro k i I hi hk r
    obtain ⟨k, rfl⟩ : ∃ q, k = q + 1 := ⟨k - 1, by omega⟩
    have hm := r.1
    rw [F_X4_learn_14, if_pos (nI_lt (by omega) (by omega))]
    exact ⟨I, rfl, Kp.rf, fun q _ => rfl, fun j h1 h2 => by omega⟩
  | succ t ih =>
    intro k i I hi hk r
    obtain ⟨k, rfl⟩ : ∃ q, k = q + 1 := ⟨k - 1, by omega⟩
    have hm := r.1
    have hi' : i < m := by omega
    obtain ⟨J1, e1, k1, w1⟩ := weigh_1 (I := I) (L := L) hN hi' r WT.none
    have r1 := r.cong (dG_dC k1)
    obtain ⟨J2, x, e2, k2, p2⟩ := great_1 (I := J1) (L := L) (w := oneW) (sp := 0) hN hc hi' r1 w1
    have r2 := r1.cong (dG_dC (dM_dG k2))
    obtain ⟨c1, c24, -, -, gc⟩ := r.2.2.2 c hc
    obtain ⟨d1, d24, -, -, gd0⟩ := r.2.2.2 i hi'
    have hs : ∀ k, k < n c → S c k < 4 := fun k hk => (gc k hk).1
    have ht : ∀ k, k < n i → S i k < 4 := fun k hk => (gd0 k hk).1
    have mx : IsMx HR (hP n S c i) x := by
      obtain ⟨m1, m2, m3⟩ := p2
      refine ⟨m1, fun z hz => ?_, ?_⟩
      · by_cases hr : 1 - (n i : Int) ≤ z ∧ z < n c
        · exact m2 z hr
        · unfold hP
          rw [pwW_out (by omega)]
          exact m1
      · rcases m3 with m3 | ⟨z, z1, z2⟩
        · exact Or.inl m3
        · exact Or.inr ⟨z, ⟨by omega, by omega⟩, z2⟩
    have mx2 : IsMx HR (hP n S i c) x := by
      obtain ⟨m1, m2, m3⟩ := mx
      have es : ∀ z : Int, hP n S i c z = hP n S c i (-z) := fun z => by
        unfold hP
        exact pw_sym ht hs
      have es2 : ∀ z : Int, hP n S c i z = hP n S i c (-z) := fun z => by
        unfold hP
        exact pw_sym hs ht
      refine ⟨m1, fun z hz => ?_, ?_⟩
      · rw [es]
        exact m2 (-z) (by unfold HR at hz ⊢; omega)
      · rcases m3 with m3 | ⟨z, z1, z2⟩
        · exact Or.inl m3
        · exact Or.inr ⟨-z, by unfold HR at z1 ⊢; omega, by rw [← es2]; exact z2⟩
    obtain ⟨J3, hJ3⟩ : ∃ Q : PI, Q = uI (uI J2 22 (8 * c + i) x) 22 (8 * i + c) x := ⟨_, rfl⟩
    have k12 : Kp dG I J2 := k1.tr (dM_dG k2)
    have k3 : Kp dWn I J3 := by
      have k0 : Kp dWn I J2 := k12.mono (fun a k q => Or.inl q)
      rw [hJ3]
      exact (k0.up (Or.inr rfl)).up (Or.inr rfl)
    have v1 : J3 22 (8 * c + i) = x := by
      rw [hJ3]
      by_cases e : c = i
      · rw [e, uI_eq]
      · rw [uI_ne (by omega), uI_eq]
    have v2 : J3 22 (8 * i + c) = x := by rw [hJ3, uI_eq]
    obtain ⟨J, g1, g2, g3, g4⟩ := ih k (i + 1) J3 (by omega) (by omega) (r.cong (dWn_dC k3))
    have eA : nI c * 8 + nI i = nI (8 * c + i) := by rw [show (8 : Int32) = nI 8 from rfl, pk_mul, nI_add, Nat.mul_comm]
    have eB : nI i * 8 + nI c = nI (8 * i + c) := by rw [show (8 : Int32) = nI 8 from rfl, pk_mul, nI_add, Nat.mul_comm]
    refine ⟨J, ?_, k3.tr g2, fun q hq => ?_, fun j h1 h2 => ?_⟩
    · rw [F_X4_learn_14, if_neg (nI_nlt (by omega) (by omega)), e1, bV_s, e2, bI_s, eA, eB, gd_in (by omega) (by omega), nI_clamp (by omega), nmW_s, gd_in (by omega) (by omega), nI_clamp (by omega), nmW_s, nI_1, ← hJ3]
      exact g1
    · have q0 := hq i (Nat.le_refl _) (by omega)
      rw [g3 q (fun j h1 h2 => hq j (by omega) h2), hJ3, uI_ne (by omega), uI_ne (by omega)]
      exact k12 22 q (by unfold dG; omega)
    · by_cases e : j = i
      · subst e
        rw [g3 (8 * c + j) (fun j' h1 h2 => ⟨by omega, by omega⟩), g3 (8 * j + c) (fun j' h1 h2 => ⟨by omega, by omega⟩), v1, v2]
        exact ⟨mx, mx2⟩
      · exact g4 j (by omega) h2
theorem learnC {I : PI} (hN : 20000 ≤ N) (hc : c < m) (r : CS1 I m n S) : ∃ J : PI, f_X4_learn N (nI c) I L = some (none, J, L) ∧ Kp dWn I J ∧ (∀ a b, a < c → b < c → J 22 (8 * a + b) = I 22 (8 * a + b)) ∧ ∀ j, j ≤ c → IsMx HR (hP n S c j) (J 22 (8 * c + j)) ∧ IsMx HR (hP n S j c) (J 22 (8 * j + c)) := by
  have hm := r.1
  obtain ⟨J, g1, g2, g3, g4⟩ := learnC1 (N := N) (L := L) hN hc (c + 1) N 0 I (by omega) (by omega) r
  refine ⟨J, ?_, g2, fun a b ha hb => g3 _ (fun j _ hj => ⟨by omega, by omega⟩), fun j hj => g4 j (by omega) hj⟩
  have g1' : F_X4_learn_14 N N (nI c) 0 I L = some (none, J, L) := g1
  unfold f_X4_learn
  rw [r.has, bI_s, ifz_t (hz_t hc (by omega))]
  exact g1'
end LEARN
