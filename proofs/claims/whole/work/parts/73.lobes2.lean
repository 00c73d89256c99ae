/-! lobes, in the model -/
theorem z24 : (24 : Int32) = zI 24 := by decide +kernel
section LOBM
variable {N m c : Nat} {n : Nat → Nat} {S : Nat → Nat → Nat} {L : PL} {w : Nat → Int32}
def dL (a k : Nat) : Prop := a = 12 ∧ 24 ≤ k ∧ k ≤ 31
theorem dL_dG {I J : PI} (h : Kp dL I J) : Kp dG I J := h.mono (fun a k q => by unfold dL at q; unfold dG; omega)
theorem dN_dL {I J : PI} (h : Kp dN I J) : Kp dL I J := h.mono (fun a k q => by unfold dN at q; unfold dL; omega)
def lob1 (P : Int × Nat → Int32) (j : Nat) : Int32 := if j = 23 then 0 else P ((j : Int) - 23, 0)
/-- how far it has come: ways below z, and speeds below s there -/
def LI (P : Int × Nat → Int32) (z : Int) (s : Nat) (I : PI) : Prop := ((0 < z ∨ (z = 0 ∧ 0 < s)) → I 12 27 = P (0, 0)) ∧ IsMx (fun y : Int => -23 ≤ y ∧ y ≠ 0 ∧ (y < z ∨ (y = z ∧ 0 < s))) (fun y => P (y, 0)) (I 12 28) ∧ I 12 29 = sumW (lob1 P) ((z + 23).toNat + min s 1) ∧ IsMx (fun q : Int × Nat => -23 ≤ q.1 ∧ 1 ≤ q.2 ∧ q.2 < 4 ∧ (q.1 < z ∨ (q.1 = z ∧ q.2 < s))) P (I 12 30)
theorem LI.next {P : Int × Nat → Int32} {z : Int} {I : PI} (hz : -23 ≤ z) (h : LI P z 4 I) : LI P (z + 1) 0 I := by
  obtain ⟨h1, h2, h3, h4⟩ := h
  refine ⟨fun q => h1 (by omega), h2.congr (fun y => by omega), ?_, h4.congr (fun q => by omega)⟩
  rw [h3]
  congr 1
  omega
theorem lobStep {v2 : Int32} {P : Int × Nat → Int32} {z : Int} {s : Nat} {I : PI} {r54 : Int32 → Int32 → Int32 → PI → PL → RES} {r63 : Int32 → Int32 → Int32 → Int32 → PI → PL → RES} (hz : -23 ≤ z) (hz2 : z < 24) (hs : s < 4) (hI : LI P z s I) (hP : I 12 26 = P (z, s)) : ∃ J : PI, (if zI z = 0 then (if nI s = 0 then F_X12_lobesOf_99 N r54 r63 (nI c) v2 (zI z) (nI s) (I 12 26) I L else F_X12_lobesOf_95 N r54 r63 (nI c) v2 (zI z) (nI s) I L) else F_X12_lobesOf_95 N r54 r63 (nI c) v2 (zI z) (nI s) I L) = r63 (nI c) v2 (zI z) (nI (s + 1)) J L ∧ Kp dL I J ∧ LI P z (s + 1) J := by
  obtain ⟨h1, h2, h3, h4⟩ := hI
  have fin : ∀ a b d e : Int32, Kp dL I (uI (uI (uI (uI I 12 27 a) 12 28 b) 12 29 d) 12 30 e) := fun a b d e => (((Kp.rf.up (by unfold dL; omega)).up (by unfold dL; omega)).up (by unfold dL; omega)).up (by unfold dL; omega)
  by_cases z0 : z = 0
  · have e0 : zI z = 0 := by rw [z0]; rfl
    by_cases s0 : s = 0
    · have e1 : nI s = 0 := by rw [s0]; rfl
      refine ⟨uI (uI (uI (uI I 12 27 (I 12 26)) 12 28 (I 12 28)) 12 29 (I 12 29 + 0)) 12 30 (I 12 30), ?_, fin _ _ _ _, ?_, ?_, ?_, ?_⟩
      · rw [if_pos e0, if_pos e1]
        unfold F_X12_lobesOf_99 F_X12_lobesOf_126 F_X12_lobesOf_130 F_X12_lobesOf_154 F_X12_lobesOf_155
        rw [nmW_s, if_pos e0, nmW_s, if_pos e0, nmW_s, if_pos (by rw [e1]; decide), nmW_s, nI_1, uI_ne (a := 12) (k := 28) (by omega), uI_ne (a := 12) (k := 29) (by omega), uI_ne (a := 12) (k := 29) (by omega), uI_ne (a := 12) (k := 30) (by omega), uI_ne (a := 12) (k := 30) (by omega), uI_ne (a := 12) (k := 30) (by omega)]
      · intro _
        rw [uI_ne (by omega), uI_ne (by omega), uI_ne (by omega), uI_eq, hP, z0, s0]
      · rw [uI_ne (by omega), uI_ne (by omega), uI_eq]
        exact h2.congr (fun y => by omega)
      · rw [uI_ne (by omega), uI_eq, h3, z0, s0, Int32.add_zero]
        exact (Int32.add_zero _).symm
      · rw [uI_eq]
        exact h4.congr (fun q => by omega)
    · have e1 : ¬ nI s = 0 := nI_ne0 (by omega) (by omega)
      refine ⟨uI (uI (uI (uI I 12 27 (I 12 27)) 12 28 (I 12 28)) 12 29 (I 12 29 + 0)) 12 30 (jmax (I 12 30) (I 12 26)), ?_, fin _ _ _ _, ?_, ?_, ?_, ?_⟩
      · rw [if_pos e0, if_neg e1]
        unfold F_X12_lobesOf_95 F_X12_lobesOf_99 F_X12_lobesOf_126 F_X12_lobesOf_130 F_X12_lobesOf_154 F_X12_lobesOf_155
        rw [nmW_s, if_pos e0, nmW_s, if_pos e0, nmW_s, if_neg (nI_nle (by omega) (by omega)), nmW_s, nI_1, uI_ne (a := 12) (k := 28) (by omega), uI_ne (a := 12) (k := 29) (by omega), uI_ne (a := 12) (k := 29) (by omega), uI_ne (a := 12) (k := 30) (by omega), uI_ne (a := 12) (k := 30) (by omega), uI_ne (a := 12) (k := 30) (by omega), uI_ne (a := 12) (k := 26) (by omega), uI_ne (a := 12) (k := 26) (by omega), uI_ne (a := 12) (k := 26) (by omega)]
      · intro _
        rw [uI_ne (by omega), uI_ne (by omega), uI_ne (by omega), uI_eq]
        exact h1 (by omega)
      · rw [uI_ne (by omega), uI_ne (by omega), uI_eq]
        exact h2.congr (fun y => by omega)
      · rw [uI_ne (by omega), uI_eq, h3, Int32.add_zero]
        congr 1
        omega
      · rw [uI_eq, hP]
        exact (h4.add (z, s)).congr (fun q => by
          obtain ⟨y, t⟩ := q
          constructor
          · rintro ⟨a1, a2, a3, a4⟩
            have a4' : y < z ∨ y = z ∧ t < s + 1 := a4
            by_cases e : y = z ∧ t = s
            · exact Or.inr (by rw [e.1, e.2])
            · exact Or.inl ⟨a1, a2, a3, (by omega : y < z ∨ y = z ∧ t < s)⟩
          · rintro (⟨a1, a2, a3, a4⟩ | e)
            · have a4' : y < z ∨ y = z ∧ t < s := a4
              exact ⟨a1, a2, a3, (by omega : y < z ∨ y = z ∧ t < s + 1)⟩
            · cases e
              exact ⟨hz, (by omega : 1 ≤ s), hs, Or.inr ⟨rfl, (by omega : s < s + 1)⟩⟩)
  · have e0 : ¬ zI z = 0 := fun q => z0 ((zI_eq (b := 0) (by omega) (by omega) (by omega) (by omega)).mp q)
    by_cases s0 : s = 0
    · have e1 : nI s = 0 := by rw [s0]; rfl
      refine ⟨uI (uI (uI (uI I 12 27 (I 12 27)) 12 28 (jmax (I 12 28) (I 12 26))) 12 29 (I 12 29 + I 12 26)) 12 30 (I 12 30), ?_, fin _ _ _ _, ?_, ?_, ?_, ?_⟩
      · rw [if_neg e0]
        unfold F_X12_lobesOf_95 F_X12_lobesOf_99 F_X12_lobesOf_126 F_X12_lobesOf_130 F_X12_lobesOf_154 F_X12_lobesOf_155
        rw [nmW_s, if_neg e0, if_pos e1, nmW_s, if_neg e0, if_pos e1, nmW_s, if_pos (by rw [e1]; decide), nmW_s, nI_1, uI_ne (a := 12) (k := 28) (by omega), uI_ne (a := 12) (k := 26) (by omega), uI_ne (a := 12) (k := 26) (by omega), uI_ne (a := 12) (k := 29) (by omega), uI_ne (a := 12) (k := 29) (by omega), uI_ne (a := 12) (k := 30) (by omega), uI_ne (a := 12) (k := 30) (by omega), uI_ne (a := 12) (k := 30) (by omega), uI_ne (a := 12) (k := 26) (by omega)]
      · intro _
        rw [uI_ne (by omega), uI_ne (by omega), uI_ne (by omega), uI_eq]
        exact h1 (by omega)
      · rw [uI_ne (by omega), uI_ne (by omega), uI_eq, hP, s0]
        exact (h2.add z).congr (fun y => by omega)
      · rw [uI_ne (by omega), uI_eq, h3, hP, s0, show (z + 23).toNat + min (0 + 1) 1 = ((z + 23).toNat + min 0 1) + 1 by omega, sumW_s]
        congr 1
        unfold lob1
        rw [if_neg (by omega), show (((z + 23).toNat + min 0 1 : Nat) : Int) - 23 = z by omega]
      · rw [uI_eq]
        exact h4.congr (fun q => by omega)
    · have e1 : ¬ nI s = 0 := nI_ne0 (by omega) (by omega)
      refine ⟨uI (uI (uI (uI I 12 27 (I 12 27)) 12 28 (I 12 28)) 12 29 (I 12 29 + 0)) 12 30 (jmax (I 12 30) (I 12 26)), ?_, fin _ _ _ _, ?_, ?_, ?_, ?_⟩
      · rw [if_neg e0]
        unfold F_X12_lobesOf_95 F_X12_lobesOf_99 F_X12_lobesOf_126 F_X12_lobesOf_130 F_X12_lobesOf_154 F_X12_lobesOf_155
        rw [nmW_s, if_neg e0, if_neg e1, nmW_s, if_neg e0, if_neg e1, nmW_s, if_neg (nI_nle (by omega) (by omega)), nmW_s, nI_1, uI_ne (a := 12) (k := 28) (by omega), uI_ne (a := 12) (k := 29) (by omega), uI_ne (a := 12) (k := 29) (by omega), uI_ne (a := 12) (k := 30) (by omega), uI_ne (a := 12) (k := 30) (by omega), uI_ne (a := 12) (k := 30) (by omega), uI_ne (a := 12) (k := 26) (by omega), uI_ne (a := 12) (k := 26) (by omega), uI_ne (a := 12) (k := 26) (by omega)]
      · intro _
        rw [uI_ne (by omega), uI_ne (by omega), uI_ne (by omega), uI_eq]
        exact h1 (by omega)
      · rw [uI_ne (by omega), uI_ne (by omega), uI_eq]
        exact h2.congr (fun y => by omega)
      · rw [uI_ne (by omega), uI_eq, h3, Int32.add_zero]
        congr 1
        omega
      · rw [uI_eq, hP]
        exact (h4.add (z, s)).congr (fun q => by
          obtain ⟨y, t⟩ := q
          constructor
          · rintro ⟨a1, a2, a3, a4⟩
            have a4' : y < z ∨ y = z ∧ t < s + 1 := a4
            by_cases e : y = z ∧ t = s
            · exact Or.inr (by rw [e.1, e.2])
            · exact Or.inl ⟨a1, a2, a3, (by omega : y < z ∨ y = z ∧ t < s)⟩
          · rintro (⟨a1, a2, a3, a4⟩ | e)
            · have a4' : y < z ∨ y = z ∧ t < s := a4
              exact ⟨a1, a2, a3, (by omega : y < z ∨ y = z ∧ t < s + 1)⟩
            · cases e
              exact ⟨hz, (by omega : 1 ≤ s), hs, Or.inr ⟨rfl, (by omega : s < s + 1)⟩⟩)
theorem LI.cong {P : Int × Nat → Int32} {z : Int} {s : Nat} {I J : PI} (h : Kp dN I J) (hI : LI P z s I) : LI P z s J := by
  obtain ⟨h1, h2, h3, h4⟩ := hI
  refine ⟨fun q => (h 12 27 (by unfold dN; omega)).trans (h1 q), ?_, (h 12 29 (by unfold dN; omega)).trans h3, ?_⟩
  · rw [h 12 28 (by unfold dN; omega)]; exact h2
  · rw [h 12 30 (by unfold dN; omega)]; exact h4
theorem dL_53 {I J : PI} {nd : Nat} (h : Kp dL I J) (h53 : ∀ x, x < nd → I 53 x = w x) : ∀ x, x < nd → J 53 x = w x := fun x hx => (h 53 x (by unfold dL; omega)).trans (h53 x hx)
theorem lob63 {v2 : Int32} {z : Int} {r54 : Int32 → Int32 → Int32 → PI → PL → RES} (hN : 20000 ≤ N) (hc : c < m) (hz : -23 ≤ z) (hz2 : z < 24) : ∀ (t k s : Nat) (I : PI), s + t = 4 → t < k → CSet I m n S → (∀ x, x < n c → I 53 x = w x) → LI (pwC w (S c) (n c)) z s I → ∃ J : PI, F_X12_lobesOf_63 N r54 k (nI c) v2 (zI z) (nI s) I L = r54 (nI c) v2 (zI (z + 1)) J L ∧ Kp dL I J ∧ LI (pwC w (S c) (n c)) (z + 1) 0 J := by
  intro t
  induction t with
  | zero =>
    intro k s I hi hk r h53 hI
    obtain ⟨k, rfl⟩ : ∃ q, k = q + 1 := ⟨k - 1, by omega⟩
    obtain rfl : s = 4 := by omega
    rw [F_X12_lobesOf_63, show (4 : Int32) = nI 4 from rfl, if_pos (nI_le (Nat.le_refl _) (by omega)), show (1 : Int32) = zI 1 from rfl, zI_add]
    exact ⟨I, rfl, Kp.rf, hI.next hz⟩
  | succ t ih =>
    intro k s I hi hk r h53 hI
    obtain ⟨k, rfl⟩ : ∃ q, k = q + 1 := ⟨k - 1, by omega⟩
    obtain ⟨J1, e1, k1, -, -, s1⟩ := sum12_s (L := L) (way := z) (sp := nI s) hN (by omega) (by omega) hc hc r h53
    obtain ⟨J2, e2, k2, i2⟩ := lobStep (N := N) (c := c) (L := L) (v2 := v2) (r54 := r54) (r63 := F_X12_lobesOf_63 N r54 k) hz hz2 (by omega) (hI.cong k1) s1
    have kk := (dN_dL k1).tr k2
    obtain ⟨J, g1, g2, g3⟩ := ih k (s + 1) J2 (by omega) (by omega) (r.cong (dG_dC (dL_dG kk))) (dL_53 kk h53) i2
    refine ⟨J, ?_, kk.tr g2, g3⟩
    rw [F_X12_lobesOf_63, show (4 : Int32) = nI 4 from rfl, if_neg (nI_ge (by omega) (by omega)), e1, bV_s, e2]
    exact g1
theorem lob54 (hN : 20000 ≤ N) (hc : c < m) : ∀ (t k : Nat) (z : Int) (I : PI), z + t = 24 → -23 ≤ z → t < k → CSet I m n S → (∀ x, x < n c → I 53 x = w x) → LI (pwC w (S c) (n c)) z 0 I → ∃ J : PI, F_X12_lobesOf_54 N k (nI c) (sumW (fun x => w x * w x) (n c)) (zI z) I L = some (none, J, L) ∧ Kp dL I J ∧ LI (pwC w (S c) (n c)) 24 0 J ∧ J 12 31 = losV (n c) (sumW (fun x => w x * w x) (n c)) (pwC w (S c) (n c) (0, 0)) := by
  intro t
  induction t with
  | zero =>
    intro k z I hz h1 hk r h53 hI
    obtain ⟨k, rfl⟩ : ∃ q, k = q + 1 := ⟨k - 1, by omega⟩
    obtain rfl : z = 24 := by omega
    obtain ⟨c1, c24, -⟩ := r.2.2.2 c hc
    have hm := r.1
    have hL : ∀ v, LI (pwC w (S c) (n c)) 24 0 (uI I 12 31 v) := fun v => by
      obtain ⟨q1, q2, q3, q4⟩ := hI
      refine ⟨fun q => ?_, ?_, ?_, ?_⟩
      · rw [uI_ne (by omega)]; exact q1 q
      · rw [uI_ne (by omega)]; exact q2
      · rw [uI_ne (by omega)]; exact q3
      · rw [uI_ne (by omega)]; exact q4
    rw [F_X12_lobesOf_54, if_pos (show (24 : Int32) ≤ zI 24 by decide)]
    by_cases h0 : sumW (fun x => w x * w x) (n c) = 0
    · rw [if_pos h0, nmW_s]
      refine ⟨_, rfl, Kp.rf.up (by unfold dL; omega), hL 0, ?_⟩
      rw [uI_eq]
      unfold losV
      rw [if_pos h0]
    · have h3 : ¬ Int32.toInt64 (nI (n c)) * Int32.toInt64 (sumW (fun x => w x * w x) (n c)) = 0 := fun q => h0 ((los_0 c1 c24).mp q)
      rw [if_neg h0, gd_in (by omega) (by omega), nI_clamp (by omega), r.l50 hc, decide_eq_true h3, gd_t, nmW_s]
      refine ⟨_, rfl, Kp.rf.up (by unfold dL; omega), hL _, ?_⟩
      rw [uI_eq, hI.1 (by omega)]
      unfold losV
      rw [if_neg h0]
  | succ t ih =>
    intro k z I hz h1 hk r h53 hI
    obtain ⟨k, rfl⟩ : ∃ q, k = q + 1 := ⟨k - 1, by omega⟩
    obtain ⟨J1, e1, k1, i1⟩ := lob63 (L := L) (v2 := sumW (fun x => w x * w x) (n c)) (z := z) (r54 := F_X12_lobesOf_54 N k) hN hc h1 (by omega) 4 N 0 I (by omega) (by omega) r h53 hI
    have e1' : F_X12_lobesOf_63 N (F_X12_lobesOf_54 N k) N (nI c) (sumW (fun x => w x * w x) (n c)) (zI z) 0 I L = _ := e1
    obtain ⟨J, g1, g2, g3⟩ := ih k (z + 1) J1 (by omega) (by omega) (by omega) (r.cong (dG_dC (dL_dG k1))) (dL_53 k1 h53) i1
    refine ⟨J, ?_, k1.tr g2, g3⟩
    rw [F_X12_lobesOf_54, z24, if_neg (fun q => absurd ((zI_le (a := 24) (by omega) (by omega) (by omega) (by omega)).mp q) (by omega)), e1']
    exact g1
theorem lob4 {I : PI} (hN : 20000 ≤ N) (hc : c < m) (r : CSet I m n S) (h53 : ∀ x, x < n c → I 53 x = w x) : ∀ (t k i : Nat), i + t = n c → t < k → ∃ J : PI, F_X12_lobesOf_4 N k (nI c) (sumW (fun x => w x * w x) i) (nI i) I L = some (none, J, L) ∧ Kp dL I J ∧ LI (pwC w (S c) (n c)) 24 0 J ∧ J 12 31 = losV (n c) (sumW (fun x => w x * w x) (n c)) (pwC w (S c) (n c) (0, 0)) := by
  obtain ⟨c1, c24, -⟩ := r.2.2.2 c hc
  have hm := r.1
  intro t
  induction t with
  | zero =>
    intro k i hi hk
    obtain ⟨k, rfl⟩ : ∃ q, k = q + 1 := ⟨k - 1, by omega⟩
    obtain rfl : i = n c := by omega
    have kU : Kp dL I (uI (uI (uI I 12 28 0) 12 29 0) 12 30 0) := ((Kp.rf.up (by unfold dL; omega)).up (by unfold dL; omega)).up (by unfold dL; omega)
    obtain ⟨J, g1, g2, g3⟩ := lob54 (N := N) (L := L) (w := w) (S := S) hN hc 47 N (-23) (uI (uI (uI I 12 28 0) 12 29 0) 12 30 0) (by omega) (by omega) (by omega) (r.cong (dG_dC (dL_dG kU))) (dL_53 kU h53) ⟨fun q => by omega, by
      rw [uI_ne (by omega), uI_ne (by omega), uI_eq]
      exact IsMx.nil (fun z => by omega), by
      rw [uI_ne (by omega), uI_eq]; rfl, by
      rw [uI_eq]
      exact IsMx.nil (fun z => by omega)⟩
    refine ⟨J, ?_, kU.tr g2, g3⟩
    rw [F_X12_lobesOf_4, gd_in (by omega) (by omega), nI_clamp (by omega), r.l50 hc, if_pos (nI_le (Nat.le_refl _) (by omega)), nmW_s, nmW_s, nmW_s, zm23]
    exact g1
  | succ t ih =>
    intro k i hi hk
    obtain ⟨k, rfl⟩ : ∃ q, k = q + 1 := ⟨k - 1, by omega⟩
    rw [F_X12_lobesOf_4, gd_in (by omega) (by omega), nI_clamp (by omega), r.l50 hc, if_neg (nI_ge (by omega) (by omega)), gd_in (by omega) (by omega), gd_in (by omega) (by omega), nI_clamp (by omega), h53 i (by omega), nmI_s, nI_1]
    exact ih k (i + 1) (by omega) (by omega)
/-- all lobes of the model -/
theorem lobesOf_s {I : PI} (hN : 20000 ≤ N) (hc : c < m) (r : CSet I m n S) (h53 : ∀ x, x < n c → I 53 x = w x) : ∃ J : PI, f_X12_lobesOf N (nI c) I L = some (none, J, L) ∧ Kp dL I J ∧ J 12 27 = pwC w (S c) (n c) (0, 0) ∧ IsMx (fun y : Int => -23 ≤ y ∧ y ≠ 0 ∧ y < 24) (fun y => pwC w (S c) (n c) (y, 0)) (J 12 28) ∧ J 12 29 = sumW (lob1 (pwC w (S c) (n c))) 47 ∧ IsMx (fun q : Int × Nat => -23 ≤ q.1 ∧ 1 ≤ q.2 ∧ q.2 < 4 ∧ q.1 < 24) (pwC w (S c) (n c)) (J 12 30) ∧ J 12 31 = losV (n c) (sumW (fun x => w x * w x) (n c)) (pwC w (S c) (n c) (0, 0)) := by
  have c24 := (r.2.2.2 c hc).2.1
  obtain ⟨J, g1, g2, ⟨q1, q2, q3, q4⟩, g4⟩ := lob4 (N := N) (L := L) hN hc r h53 (n c) N 0 (by omega) (by omega)
  exact ⟨J, g1, g2, q1 (by omega), q2.congr (fun y => by omega), q3, q4.congr (fun q => by omega), g4⟩
end LOBM
theorem sumW_split {g : Nat → Int32} {a : Nat} : ∀ b, sumW g (a + b) = sumW g a + sumW (fun k => g (a + k)) b := by
  intro b
  induction b with
  | zero => exact (Int32.add_zero _).symm
  | succ b ih =>
    rw [← Nat.add_assoc, sumW_s, ih, sumW_s, Int32.add_assoc]
theorem sumW_add {f g : Nat → Int32} : ∀ n, sumW f n + sumW g n = sumW (fun k => f k + g k) n := by
  intro n
  induction n with
  | zero => rfl
  | succ n ih =>
    rw [sumW_s, sumW_s, sumW_s, ← ih]
    grind
theorem sumW_rev {g : Nat → Int32} : ∀ n, sumW g n = sumW (fun k => g (n - 1 - k)) n := by
  intro n
  induction n with
  | zero => rfl
  | succ n ih =>
    have e : sumW (fun k => g (n + 1 - 1 - k)) (1 + n) = _ := sumW_split n
    rw [Nat.add_comm 1 n] at e
    rw [e, sumW_s, ih]
    have e1 : sumW (fun k => g (n + 1 - 1 - k)) 1 = g n := Int32.zero_add _
    have e2 : sumW (fun k => g (n + 1 - 1 - (1 + k))) n = sumW (fun k => g (n - 1 - k)) n := sumW_congr n (fun k hk => by rw [show n + 1 - 1 - (1 + k) = n - 1 - k by omega])
    rw [e1, e2, Int32.add_comm]
theorem lob_sum {P : Int × Nat → Int32} {n : Nat} (h1 : 1 ≤ n) (hn : n ≤ 24) (hP : ∀ y : Int, (n : Int) ≤ y ∨ y ≤ -(n : Int) → P (y, 0) = 0) : sumW (lob1 P) 47 = sumW (fun j => P (((j + 1 : Nat) : Int), 0) + P (-((j + 1 : Nat) : Int), 0)) (n - 1) := by
  have e0 : sumW (fun j => P (((j + 1 : Nat) : Int), 0) + P (-((j + 1 : Nat) : Int), 0)) 23 = sumW (fun j => P (((j + 1 : Nat) : Int), 0) + P (-((j + 1 : Nat) : Int), 0)) (n - 1) := sumW_ext (by omega) (fun k h2 h3 => by
    rw [hP _ (Or.inl (by omega)), hP _ (Or.inr (by omega))]; rfl)
  have e1 : sumW (lob1 P) (23 + 24) = _ := sumW_split 24
  have e2 : sumW (fun k => lob1 P (23 + k)) (1 + 23) = _ := sumW_split 23
  have e3 : sumW (fun k => lob1 P (23 + k)) 1 = 0 := rfl
  have e4 : sumW (lob1 P) 23 = sumW (fun j => P (-((j + 1 : Nat) : Int), 0)) 23 := by
    rw [sumW_rev]
    refine sumW_congr 23 (fun k hk => ?_)
    unfold lob1
    rw [if_neg (by omega), show ((23 - 1 - k : Nat) : Int) - 23 = -((k + 1 : Nat) : Int) by omega]
  have e5 : sumW (fun k => (fun k => lob1 P (23 + k)) (1 + k)) 23 = sumW (fun j => P (((j + 1 : Nat) : Int), 0)) 23 := sumW_congr 23 (fun k hk => by
    show lob1 P (23 + (1 + k)) = _
    unfold lob1
    rw [if_neg (by omega), show ((23 + (1 + k) : Nat) : Int) - 23 = ((k + 1 : Nat) : Int) by omega])
  rw [← e0, ← sumW_add, show sumW (lob1 P) 47 = _ from e1, show sumW (fun k => lob1 P (23 + k)) 24 = _ from e2, e3, e4, e5]
  grind
theorem case_lobes {X : PI → Prop} (hX : Xok X) {N : Nat} (hN : 20000 ≤ N) (hXL : XL X) (hXW : XW X N) (a1 a2 a3 : Int32) : CaseI (Inv X) (f_X11_lobes N a1 a2 a3) (f_X12_lobes N a1 a2 a3) := by
  intro I L hI
  have hI0 := hI
  obtain ⟨-, -, hC, -, -, -, -, hx⟩ := hI
  obtain ⟨m, n, S, r⟩ := hC.set
  obtain ⟨lm, l1, l2, l3⟩ := hXL I hx
  have hm := r.1
  have eC := f_X11_lobes.eq_1 N a1 a2 a3 I L
  have eM := fun J => f_X12_lobes.eq_1 N a1 a2 a3 J L
  have key : ∀ x : Int32, f_X11_lobes N a1 a2 a3 I L = some (some (.int x), I, L) → f_X12_lobes N a1 a2 a3 I L = some (some (.int x), I, L) → ∃ (x : Int32) (I1 : PI) (L1 : PL) (I2 : PI) (L2 : PL), f_X11_lobes N a1 a2 a3 I L = some (some (.int x), I1, L1) ∧ f_X12_lobes N a1 a2 a3 I1 L1 = some (some (.int x), I2, L2) ∧ Inv X I2 L2 := fun x h1 h2 => ⟨x, I, L, I, L, h1, h2, hI0⟩
  have eM0 := eM I
  rw [r.has, bI_s] at eC
  rw [r.is, bI_s] at eM0
  cases hq : hz a1 m with
  | false =>
    rw [ifz_f hq] at eC eM0
    exact key _ eC eM0
  | true =>
    rw [ifz_t hq, lawHas_s l1 l2, bI_s] at eC
    rw [ifz_t hq, isLaw_s l3, bI_s] at eM0
    cases hw : wl a2 lm with
    | false =>
      rw [ifz_f hw] at eC eM0
      exact key _ eC eM0
    | true =>
      rw [ifz_t hw] at eC
      obtain ⟨c, hc, rfl⟩ := (hz_iff (by omega)).mp hq
      obtain ⟨c1, c24, -⟩ := r.2.2.2 c hc
      obtain ⟨w, ht⟩ := hXW I L m lm n S r hx l1 l2 l3 a2 hw
      obtain ⟨J1, e1, k1, w1⟩ := weigh_s (I := I) hN hc r ht
      have r1 := r.cong (dG_dC k1)
      rw [e1, bV_s] at eC
      have hout : ∀ (y : Int) (s : Nat), (n c : Int) ≤ y ∨ y ≤ -(n c : Int) → pwC (w c) (S c) (n c) (y, s) = 0 := fun y s h => pwW_out h
      have peak_s : ∃ J, f_X4_peak N (nI c) J1 L = some (some (.int (pwC (w c) (S c) (n c) (0, 0))), J, L) ∧ Kp dM J1 J := by
        obtain ⟨J, g1, g2, -⟩ := pow4_s (L := L) (way := 0) (sp := 0) hN (by omega) (by omega) hc hc r1 w1
        refine ⟨J, ?_, g2⟩
        have g1' : f_X4_powerOf N (nI c) (nI c) 0 0 J1 L = _ := g1
        unfold f_X4_peak
        rw [g1', bI_s]
        rfl
      -- the model, from any state that echoes leave
      have mod : ∀ J, Kp dG I J → wi a3 0 4 = true → ∃ J' : PI, f_X12_lobes N (nI c) a2 a3 J L = (if a3 = 0 then some (some (.int (J' 12 27)), J', L) else (if a3 = 1 then some (some (.int (J' 12 28)), J', L) else (if a3 = 2 then some (some (.int (J' 12 29)), J', L) else (if a3 = 3 then some (some (.int (J' 12 30)), J', L) else some (some (.int (J' 12 31)), J', L))))) ∧ Kp dG I J' ∧ J' 12 27 = pwC (w c) (S c) (n c) (0, 0) ∧ IsMx (fun y : Int => -23 ≤ y ∧ y ≠ 0 ∧ y < 24) (fun y => pwC (w c) (S c) (n c) (y, 0)) (J' 12 28) ∧ J' 12 29 = sumW (lob1 (pwC (w c) (S c) (n c))) 47 ∧ IsMx (fun q : Int × Nat => -23 ≤ q.1 ∧ 1 ≤ q.2 ∧ q.2 < 4 ∧ q.1 < 24) (pwC (w c) (S c) (n c)) (J' 12 30) ∧ J' 12 31 = losV (n c) (sumW (fun x => w c x * w c x) (n c)) (pwC (w c) (S c) (n c) (0, 0)) := fun J kJ h3 => by
        have rJ := r.cong (dG_dC kJ)
        obtain ⟨J2, e2, k2, w2⟩ := lay_s (I := J) hN hc rJ (ht.cong kJ)
        obtain ⟨J3, e3, k3, g⟩ := lobesOf_s (L := L) hN hc (rJ.cong (dG_dC k2)) w2
        refine ⟨J3, ?_, (kJ.tr k2).tr (dL_dG k3), g⟩
        rw [eM J, rJ.is, bI_s, ifz_t hq, isLaw_s (dG_lm kJ l2 l3).2, bI_s, ifz_t hw, in_s, bI_s, ifz_t h3, e2, bV_s, e3, bV_s]
      cases h3 : wi a3 0 4 with
      | false =>
        rw [ifz_t hw, in_s, bI_s, ifz_f h3] at eM0
        have eC2 : f_X11_lobes N (nI c) a2 a3 I L = some (some (.int (-1)), J1, L) := by
          rw [eC]
          unfold swT
          by_cases q1 : a3.toInt < 0
          · rw [if_pos q1]
          · rw [if_neg q1]
            have q2 : 5 ≤ (a3.toInt - 0).toNat := by
              have := wi_f h3
              rw [Int32.le_iff_toInt_le, Int32.le_iff_toInt_le, Int32.toInt_zero, show (4 : Int32).toInt = 4 from by decide] at this
              omega
            rw [List.getElem?_eq_none (by exact q2)]
            rfl
        have rJ := r.cong (dG_dC k1)
        have eM1 := eM J1
        rw [rJ.is, bI_s, ifz_t hq, isLaw_s (dG_lm k1 l2 l3).2, bI_s, ifz_t hw, in_s, bI_s, ifz_f h3] at eM1
        exact ⟨-1, J1, L, J1, L, eC2, eM1, hI0.keep hX k1 dG_free⟩
      | true =>
        obtain ⟨j, j4, rfl⟩ := wi_nat (n := 4) rfl (by omega) h3
        rcases (by omega : j = 0 ∨ j = 1 ∨ j = 2 ∨ j = 3 ∨ j = 4) with hj | hj | hj | hj | hj
        · obtain ⟨J, p1, p2⟩ := peak_s
          have kJ : Kp dG I J := k1.tr (dM_dG p2)
          obtain ⟨J', q1, q2, q3, -⟩ := mod J kJ h3
          rw [if_pos (by rw [hj]; rfl), q3] at q1
          refine ⟨_, J, L, J', L, ?_, q1, hI0.keep hX q2 dG_free⟩
          rw [eC, hj]
          show bI (f_X4_peak N (nI c) J1 L) (fun x10 I11 L12 => some (some (.int x10), I11, L12)) = _
          rw [p1, bI_s]
        · obtain ⟨J, x, p1, p2, p3⟩ := sideLp (N := N) (L := L) hN hc (n c - 1) N 1 0 J1 (by omega) (by omega) (by omega) r1 w1 (IsMx.nil (fun z => by omega))
          have kJ : Kp dG I J := k1.tr (dM_dG p2)
          obtain ⟨J', q1, q2, -, q3, -⟩ := mod J kJ h3
          have ex : J' 12 28 = x := q3.eq p3 (fun z hz => by
            by_cases h : -(n c : Int) < z ∧ z < n c
            · exact Or.inr ⟨z, ⟨hz.2.1, h⟩, rfl⟩
            · exact Or.inl (hout z 0 (by omega))) (fun z hz => Or.inr ⟨z, ⟨by omega, hz.1, by omega⟩, rfl⟩)
          rw [if_neg (by rw [hj]; decide), if_pos (by rw [hj]; rfl), ex] at q1
          refine ⟨_, J, L, J', L, ?_, q1, hI0.keep hX q2 dG_free⟩
          rw [eC, hj]
          show bI (f_X4_side N (nI c) J1 L) (fun x10 I11 L12 => some (some (.int x10), I11, L12)) = _
          have p1' : f_X4_side N (nI c) J1 L = _ := p1
          rw [p1', bI_s]
        · obtain ⟨J, p1, p2⟩ := sidesLp (N := N) (L := L) (w := w c) hN hc (n c - 1) N 0 J1 (by omega) (by omega) r1 w1
          have kJ : Kp dG I J := k1.tr (dM_dG p2)
          obtain ⟨J', q1, q2, -, -, q3, -⟩ := mod J kJ h3
          rw [if_neg (by rw [hj]; decide), if_neg (by rw [hj]; decide), if_pos (by rw [hj]; rfl), q3, lob_sum c1 c24 (fun y h => hout y 0 h)] at q1
          refine ⟨_, J, L, J', L, ?_, q1, hI0.keep hX q2 dG_free⟩
          rw [eC, hj]
          show bI (f_X4_sides N (nI c) J1 L) (fun x10 I11 L12 => some (some (.int x10), I11, L12)) = _
          have p1' : f_X4_sides N (nI c) J1 L = _ := p1
          rw [p1', bI_s]
        · obtain ⟨J, x, p1, p2, p3⟩ := leakLp (N := N) (L := L) hN hc 3 N 1 0 J1 (by omega) (by omega) (by omega) r1 w1 (IsMx.nil (fun z => by omega))
          have kJ : Kp dG I J := k1.tr (dM_dG p2)
          obtain ⟨J', q1, q2, -, -, -, q3, -⟩ := mod J kJ h3
          have ex : J' 12 30 = x := q3.eq p3 (fun z hz => by
            by_cases h : 1 - (n c : Int) ≤ z.1 ∧ z.1 < n c
            · exact Or.inr ⟨z, ⟨hz.2.1, hz.2.2.1, h⟩, rfl⟩
            · exact Or.inl (hout z.1 z.2 (by omega))) (fun z hz => Or.inr ⟨z, ⟨by omega, hz.1, hz.2.1, by omega⟩, rfl⟩)
          rw [if_neg (by rw [hj]; decide), if_neg (by rw [hj]; decide), if_neg (by rw [hj]; decide), if_pos (by rw [hj]; rfl), ex] at q1
          refine ⟨_, J, L, J', L, ?_, q1, hI0.keep hX q2 dG_free⟩
          rw [eC, hj]
          show bI (f_X4_leak N (nI c) J1 L) (fun x10 I11 L12 => some (some (.int x10), I11, L12)) = _
          have p1' : f_X4_leak N (nI c) J1 L = _ := p1
          rw [p1', bI_s]
        · obtain ⟨J, p1, p2⟩ := peak_s
          have kJ : Kp dG I J := k1.tr (dM_dG p2)
          obtain ⟨J', q1, q2, -, -, -, -, q3⟩ := mod J kJ h3
          rw [if_neg (by rw [hj]; decide), if_neg (by rw [hj]; decide), if_neg (by rw [hj]; decide), if_neg (by rw [hj]; decide), q3] at q1
          refine ⟨_, J, L, J', L, ?_, q1, hI0.keep hX q2 dG_free⟩
          rw [eC, hj]
          show bI (f_X4_peak N (nI c) J1 L) (fun x22 I23 L24 => bI (f_X4_loss N (nI c) x22 I23 L24) (fun x25 I26 L27 => some (some (.int x25), I26, L27))) = _
          rw [p1, bI_s, loss_s hN hc (r1.cong (dG_dC (dM_dG p2))) (dM_21 p2 w1), bI_s]
