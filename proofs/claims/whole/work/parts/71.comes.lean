/-! weight, comes -/
def wl (a : Int32) (lm : Nat) : Bool := wi a (-1) (nI lm - 1)
theorem nIm1 {lm : Nat} (h : lm < 2 ^ 20) : (nI lm - 1).toInt = (lm : Int) - 1 := by
  have := pk_sub_toInt (a := lm) (b := 1) (by omega) (by omega)
  exact this
theorem lawHas_s {N lm : Nat} {a : Int32} {I : PI} {L : PL} (hl : lm ≤ 6) (h : I 7 4 = nI lm) : f_X7_hasOrNone N a I L = some (some (.int (bif wl a lm then 1 else 0)), I, L) := by
  unfold f_X7_hasOrNone wl wi
  rw [h, gd_k0, gd_k1]
  by_cases h1 : a < -1
  · rw [if_pos h1, decide_eq_false (i32_nle.mpr h1)]; rfl
  · rw [if_neg h1, decide_eq_true (i32_nlt.mp h1)]
    by_cases h2 : nI lm ≤ a
    · rw [if_pos h2, decide_eq_false (fun q => by
        rw [Int32.le_iff_toInt_le, nIm1 (by omega)] at q
        rw [Int32.le_iff_toInt_le, nI_toInt (by omega)] at h2
        omega)]; rfl
    · rw [if_neg h2, decide_eq_true (by
        rw [Int32.le_iff_toInt_le, nIm1 (by omega)]
        rw [Int32.le_iff_toInt_le, nI_toInt (by omega)] at h2
        omega)]; rfl
theorem isLaw_s {N lm : Nat} {a : Int32} {I : PI} {L : PL} (h : I 12 13 = nI lm) : f_X12_isLaw N a I L = some (some (.int (bif wl a lm then 1 else 0)), I, L) := by
  unfold f_X12_isLaw
  rw [h, in_s, bI_s, kb, gd_t]
  rfl
/-- weights by each law that there is are alike in both -/
def XW (X : PI → Prop) (N : Nat) : Prop := ∀ (I : PI) (L : PL) (m lm : Nat) (n : Nat → Nat) (S : Nat → Nat → Nat), CSet I m n S → X I → lm ≤ 6 → I 7 4 = nI lm → I 12 13 = nI lm → ∀ law : Int32, wl law lm = true → ∃ w : Nat → Nat → Int32, WT N I L m n S law w
theorem dG_lm {I J : PI} {lm : Nat} (h : Kp dG I J) (h1 : I 7 4 = nI lm) (h2 : I 12 13 = nI lm) : J 7 4 = nI lm ∧ J 12 13 = nI lm := ⟨(h 7 4 (by unfold dG; omega)).trans h1, (h 12 13 (by unfold dG; omega)).trans h2⟩
theorem case_weight {X : PI → Prop} (hX : Xok X) {N : Nat} (hXL : XL X) (hXW : XW X N) (a1 a2 a3 : Int32) : CaseI (Inv X) (f_X11_weight N a1 a2 a3) (f_X12_weight N a1 a2 a3) := by
  intro I L hI
  have hI0 := hI
  obtain ⟨-, -, hC, -, -, -, -, hx⟩ := hI
  obtain ⟨m, n, S, r⟩ := hC.set
  obtain ⟨lm, l1, l2, l3⟩ := hXL I hx
  have hm := r.1
  have eC := f_X11_weight.eq_1 N a1 a2 a3 I L
  have eM := fun J => f_X12_weight.eq_1 N a1 a2 a3 J L
  have key : ∀ x : Int32, f_X11_weight N a1 a2 a3 I L = some (some (.int x), I, L) → f_X12_weight N a1 a2 a3 I L = some (some (.int x), I, L) → ∃ (x : Int32) (I1 : PI) (L1 : PL) (I2 : PI) (L2 : PL), f_X11_weight N a1 a2 a3 I L = some (some (.int x), I1, L1) ∧ f_X12_weight N a1 a2 a3 I1 L1 = some (some (.int x), I2, L2) ∧ Inv X I2 L2 := fun x h1 h2 => ⟨x, I, L, I, L, h1, h2, hI0⟩
  have eM0 := eM I
  rw [r.has, bI_s] at eC
  rw [r.is, bI_s] at eM0
  cases hq : hz a1 m with
  | false =>
    rw [ifz_f hq] at eC eM0
    exact key _ eC eM0
  | true =>
    rw [ifz_t hq, lawHas_s l1 l2, bI_s] at eC
    rw [ifz_t hq, isLaw_s l3, bI_s] at eM0
    cases hw : wl a2 lm with
    | false =>
      rw [ifz_f hw] at eC eM0
      exact key _ eC eM0
    | true =>
      obtain ⟨c, hc, rfl⟩ := (hz_iff (by omega)).mp hq
      have hn := (r.2.2.2 c hc).2.1
      rw [ifz_t hw, r.len hc, bI_s, within_s, bI_s] at eC
      rw [ifz_t hw, gd_in (by omega) (by omega), nI_clamp (by omega), r.l50 hc, in_s, bI_s] at eM0
      cases hk : wi a3 0 (nI (n c) - 1) with
      | false =>
        rw [ifz_f hk] at eC eM0
        exact key _ eC eM0
      | true =>
        obtain ⟨k, hkn, rfl⟩ := (wi_pred (by omega)).mp hk
        obtain ⟨w, ht⟩ := hXW I L m lm n S r hx l1 l2 l3 a2 hw
        obtain ⟨J, e1, k1⟩ := (ht c k hc hkn).1 I Kp.rf
        obtain ⟨J2, e2, k2⟩ := (ht c k hc hkn).2 J (dV_dG k1)
        rw [ifz_t hk, r.len hc, bI_s, r.turn hc hkn, bI_s, e1, bI_s] at eC
        have k1' := dV_dG k1
        have rJ := r.cong (dG_dC k1')
        have eM1 := eM J
        rw [rJ.is, bI_s, ifz_t hq, isLaw_s (dG_lm k1' l2 l3).2, bI_s, ifz_t hw, gd_in (by omega) (by omega), nI_clamp (by omega), rJ.l50 hc, in_s, bI_s, ifz_t hk, e2, bI_s] at eM1
        exact ⟨w c k, J, L, J2, L, eC, eM1, hI0.keep hX (k1'.tr (dV_dG k2)) dG_free⟩
theorem zm23 : (-23 : Int32) = zI (-23) := by decide +kernel
theorem z23 : (23 : Int32) = zI 23 := by decide +kernel
theorem wi_z {a : Int32} {lo hi : Int} (h1 : -1000000 ≤ lo) (h2 : hi ≤ 1000000) (h3 : lo ≤ 1000000) (h4 : -1000000 ≤ hi) (h : wi a (zI lo) (zI hi) = true) : ∃ z : Int, lo ≤ z ∧ z ≤ hi ∧ a = zI z := by
  obtain ⟨q1, q2⟩ := wi_t h
  rw [Int32.le_iff_toInt_le, zI_toInt (by omega) (by omega)] at q1 q2
  exact ⟨a.toInt, q1, q2, (Int32.ofInt_toInt a).symm⟩
theorem case_comes {X : PI → Prop} (hX : Xok X) {N : Nat} (hN : 20000 ≤ N) (hXL : XL X) (hXW : XW X N) (a1 a2 a3 a4 a5 a6 : Int32) : CaseI (Inv X) (f_X11_comes N a1 a2 a3 a4 a5 a6) (f_X12_comes N a1 a2 a3 a4 a5 a6) := by
  intro I L hI
  have hI0 := hI
  obtain ⟨-, -, hC, -, -, -, -, hx⟩ := hI
  obtain ⟨m, n, S, r⟩ := hC.set
  obtain ⟨lm, l1, l2, l3⟩ := hXL I hx
  have hm := r.1
  have eC := f_X11_comes.eq_1 N a1 a2 a3 a4 a5 a6 I L
  have eM := fun J => f_X12_comes.eq_1 N a1 a2 a3 a4 a5 a6 J L
  have key : ∀ x : Int32, f_X11_comes N a1 a2 a3 a4 a5 a6 I L = some (some (.int x), I, L) → f_X12_comes N a1 a2 a3 a4 a5 a6 I L = some (some (.int x), I, L) → ∃ (x : Int32) (I1 : PI) (L1 : PL) (I2 : PI) (L2 : PL), f_X11_comes N a1 a2 a3 a4 a5 a6 I L = some (some (.int x), I1, L1) ∧ f_X12_comes N a1 a2 a3 a4 a5 a6 I1 L1 = some (some (.int x), I2, L2) ∧ Inv X I2 L2 := fun x h1 h2 => ⟨x, I, L, I, L, h1, h2, hI0⟩
  have eM0 := eM I
  rw [r.has, bI_s] at eC
  rw [r.is, bI_s] at eM0
  cases hq : hz a1 m with
  | false =>
    rw [ifz_f hq] at eC eM0
    exact key _ eC eM0
  | true =>
    rw [ifz_t hq, r.has, bI_s] at eC
    rw [ifz_t hq, r.is, bI_s] at eM0
    cases hp : hz a2 m with
    | false =>
      rw [ifz_f hp] at eC eM0
      exact key _ eC eM0
    | true =>
      rw [ifz_t hp, lawHas_s l1 l2, bI_s] at eC
      rw [ifz_t hp, isLaw_s l3, bI_s] at eM0
      cases hw : wl a3 lm with
      | false =>
        rw [ifz_f hw] at eC eM0
        exact key _ eC eM0
      | true =>
        rw [ifz_t hw, within_s, bI_s] at eC
        rw [ifz_t hw, in_s, bI_s] at eM0
        cases h4 : wi a4 (-23) 23 with
        | false =>
          rw [ifz_f h4] at eC eM0
          exact key _ eC eM0
        | true =>
          rw [ifz_t h4, within_s, bI_s] at eC
          rw [ifz_t h4, in_s, bI_s] at eM0
          cases h5 : wi a5 0 3 with
          | false =>
            rw [ifz_f h5] at eC eM0
            exact key _ eC eM0
          | true =>
            rw [ifz_t h5, within_s, bI_s] at eC
            rw [ifz_t h5, in_s, bI_s] at eM0
            cases h6 : wi a6 0 2 with
            | false =>
              rw [ifz_f h6] at eC eM0
              exact key _ eC eM0
            | true =>
              rw [ifz_t h6] at eC
              obtain ⟨c, hc, rfl⟩ := (hz_iff (by omega)).mp hq
              obtain ⟨d, hd, rfl⟩ := (hz_iff (by omega)).mp hp
              have h4' : wi a4 (zI (-23)) (zI 23) = true := by
                rw [← zm23, ← z23]; exact h4
              obtain ⟨z, z1, z2, rfl⟩ := wi_z (lo := -23) (hi := 23) (by omega) (by omega) (by omega) (by omega) h4'
              obtain ⟨w, ht⟩ := hXW I L m lm n S r hx l1 l2 l3 a3 hw
              obtain ⟨J1, e1, k1, w1⟩ := weigh_s (I := I) hN hd r ht
              have r1 := r.cong (dG_dC k1)
              obtain ⟨J2, e2, k2, p2, q2⟩ := pow4_s (L := L) (sp := a5) (way := z) hN (by omega) (by omega) hc hd r1 w1
              rw [e1, bV_s, e2, bI_s, p2, q2] at eC
              have kJ : Kp dG I J2 := k1.tr (dM_dG k2)
              have rJ := r.cong (dG_dC kJ)
              obtain ⟨J3, e3, k3, w3⟩ := lay_s (I := J2) hN hd rJ (ht.cong kJ)
              have r3 := rJ.cong (dG_dC k3)
              obtain ⟨J4, e4, k4, p4, q4, s4⟩ := sum12_s (L := L) (sp := a5) (way := z) hN (by omega) (by omega) hc hd r3 w3
              have eM1 := eM J2
              rw [rJ.is, bI_s, ifz_t hq, rJ.is, bI_s, ifz_t hp, isLaw_s (dG_lm kJ l2 l3).2, bI_s, ifz_t hw, in_s, bI_s, ifz_t h4, in_s, bI_s, ifz_t h5, in_s, bI_s, ifz_t h6, e3, bV_s, e4, bV_s, p4, q4, s4] at eM1
              have kA : Kp dG I J4 := (kJ.tr k3).tr (dN_dG k4)
              obtain ⟨j, j2, rfl⟩ := wi_nat (n := 2) rfl (by omega) h6
              rcases (by omega : j = 0 ∨ j = 1 ∨ j = 2) with hj | hj | hj
              · rw [hj, if_neg (by decide), if_pos (by decide)] at eC
                rw [hj, if_pos (by decide)] at eM1
                rw [hj]
                exact ⟨_, J2, L, J4, L, eC, eM1, hI0.keep hX kA dG_free⟩
              · rw [hj, if_neg (by decide), if_neg (by decide)] at eC
                rw [hj, if_neg (by decide), if_pos (by decide)] at eM1
                rw [hj]
                exact ⟨_, J2, L, J4, L, eC, eM1, hI0.keep hX kA dG_free⟩
              · rw [hj, if_pos (by decide)] at eC
                rw [hj, if_neg (by decide), if_neg (by decide)] at eM1
                rw [hj]
                exact ⟨_, J2, L, J4, L, eC, eM1, hI0.keep hX kA dG_free⟩
