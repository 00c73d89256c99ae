/-! factor -/
set_option maxRecDepth 100000 in
theorem pv_all' : ∀ m : Nat, m < 8 → ∀ l : Nat, l < 9 → ∀ o : Nat, o < m + 1 → ¬ lg_cmp (partsV (m + 1) (l + 1) (o + 1) 0) (-1) = 0 := by decide +kernel
theorem pv_all {m l o : Nat} (hm1 : 1 ≤ m) (hm : m ≤ 8) (hl1 : 1 ≤ l) (hl : l ≤ 9) (ho : 1 ≤ o) (ho2 : o ≤ m) : ¬ lg_cmp (partsV m l o 0) (-1) = 0 := by
  have := pv_all' (m - 1) (by omega) (l - 1) (by omega) (o - 1) (by omega)
  rw [show m - 1 + 1 = m by omega, show l - 1 + 1 = l by omega, show o - 1 + 1 = o by omega] at this
  exact this
theorem cmp_le {a : Int32} {k : Nat} (hk : k < 2 ^ 31) : lg_cmp a.toInt64 (lN k) ≤ 0 ↔ a ≤ nI k := by
  unfold lg_cmp
  have h1 : (a.toInt64).toInt = a.toInt := Int32.toInt_toInt64 a
  have h2 : (lN k).toInt = k := lN_toInt hk
  have h3 : (nI k).toInt = k := nI_toInt hk
  by_cases h : a.toInt64 > lN k
  · rw [if_pos h]
    rw [gt_iff_lt, Int64.lt_iff_toInt_lt, h1, h2] at h
    constructor
    · intro q; exact absurd q (by decide)
    · intro q
      rw [Int32.le_iff_toInt_le, h3] at q
      omega
  · rw [if_neg h]
    rw [gt_iff_lt, Int64.lt_iff_toInt_lt, h1, h2] at h
    have h4 : a ≤ nI k := by rw [Int32.le_iff_toInt_le, h3]; omega
    by_cases h5 : a.toInt64 = lN k
    · rw [if_pos h5]
      exact ⟨fun _ => h4, fun _ => by decide⟩
    · rw [if_neg h5]
      exact ⟨fun _ => h4, fun _ => by decide⟩
theorem case_factor {X : PI → Prop} (hX : Xok X) {N : Nat} (hN : 20000 ≤ N) (a1 a2 a3 a4 : Int32) : CaseI (Inv X) (f_X11_factor N a1 a2 a3 a4) (f_X12_factor N a1 a2 a3 a4) := by
  intro I L hI
  have eC := f_X11_factor.eq_1 N a1 a2 a3 a4 I L
  have eM := fun I L => f_X12_factor.eq_1 N a1 a2 a3 a4 I L
  have key : ∀ x : Int32, f_X11_factor N a1 a2 a3 a4 I L = some (some (.int x), I, L) → f_X12_factor N a1 a2 a3 a4 I L = some (some (.int x), I, L) → ∃ (x : Int32) (I1 : PI) (L1 : PL) (I2 : PI) (L2 : PL), f_X11_factor N a1 a2 a3 a4 I L = some (some (.int x), I1, L1) ∧ f_X12_factor N a1 a2 a3 a4 I1 L1 = some (some (.int x), I2, L2) ∧ Inv X I2 L2 := fun x h1 h2 => ⟨x, I, L, I, L, h1, h2, hI⟩
  rw [bounds_s, bI_s] at eC
  cases hb : (wi a1 1 8 && wi a2 1 9 && wi a3 1 a1) with
  | false =>
    rw [ifz_f hb] at eC
    have e : f_X12_share N a1 a2 a3 0 1 I L = some (some (.long (-1)), I, L) := by
      unfold f_X12_share
      rw [in_s, bI_s]
      cases h1 : wi a1 1 8 with
      | false => rw [ifz_f rfl]
      | true =>
        rw [ifz_t rfl, in_s, bI_s]
        cases h2 : wi a2 1 9 with
        | false => rw [ifz_f rfl]
        | true =>
          rw [ifz_t rfl, in_s, bI_s]
          cases h3 : wi a3 1 a1 with
          | false => rw [ifz_f rfl]
          | true => rw [h1, h2, h3] at hb; cases hb
    have eM0 := eM I L
    rw [e, bJ_s, cmp_refl, if_pos rfl] at eM0
    exact key _ eC eM0
  | true =>
    rw [ifz_t hb] at eC
    rw [Bool.and_eq_true, Bool.and_eq_true] at hb
    obtain ⟨⟨h1, h2⟩, h3⟩ := hb
    obtain ⟨m, m1, m2, rfl⟩ := wi_nat2 (m := 1) (n := 8) rfl rfl (by omega) (by omega) h1
    obtain ⟨l, l1, l2, rfl⟩ := wi_nat2 (m := 1) (n := 9) rfl rfl (by omega) (by omega) h2
    obtain ⟨o, o1, o2, rfl⟩ := wi_nat2 (m := 1) (n := m) rfl rfl (by omega) (by omega) h3
    have e : ∀ I L, f_X12_share N (nI m) (nI l) (nI o) 0 1 I L = some (some (.long (partsV m l o 0)), I, L) := fun I L => by
      have := share12_s (I := I) (L := L) (f := 0) (a5 := 1) hN m1 m2 o1 o2 l1 l2 (by omega) (by decide)
      rw [if_neg ne_10] at this
      exact this
    have eM1 := fun I L => eM I L
    have hv := pv_all m1 m2 l1 l2 o1 o2
    have e1 : ∀ I L, f_X12_factor N (nI m) (nI l) (nI o) a4 I L = if (bif wi a4 0 1000000 then (1 : Int32) else 0) = 0 then some (some (.int (-1 : Int32)), I, L) else F_X12_factor_33 N N (nI m) (nI l) (nI o) a4 0 I L := fun I L => by
      rw [eM, e, bJ_s, if_neg hv, in_s, bI_s]
    by_cases h4 : a4 < 0
    · rw [if_pos h4] at eC
      have hw : wi a4 0 1000000 = false := by
        unfold wi
        rw [decide_eq_false (i32_nle.mpr h4)]; rfl
      refine key _ eC ?_
      rw [e1, ifz_f hw]
    · rw [if_neg h4] at eC
      obtain ⟨a, ha, rfl⟩ := nI_of h4
      by_cases h5 : nI a ≤ nI 1000000
      · have h5' := (cmp_le (a := nI a) (k := 1000000) (by omega)).mpr h5
        have h5'' : lg_cmp (nI a).toInt64 1000000 ≤ 0 := h5'
        have hw : wi (nI a) 0 1000000 = true := by
          have := (nI_leI ha (by omega)).mp h5
          exact wi_in (a := 0) (b := 1000000) (by omega) this (by omega)
        obtain ⟨M, q1, q2⟩ := learn_s (I := I) (L := L) hN m2 o1 o2 l2
        have kJ : Kp dH I (uI I 9 1 (nI l)) := Kp.rf.up ⟨rfl, rfl⟩
        obtain ⟨x, x1, x2⟩ := facLp (a := a) (J := uI I 9 1 (nI l)) (M := M) hN m1 m2 o1 o2 l1 l2 q2 100 N N 0 (by omega) (by omega) (by omega)
        have x1' : f_X9_leastFactor N (nI a) (uI I 9 1 (nI l)) M = _ := x1
        rw [if_pos h5'', q1, bV_s, x1', bI_s] at eC
        refine ⟨x, _, M, _, M, eC, ?_, hI.keep hX kJ dH_free⟩
        rw [e1, ifz_t hw]
        exact x2
      · have h5' : ¬ lg_cmp (nI a).toInt64 1000000 ≤ 0 := fun q => h5 ((cmp_le (a := nI a) (k := 1000000) (by omega)).mp q)
        have hw : wi (nI a) 0 1000000 = false := by
          unfold wi
          rw [decide_eq_false (p := nI a ≤ 1000000) h5, Bool.and_false]
        rw [if_neg h5'] at eC
        refine key _ eC ?_
        rw [e1, ifz_f hw]
