/-! found, alarms, heaps -/
theorem RS.wp {I : PI} (r : RS I) : ∃ g s o : Nat, WP I g s o := by
  obtain ⟨e2, g, -, g1, g2⟩ := r 2 (by omega)
  obtain ⟨e3, s, s0, s1, s2⟩ := r 3 (by omega)
  obtain ⟨e4, o, o0, o1, o2⟩ := r 4 (by omega)
  obtain ⟨e5, -⟩ := r 5 (by omega)
  exact ⟨g, s, o, g1, s0, s1, o0, o1, g2, s2, o2, e2.symm.trans g2, e3.symm.trans s2, e4.symm.trans o2, e5⟩
theorem RZ.ws {I : PI} (r : RZ I) : ∃ (p n : Nat) (v : Nat → Nat), CWS I p n v := by
  obtain ⟨p, u, g, z1, z2, z3, z4, z5, z6, z7, ⟨n, s1, s2, s3, s4⟩, -⟩ := r
  refine ⟨p, n, fun k => (I 30 (40 * p + k)).toNatClampNeg, z1, s1, z3, s2, s3, fun k hk => ?_⟩
  obtain ⟨q1, x, q2, q3⟩ := s4 k hk
  show I 30 (40 * p + k) = nI (I 30 (40 * p + k)).toNatClampNeg ∧ I 55 (k + 1) = nI (I 30 (40 * p + k)).toNatClampNeg ∧ (I 30 (40 * p + k)).toNatClampNeg ≤ 999
  rw [show k + 1 = 0 + 1 + k by omega, ← q1, q3, nI_clamp (by omega)]
  exact ⟨rfl, rfl, q2⟩
section FOUND
variable {N : Nat} {L : PL} {I J : PI} {p n g s o : Nat} {v : Nat → Nat}
theorem CWS.size (ws : CWS I p n v) : f_X2_size N I L = some (some (.int (nI n)), I, L) := size2_s ws.1 ws.2.2.1 ws.2.2.2.1
theorem alarmsLp (hN : 20000 ≤ N) (ws : CWS I p n v) (wp : WP I g s o) : ∀ (t k l i : Nat) (x : Int32), i + t = n → t < k → t < l → ∃ y : Int32, An dF I L (F_X5_manyFound_4 N k x (nI i)) y ∧ An dF I L (F_X12_alarms_4 N l x (nI i)) y := by
  have hn := ws.2.1
  intro t
  induction t with
  | zero =>
    intro k l i x hi hk hl
    obtain ⟨k, rfl⟩ : ∃ q, k = q + 1 := ⟨k - 1, by omega⟩
    obtain ⟨l, rfl⟩ : ∃ q, l = q + 1 := ⟨l - 1, by omega⟩
    refine ⟨x, An.pure fun I' hk => ?_, An.pure fun I' hk => ?_⟩
    · rw [F_X5_manyFound_4, (ws.cong hk).size, bI_s, if_pos (nI_le (by omega) (by omega))]
    · rw [F_X12_alarms_4, gd_in0 (by omega) (by omega), cl0, (ws.cong hk).2.2.2.2.1, if_pos (nI_le (by omega) (by omega))]
  | succ t ih =>
    intro k l i x hi hk hl
    obtain ⟨k, rfl⟩ : ∃ q, k = q + 1 := ⟨k - 1, by omega⟩
    obtain ⟨l, rfl⟩ : ∃ q, l = q + 1 := ⟨l - 1, by omega⟩
    obtain ⟨z, z1, z2⟩ := fnd (L := L) hN ws wp (by omega : i < n)
    obtain ⟨y, y1, y2⟩ := ih k l (i + 1) (if z = 1 then x + 1 else x) (by omega) (by omega) (by omega)
    refine ⟨y, fun I' hk => ?_, fun I' hk => ?_⟩
    · obtain ⟨J, e1, k1⟩ := z1 I' hk
      obtain ⟨J2, e2, k2⟩ := y1 J (hk.tr k1)
      refine ⟨J2, ?_, k1.tr k2⟩
      rw [F_X5_manyFound_4, (ws.cong hk).size, bI_s, if_neg (nI_ge (by omega) (by omega)), e1, bI_s, nI_1]
      by_cases hz : z = 1
      · rw [if_pos hz] at e2 ⊢; exact e2
      · rw [if_neg hz] at e2 ⊢; exact e2
    · obtain ⟨J, e1, k1⟩ := z2 I' hk
      obtain ⟨J2, e2, k2⟩ := y2 J (hk.tr k1)
      refine ⟨J2, ?_, k1.tr k2⟩
      rw [F_X12_alarms_4, gd_in0 (by omega) (by omega), cl0, (ws.cong hk).2.2.2.2.1, if_neg (nI_ge (by omega) (by omega)), e1, bI_s, nI_1]
      by_cases hz : z = 1
      · rw [if_pos hz] at e2 ⊢; exact e2
      · rw [if_neg hz] at e2 ⊢
        rw [nmI_s, Int32.add_zero]
        exact e2
theorem heapsLp (hN : 20000 ≤ N) (ws : CWS I p n v) (wp : WP I g s o) : ∀ (t k l i : Nat) (a b c d e : Int32), i + t = n → t < k → t < l → ∃ y : Int32, An dF I L (F_X5_heapsOf_13 N k a b c d e (nI i)) y ∧ An dF I L (F_X12_heaps_26 N l a b c d e (nI i)) y := by
  have hn := ws.2.1
  intro t
  induction t with
  | zero =>
    intro k l i a b c d e hi hk hl
    obtain ⟨k, rfl⟩ : ∃ q, k = q + 1 := ⟨k - 1, by omega⟩
    obtain ⟨l, rfl⟩ : ∃ q, l = q + 1 := ⟨l - 1, by omega⟩
    refine ⟨if a = 0 then b else if a = 1 then c else d, An.pure fun I' hk => ?_, An.pure fun I' hk => ?_⟩
    · rw [F_X5_heapsOf_13, (ws.cong hk).size, bI_s, if_pos (nI_le (by omega) (by omega))]
      by_cases h0 : a = 0
      · rw [if_pos h0, if_pos h0]
      · rw [if_neg h0, if_neg h0]
        by_cases h1 : a = 1
        · rw [if_pos h1, if_pos h1]
        · rw [if_neg h1, if_neg h1]
    · rw [F_X12_heaps_26, gd_in0 (by omega) (by omega), cl0, (ws.cong hk).2.2.2.2.1, if_pos (nI_le (by omega) (by omega))]
      by_cases h0 : a = 0
      · rw [if_pos h0, if_pos h0]
      · rw [if_neg h0, if_neg h0]
        by_cases h1 : a = 1
        · rw [if_pos h1, if_pos h1]
        · rw [if_neg h1, if_neg h1]
  | succ t ih =>
    intro k l i a b c d e hi hk hl
    obtain ⟨k, rfl⟩ : ∃ q, k = q + 1 := ⟨k - 1, by omega⟩
    obtain ⟨l, rfl⟩ : ∃ q, l = q + 1 := ⟨l - 1, by omega⟩
    obtain ⟨z, z1, z2⟩ := fnd (L := L) hN ws wp (by omega : i < n)
    have hs : ∀ r : Int32, ∃ y : Int32, An dF I L (F_X5_heapsOf_43 N (F_X5_heapsOf_13 N k) a b c d (nI i) r) y ∧ An dF I L (F_X12_heaps_55 N (F_X12_heaps_26 N l) a b c d (nI i) r) y := by
      intro r
      by_cases h1 : r = 1
      · by_cases h2 : r ≤ c
        · obtain ⟨y, y1, y2⟩ := ih k l (i + 1) a (b + 1) c d r (by omega) (by omega) (by omega)
          refine ⟨y, An.of (fun I' hk => ?_) y1, An.of (fun I' hk => ?_) y2⟩
          · unfold F_X5_heapsOf_43 F_X5_heapsOf_54
            rw [if_pos h1, if_pos h2, nI_1]
          · unfold F_X12_heaps_55 F_X12_heaps_69
            rw [if_pos h1, nmI_s, if_pos h2, nI_1]
        · obtain ⟨y, y1, y2⟩ := ih k l (i + 1) a (b + 1) r ((nI i - r) + 1) r (by omega) (by omega) (by omega)
          refine ⟨y, An.of (fun I' hk => ?_) y1, An.of (fun I' hk => ?_) y2⟩
          · unfold F_X5_heapsOf_43 F_X5_heapsOf_54
            rw [if_pos h1, if_neg h2, nmI_s, nI_1]
          · unfold F_X12_heaps_55 F_X12_heaps_69
            rw [if_pos h1, nmI_s, if_neg h2, nmI_s, nI_1]
      · by_cases h2 : r ≤ c
        · obtain ⟨y, y1, y2⟩ := ih k l (i + 1) a b c d r (by omega) (by omega) (by omega)
          refine ⟨y, An.of (fun I' hk => ?_) y1, An.of (fun I' hk => ?_) y2⟩
          · unfold F_X5_heapsOf_43 F_X5_heapsOf_54
            rw [if_neg h1, if_pos h2, nI_1]
          · unfold F_X12_heaps_55 F_X12_heaps_69
            rw [if_neg h1, nmI_s, if_pos h2, nI_1, Int32.add_zero]
        · obtain ⟨y, y1, y2⟩ := ih k l (i + 1) a b r ((nI i - r) + 1) r (by omega) (by omega) (by omega)
          refine ⟨y, An.of (fun I' hk => ?_) y1, An.of (fun I' hk => ?_) y2⟩
          · unfold F_X5_heapsOf_43 F_X5_heapsOf_54
            rw [if_neg h1, if_neg h2, nmI_s, nI_1]
          · unfold F_X12_heaps_55 F_X12_heaps_69
            rw [if_neg h1, nmI_s, if_neg h2, nmI_s, nI_1, Int32.add_zero]
    obtain ⟨y, y1, y2⟩ := hs (if z = 1 then e + 1 else 0)
    refine ⟨y, fun I' hk => ?_, fun I' hk => ?_⟩
    · obtain ⟨J, e1, k1⟩ := z1 I' hk
      obtain ⟨J2, e2, k2⟩ := y1 J (hk.tr k1)
      refine ⟨J2, ?_, k1.tr k2⟩
      rw [F_X5_heapsOf_13, (ws.cong hk).size, bI_s, if_neg (nI_ge (by omega) (by omega)), e1, bI_s]
      by_cases hz : z = 1
      · rw [if_pos hz] at e2 ⊢; exact e2
      · rw [if_neg hz] at e2 ⊢; exact e2
    · obtain ⟨J, e1, k1⟩ := z2 I' hk
      obtain ⟨J2, e2, k2⟩ := y2 J (hk.tr k1)
      refine ⟨J2, ?_, k1.tr k2⟩
      rw [F_X12_heaps_26, gd_in0 (by omega) (by omega), cl0, (ws.cong hk).2.2.2.2.1, if_neg (nI_ge (by omega) (by omega)), e1, bI_s]
      by_cases hz : z = 1
      · rw [if_pos hz] at e2 ⊢; exact e2
      · rw [if_neg hz] at e2 ⊢; exact e2
end FOUND
theorem case_found {X : PI → Prop} (hX : Xok X) {N : Nat} (hN : 20000 ≤ N) (a1 : Int32) : CaseI (Inv X) (f_X11_found N a1) (f_X12_found N a1) := by
  intro I L hI
  have hI0 := hI
  obtain ⟨-, hS, -, -, -, -, hZ, -⟩ := hI
  obtain ⟨g, s, o, wp⟩ := hS.wp
  obtain ⟨p, n, v, ws⟩ := hZ.ws
  have hh : f_X2_has N a1 I L = some (some (.int (bif hz a1 n then 1 else 0)), I, L) := has2_s ws.1 ws.2.1 ws.2.2.1 ws.2.2.2.1
  have hm : f_X12_isCell N a1 I L = some (some (.int (bif hz a1 n then 1 else 0)), I, L) := isCell_s ws.2.2.2.2.1
  cases hq : hz a1 n with
  | false =>
    refine ⟨-1, I, L, I, L, ?_, ?_, hI0⟩
    · unfold f_X11_found
      rw [hh, bI_s, ifz_f hq]
    · unfold f_X12_found
      rw [hm, bI_s, ifz_f hq]
  | true =>
    obtain ⟨c, hc, rfl⟩ := (hz_iff (by have := ws.2.1; omega)).mp hq
    obtain ⟨x, x1, x2⟩ := fnd (L := L) hN ws wp hc
    refine An.case hX dF_free (fun I' hk => ?_) x2 hI0
    obtain ⟨J, e1, k1⟩ := x1 I' hk
    refine ⟨J, ?_, k1⟩
    have hh' : f_X2_has N (nI c) I' L = some (some (.int (bif hz (nI c) n then 1 else 0)), I', L) := has2_s (ws.cong hk).1 ws.2.1 (ws.cong hk).2.2.1 (ws.cong hk).2.2.2.1
    unfold f_X11_found
    rw [hh', bI_s, ifz_t hq, e1, bI_s]
theorem case_alarms {X : PI → Prop} (hX : Xok X) {N : Nat} (hN : 20000 ≤ N) : CaseI (Inv X) (f_X11_alarms N) (f_X12_alarms N) := by
  intro I L hI
  have hI0 := hI
  obtain ⟨-, hS, -, -, -, -, hZ, -⟩ := hI
  obtain ⟨g, s, o, wp⟩ := hS.wp
  obtain ⟨p, n, v, ws⟩ := hZ.ws
  have hn := ws.2.1
  obtain ⟨y, y1, y2⟩ := alarmsLp (L := L) hN ws wp n N N 0 0 (by omega) (by omega) (by omega)
  refine An.case hX dF_free (fun I' hk => ?_) y2 hI0
  obtain ⟨J, e1, k1⟩ := y1 I' hk
  refine ⟨J, ?_, k1⟩
  have e1' : f_X5_manyFound N I' L = _ := e1
  unfold f_X11_alarms
  rw [e1', bI_s]
theorem case_heaps {X : PI → Prop} (hX : Xok X) {N : Nat} (hN : 20000 ≤ N) (a1 : Int32) : CaseI (Inv X) (f_X11_heaps N a1) (f_X12_heaps N a1) := by
  intro I L hI
  have hI0 := hI
  obtain ⟨-, hS, -, -, -, -, hZ, -⟩ := hI
  obtain ⟨g, s, o, wp⟩ := hS.wp
  obtain ⟨p, n, v, ws⟩ := hZ.ws
  have hn := ws.2.1
  obtain ⟨y, y1, y2⟩ := heapsLp (L := L) hN ws wp n N N 0 a1 0 0 (-1) 0 (by omega) (by omega) (by omega)
  cases hw : wi a1 0 2 with
  | false =>
    refine ⟨-1000000, I, L, I, L, ?_, ?_, hI0⟩
    · unfold f_X11_heaps
      rw [within_s, bI_s, ifz_f hw]
    · unfold f_X12_heaps
      rw [in_s, bI_s, ifz_f hw]
  | true =>
    refine An.case (y := y) hX dF_free (fun I' hk => ?_) (fun I' hk => ?_) hI0
    · obtain ⟨J, e1, k1⟩ := y1 I' hk
      refine ⟨J, ?_, k1⟩
      have e1' : f_X5_heapsOf N a1 I' L = _ := e1
      unfold f_X11_heaps
      rw [within_s, bI_s, ifz_t hw, e1', bI_s]
    · obtain ⟨J, e1, k1⟩ := y2 I' hk
      refine ⟨J, ?_, k1⟩
      unfold f_X12_heaps
      rw [in_s, bI_s, ifz_t hw]
      exact e1
