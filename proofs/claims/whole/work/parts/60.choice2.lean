/-! choice: both loops over the masks -/
section CHO
variable {N j n : Nat} {P : Nat → Nat}
theorem ones_all : ∀ c : Nat, c < 9 → cnt (fun k => (2 ^ c - 1).testBit k) 8 = c := by decide +kernel
theorem chLp {z b a c : Nat} {v4 : Int32} {M : PI} {L : PL} (hN : 20000 ≤ N) (ha : a ≤ 999) (hc : c ≤ n) (rM : RSet M j n P) (sM : Sv M z b) : ∀ (t k l i : Nat) (J : PI) (x y : Int32), i + t = 2 ^ n → 1 ≤ i → t < k → t < l → RSet J j n P → Sv J z b → (∀ w, w < 256 → J 28 w = nI (hist (fun v => msk (sb P z v) n) a w)) → ((J 8 7 = -1 ∧ J 8 8 = -1 ∧ x = -1 ∧ i < 2 ^ c) ∨ ∃ p q : Nat, p < 256 ∧ q ≤ 999 ∧ J 8 7 = nI p ∧ J 8 8 = nI q ∧ x = nI p ∧ y = nI q) → ∃ J' : PI, F_X8_choose_71 N k (nI j) (nI c) (nI i) J L = some (none, J', L) ∧ Kp dW J J' ∧ F_X12_choice_54 N l (nI j) (nI c) (nI a) v4 x y (nI i) M L = some (some (.int (if v4 = 0 then J' 8 7 else J' 8 8)), M, L) := by
  have hn : n ≤ 8 := rM.2.2.1
  have h7 := rM
  obtain ⟨⟨m, m1, -, -, m4⟩, -, -, -, h5, -⟩ := h7
  have e2 : 2 ^ c ≤ 2 ^ n := Nat.pow_le_pow_right (by decide) hc
  have e3 : 2 ^ n ≤ 256 := Nat.pow_le_pow_right (by decide) hn
  have e4 := ones_all c (by omega)
  intro t
  induction t with
  | zero =>
    intro k l i J x y hi h1 hk hl r s hh hst
    obtain ⟨k, rfl⟩ : ∃ q, k = q + 1 := ⟨k - 1, by omega⟩
    obtain ⟨l, rfl⟩ : ∃ q, l = q + 1 := ⟨l - 1, by omega⟩
    refine ⟨J, ?_, Kp.rf, ?_⟩
    · rw [F_X8_choose_71, r.len, bI_s, shl_n n (by omega), if_pos (nI_le (by omega) (by omega))]
    · rw [F_X12_choice_54, gd_in (by omega) (by omega), nI_clamp (by omega), h5, shl_n n (by omega), if_pos (nI_le (by omega) (by omega))]
      rcases hst with ⟨-, -, -, q⟩ | ⟨p, q, -, -, q3, q4, q5, q6⟩
      · omega
      · rw [q3, q4, q5, q6]
        by_cases h0 : v4 = 0
        · rw [if_pos h0, if_pos h0]
        · rw [if_neg h0, if_neg h0]
  | succ t ih =>
    intro k l i J x y hi h1 hk hl r s hh hst
    obtain ⟨k, rfl⟩ : ∃ q, k = q + 1 := ⟨k - 1, by omega⟩
    obtain ⟨l, rfl⟩ : ∃ q, l = q + 1 := ⟨l - 1, by omega⟩
    have hb := cnt_le (b := fun k => i.testBit k) 8
    rw [F_X8_choose_71, r.len, bI_s, shl_n n (by omega), if_neg (nI_ge (by omega) (by omega)), bits_s (by omega), bI_s, nI_1]
    rw [F_X12_choice_54, gd_in (by omega) (by omega), nI_clamp (by omega), h5, shl_n n (by omega), if_neg (nI_ge (by omega) (by omega)), bits_s (by omega), bI_s, nI_1]
    by_cases hq : cnt (fun k => i.testBit k) 8 = c
    · rw [if_pos (by rw [hq]), if_pos (by rw [hq]), byChoice_s hN (by omega) s r hh, bI_s, seenTo12_s sM hN (by omega) ha rM, bI_s]
      have hs := cnt_le (b := fun v => svm P n z b i (v + 1)) a
      obtain ⟨w, hw⟩ : ∃ w, w = cnt (fun v => svm P n z b i (v + 1)) a := ⟨_, rfl⟩
      rw [← hw] at hs ⊢
      unfold f_X8_prefer F_X12_choice_99
      have kU : Kp dW J (uI (uI J 8 7 (nI i)) 8 8 (nI w)) := (Kp.rf.up (by unfold dW; omega)).up (by unfold dW; omega)
      have hnew := ih k l (i + 1) (uI (uI J 8 7 (nI i)) 8 8 (nI w)) (nI i) (nI w) (by omega) (by omega) (by omega) (by omega) (r.cong kU) (s.cong kU) (fun w' hw' => by rw [uI_ne (by omega), uI_ne (by omega)]; exact hh w' hw') (Or.inr ⟨i, w, by omega, by omega, by rw [uI_ne (by omega), uI_eq], by rw [uI_eq], rfl, rfl⟩)
      obtain ⟨J', g1, g2, g3⟩ := hnew
      rcases hst with ⟨s1, s2, s3, s4⟩ | ⟨p, q, q1, q2, q3, q4, q5, q6⟩
      · rw [s2, if_neg (by rw [m_nge (by omega)]; exact fun h => h), nmW_s, nmW_s, bV_s, s3, if_pos rfl, nI_1]
        exact ⟨J', g1, kU.tr g2, g3⟩
      · rw [q4, q5, q6, if_neg (m_ne' (by omega))]
        by_cases h9 : w ≤ q
        · rw [if_pos (nI_le h9 (by omega)), if_pos (nI_le h9 (by omega)), bV_s]
          exact ih k l (i + 1) J (nI p) (nI q) (by omega) (by omega) (by omega) (by omega) r s hh (Or.inr ⟨p, q, q1, q2, q3, q4, rfl, rfl⟩)
        · rw [if_neg (nI_ge (by omega) (by omega)), if_neg (nI_ge (by omega) (by omega)), nmW_s, nmW_s, bV_s, nI_1]
          exact ⟨J', g1, kU.tr g2, g3⟩
    · rw [if_neg (fun q => hq ((nI_eq (by omega) (by omega)).mp q)), if_neg (fun q => hq ((nI_eq (by omega) (by omega)).mp q))]
      refine ih k l (i + 1) J x y (by omega) (by omega) (by omega) (by omega) r s hh ?_
      rcases hst with ⟨s1, s2, s3, s4⟩ | h
      · refine Or.inl ⟨s1, s2, s3, ?_⟩
        by_cases h8 : i = 2 ^ c - 1
        · rw [h8] at hq
          exact absurd e4 hq
        · omega
      · exact Or.inr h
end CHO
theorem case_choice {X : PI → Prop} (hX : Xok X) {N : Nat} (hN : 20000 ≤ N) (a1 a2 a3 a4 : Int32) : CaseI (Inv X) (f_X11_choice N a1 a2 a3 a4) (f_X12_choice N a1 a2 a3 a4) := by
  intro I L hI
  have hI0 := hI
  obtain ⟨-, hS, -, hR, -⟩ := hI
  obtain ⟨z, b, s⟩ := hS.sv
  obtain ⟨m, r1, r2, r3, r4⟩ := hR.set
  have eC := f_X11_choice.eq_1 N a1 a2 a3 a4 I L
  have eM0 := f_X12_choice.eq_1 N a1 a2 a3 a4 I L
  have key : ∀ x : Int32, f_X11_choice N a1 a2 a3 a4 I L = some (some (.int x), I, L) → f_X12_choice N a1 a2 a3 a4 I L = some (some (.int x), I, L) → ∃ (x : Int32) (I1 : PI) (L1 : PL) (I2 : PI) (L2 : PL), f_X11_choice N a1 a2 a3 a4 I L = some (some (.int x), I1, L1) ∧ f_X12_choice N a1 a2 a3 a4 I1 L1 = some (some (.int x), I2, L2) ∧ Inv X I2 L2 := fun x h1 h2 => ⟨x, I, L, I, L, h1, h2, hI0⟩
  rw [has8_s r1 r2, bI_s] at eC
  rw [isSet_s r3, bI_s] at eM0
  cases hq : hz a1 m with
  | false =>
    rw [ifz_f hq] at eC eM0
    exact key _ eC eM0
  | true =>
    rw [ifz_t hq] at eC eM0
    obtain ⟨j, hj, rfl⟩ := (hz_iff (by omega)).mp hq
    obtain ⟨n, P, r⟩ := r4 j hj
    have r' := r
    obtain ⟨-, n1, n8, -, h5, -⟩ := r'
    rw [r.len, bI_s, within_s, bI_s] at eC
    rw [gd_in (by omega) (by omega), nI_clamp (by omega), h5, in_s, bI_s] at eM0
    cases hw : wi a2 1 (nI n) with
    | false =>
      rw [ifz_f hw] at eC eM0
      exact key _ eC eM0
    | true =>
      rw [ifz_t hw, within_s, bI_s] at eC
      rw [ifz_t hw, in_s, bI_s] at eM0
      cases hu : wi a3 1 999 with
      | false =>
        rw [ifz_f hu] at eC eM0
        exact key _ eC eM0
      | true =>
        rw [ifz_t hu, within_s, bI_s] at eC
        rw [ifz_t hu, in_s, bI_s] at eM0
        cases ht : wi a4 0 1 with
        | false =>
          rw [ifz_f ht] at eC eM0
          exact key _ eC eM0
        | true =>
          rw [ifz_t ht] at eC
          obtain ⟨c, c1, c2, rfl⟩ := wi_nat2 (m := 1) (n := n) rfl rfl (by omega) (by omega) hw
          obtain ⟨a, a1', a2', rfl⟩ := wi_nat2 (m := 1) (n := 999) rfl rfl (by omega) (by omega) hu
          have hf : F_J7_fill_53178_r28_5 N N 0 0 256 I L = some (none, fil I 28 0 (fun _ => 0) 256, L) := fill28Lp (N := N) 256 N 0 I L (by omega) (by omega)
          have kF : Kp dW I (fil I 28 0 (fun _ => 0) 256) := fun a' k' h' => by
            unfold dW at h'
            rw [fil_out (by omega)]
          obtain ⟨J, q1, q2, q3, q4, q5⟩ := chooseLp (L := L) (c := nI c) hN a2' a N 0 (fil I 28 0 (fun _ => 0) 256) (by omega) (by omega) (s.cong kF) (r.cong kF) (fun w hw => by rw [fil_in (by omega) (by omega)]; rfl)
          have kJ : Kp dW I J := kF.tr q5
          have e2 : 1 ≤ 2 ^ n := Nat.one_le_two_pow
          have e3 : 2 ^ n ≤ 256 := Nat.pow_le_pow_right (by decide) n8
          have e4 : 2 ^ 1 ≤ 2 ^ c := Nat.pow_le_pow_right (by decide) c1
          obtain ⟨J0, g1, g2, -⟩ := chLp (L := L) (v4 := a4) hN a2' c2 r s (2 ^ n - 1) N N 1 J (-1) 0 (by omega) (by omega) (by omega) (by omega) (r.cong kJ) (s.cong kJ) q4 (Or.inl ⟨q2, q3, rfl, by omega⟩)
          have kJ0 : Kp dW I J0 := kJ.tr g2
          obtain ⟨J1, g4, -, g6⟩ := chLp (L := L) (v4 := a4) hN a2' c2 (r.cong kJ0) (s.cong kJ0) (2 ^ n - 1) N N 1 J (-1) 0 (by omega) (by omega) (by omega) (by omega) (r.cong kJ) (s.cong kJ) q4 (Or.inl ⟨q2, q3, rfl, by omega⟩)
          rw [g1] at g4
          have eJ : J0 = J1 := by
            have := Option.some.inj g4
            exact (Prod.mk.inj (Prod.mk.inj this).2).1
          subst eJ
          have ech : f_X8_choose N (nI j) (nI c) (nI a) I L = some (none, J0, L) := by
            unfold f_X8_choose f_J7_fill_53178_r28
            rw [hf, bV_s]
            exact q1.trans g1
          rw [ech, bV_s] at eC
          have eM1 := f_X12_choice.eq_1 N (nI j) (nI c) (nI a) a4 J0 L
          rw [isSet_s ((kJ0 12 22 (by unfold dW; omega)).trans r3), bI_s, ifz_t hq, gd_in (by omega) (by omega), nI_clamp (by omega), (r.cong kJ0).2.2.2.2.1, in_s, bI_s, ifz_t hw, in_s, bI_s, ifz_t hu, in_s, bI_s, ifz_t ht] at eM1
          have eF := eM1.trans g6
          refine ⟨_, J0, L, J0, L, ?_, eF, hI0.keep hX kJ0 (fun a' k' h' => by unfold dW at h'; unfold dT dS dR dD dE dZ dX dC; omega)⟩
          rw [eC]
          by_cases h0 : a4 = 0
          · rw [if_pos h0, if_pos h0]
          · rw [if_neg h0, if_neg h0]
