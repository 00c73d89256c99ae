/-! text: a CODE; the class learns ahead of the model's reading -/
theorem CS1.mk {I : PI} {m : Nat} (hm : m ≤ 8) (h2 : I 3 2 = nI m) (h : ∀ c, c < m → ∃ n : Nat, 1 ≤ n ∧ n ≤ 24 ∧ I 16 c = nI n ∧ ∀ k, k < n → ∃ t : Nat, t < 4 ∧ I 15 (24 * c + k) = nI t) : CS1 I m (fun c => (I 16 c).toNatClampNeg) (fun c k => (I 15 (24 * c + k)).toNatClampNeg) := by
  refine ⟨hm, h2, trivial, fun c hc => ?_⟩
  obtain ⟨n, g1, g2, g3, g5⟩ := h c hc
  have e : (I 16 c).toNatClampNeg = n := by rw [g3, nI_clamp (by omega)]
  show 1 ≤ (I 16 c).toNatClampNeg ∧ (I 16 c).toNatClampNeg ≤ 24 ∧ I 16 c = nI (I 16 c).toNatClampNeg ∧ True ∧ ∀ k, k < (I 16 c).toNatClampNeg → (I 15 (24 * c + k)).toNatClampNeg < 4 ∧ I 15 (24 * c + k) = nI (I 15 (24 * c + k)).toNatClampNeg ∧ True
  rw [e]
  refine ⟨g1, g2, g3, trivial, fun k hk => ?_⟩
  obtain ⟨t, t1, t2⟩ := g5 k hk
  have e2 : (I 15 (24 * c + k)).toNatClampNeg = t := by rw [t2, nI_clamp (by omega)]
  rw [e2]
  exact ⟨t1, t2, trivial⟩
section TXC
variable {N n : Nat} {T : Nat → Nat} {L : PL}
theorem res_injV {J J' : PI} {o : RES} (h : o = some (none, J, L)) (h' : o = some (none, J', L)) : J' = J := by
  rw [h] at h'
  injection h' with h'
  injection h' with h1 h2
  injection h2 with h2 h3
  exact h2.symm
/-- what a CODE told may change -/
def dTC (a k : Nat) : Prop := dC a k ∨ dT a k ∨ dG a k ∨ a = 22 ∨ (a = 10 ∧ k = 2) ∨ (a = 12 ∧ (k = 3 ∨ k = 4))
theorem Inv.mkTC {X : PI → Prop} {I J : PI} {L M : PL} (hk : Kp dTC I J) (t : RT J) (c : RC J) (x : X J) (h : Inv X I L) : Inv X J M := by
  obtain ⟨h1, h2, h3, h4, h5, h6, h7, h8⟩ := h
  exact ⟨t, h2.cong (fun a j q => hk a j (fun f => by unfold dTC dC dT dG at f; unfold dS at q; omega)), c, h4.cong (fun a j q => hk a j (fun f => by unfold dTC dC dT dG at f; unfold dR at q; omega)), h5.cong (fun a j q => hk a j (fun f => by unfold dTC dC dT dG at f; unfold dD at q; omega)), h6.cong (fun a j q => hk a j (fun f => by unfold dTC dC dT dG at f; unfold dE at q; omega)), h7.cong (fun a j q => hk a j (fun f => by unfold dTC dC dT dG at f; unfold dZ at q; omega)), x⟩
theorem text_c {I : PI} (hN : 20000 ≤ N) (hI : Inv XX I L) : ∃ (x : Int32) (I1 I2 : PI), f_X11_text N 0 I L = some (some (.int x), I1, L) ∧ f_X12_text N 0 I1 L = some (some (.int x), I2, L) ∧ Inv XX I2 L := by
  have hI0 := hI
  obtain ⟨r1, r2, r3, r4, r5, r6, r7, r8⟩ := hI
  obtain ⟨n, T, tI⟩ := r1.tp
  obtain ⟨m, hm, h32, h1221, hrow⟩ := r3
  obtain ⟨mr, hmr, h86, h1222, -⟩ := r4
  obtain ⟨⟨lm, hlm, h74, h1213, xa⟩, x5, x6, x7⟩ := r8
  obtain ⟨x, J, a1, a2, a3, a4, h⟩ := codesAll (N := N) (L := L) (s := m) hN hm hm tI h32
  have tJ := tI.cong (dT_CC a2)
  have j32 : J 3 2 = nI m := (a2 3 2 (by unfold dCC; omega)).trans h32
  have j21 : J 12 21 = nI m := (a2 12 21 (by unfold dCC; omega)).trans h1221
  have eC : f_X11_text N 0 I L = (if x = (-1 : Int32) then bI (f_X11_keep N 0 J L) (fun x7 I8 L9 => (if x7 = (-1 : Int32) then some (some (.int x7), I8, L9) else bI (f_X10_cutTo N 0 I8 L9) (fun x10 I11 L12 => some (some (.int x7), I11, L12)))) else some (some (.int (-1 : Int32)), J, L)) := by
    unfold f_X11_text f_X11_faultOf
    rw [sort_y0, bI_s, if_neg ne_10, if_pos rfl, a1, bI_s, bI_s]
  have eM : ∀ K : PI, f_X12_text N 0 K L = (if 8 ≤ (K 12 21) then some (some (.int (-1 : Int32)), K, L) else bI (f_X12_readCode N (K 12 21) K L) (fun x11 I12 L13 => (if x11 = (-1 : Int32) then nmW (uI I12 12 2 0) (fun I14 => nmW (uI I14 12 21 ((I14 12 21) + 1)) (fun I15 => some (some (.int ((I15 12 21) - 1)), I15, L13))) else some (some (.int (-1 : Int32)), I12, L13)))) := fun K => by
    have e47 : ∀ (Q : PI) (M : PL), F_X12_text_47 N 0 Q M = some (some (.int (-1 : Int32)), Q, M) := fun Q M => by
      unfold F_X12_text_47 F_X12_text_95
      rw [if_neg (show ¬ (0 : Int32) = 1 by decide), if_neg (show ¬ (0 : Int32) = 2 by decide)]
    unfold f_X12_text
    rw [if_pos rfl, e47]
    by_cases h8 : 8 ≤ K 12 21
    · rw [if_pos h8, if_pos h8]
    · rw [if_neg h8, if_neg h8]
      congr 1
  have eK : ∀ K : PI, f_X11_keep N 0 K L = bI (f_X3_keep N K L) (fun x1 I2 L3 => (if x1 = (-1 : Int32) then some (some (.int x1), I2, L3) else bV (f_X4_learn N x1 I2 L3) (fun I5 L6 => some (some (.int x1), I5, L6)))) := fun K => by
    unfold f_X11_keep
    rw [if_neg (show ¬ (0 : Int32) = 1 by decide), if_neg (show ¬ (0 : Int32) = 2 by decide)]
  have scJ : Kp (dSc m lm mr) I J := scC a2 a3 a4
  by_cases hf : m < 8
  · by_cases hx : x = -1
    · subst hx
      obtain ⟨J1, hJ1⟩ : ∃ Q : PI, Q = uI J 3 2 (nI (m + 1)) := ⟨_, rfl⟩
      have kJ1 : Kp (fun a k => a = 3 ∧ k = 2) J J1 := hJ1 ▸ Kp.rf.up ⟨rfl, rfl⟩
      obtain ⟨K0, -, -, -, -, w0⟩ := h J tJ.tm
      obtain ⟨c0, d1, d24, d16, -, drow⟩ := w0 rfl
      have s1 : J1 3 2 = nI (m + 1) := by rw [hJ1, uI_eq]
      have rJ1 : CS1 J1 (m + 1) (fun c => (J1 16 c).toNatClampNeg) (fun c k => (J1 15 (24 * c + k)).toNatClampNeg) := by
        refine CS1.mk (by omega) s1 (fun c hc => ?_)
        by_cases e : c < m
        · obtain ⟨q, g1, g2, g3, g4, g5⟩ := hrow c e
          refine ⟨q, g1, g2, ?_, fun k hk => ?_⟩
          · rw [kJ1 16 c (by omega), a4 c (by omega)]; exact g3
          · obtain ⟨t, t1, t2, t3⟩ := g5 k hk
            refine ⟨t, t1, ?_⟩
            rw [kJ1 15 _ (by omega), a3 _ (by omega)]; exact t2
        · have e' : c = m := by omega
          rw [e']
          refine ⟨c0, d1, d24, (kJ1 16 m (by omega)).trans d16, fun k hk => ?_⟩
          obtain ⟨t, t1, t2, t3⟩ := drow k hk
          exact ⟨t, t1, (kJ1 15 _ (by omega)).trans t2⟩
      obtain ⟨J2, l1, l2, l3, -⟩ := learnC (N := N) (L := L) hN (show m < m + 1 by omega) rJ1
      obtain ⟨J3, hJ3⟩ : ∃ Q : PI, Q = uI J2 10 1 0 := ⟨_, rfl⟩
      have kJ3 : Kp (fun a k => a = 10 ∧ k = 1) J2 J3 := hJ3 ▸ Kp.rf.up ⟨rfl, rfl⟩
      have cls : f_X11_text N 0 I L = some (some (.int (nI m)), J3, L) := by
        rw [eC, if_pos rfl, eK]
        unfold f_X3_keep
        rw [j32, show (8 : Int32) = nI 8 from rfl, if_pos (nI_lt hf (by omega)), nI_1, nmW_s, uI_eq, nsub1 (by omega), Nat.add_sub_cancel, ← hJ1, bI_s, if_neg (m_ne' (by omega)), l1, bV_s, bI_s, if_neg (m_ne' (by omega)), cut0 tJ.1 (by rw [l2 10 1 (by unfold dWn dG; omega), kJ1 10 1 (by omega)]; exact tJ.2.1), bI_s, hJ3]
      have o23 : ∀ a k, ¬ dWn a k → ¬ (a = 10 ∧ k = 1) → ¬ (a = 3 ∧ k = 2) → J3 a k = J a k := fun a k q1 q2 q3 => (kJ3 a k q2).trans ((l2 a k q1).trans (kJ1 a k q3))
      have tm3 : TM J3 n T := tJ.tm.cong0 (o23 12 2 (by unfold dWn dG; omega) (by omega) (by omega)) (fun k => o23 14 k (by unfold dWn dG; omega) (by omega) (by omega)) (fun k => o23 39 k (by unfold dWn dG; omega) (by omega) (by omega))
      obtain ⟨K', b1, b2, b3, b4, b5⟩ := h J3 tm3
      obtain ⟨c, c1, c24, c16, c50, crow⟩ := b5 rfl
      have i21 : J3 12 21 = nI m := (o23 12 21 (by unfold dWn dG; omega) (by omega) (by omega)).trans j21
      have k21 : K' 12 21 = nI m := (b2 12 21 (by unfold dCM; omega)).trans i21
      obtain ⟨K, hK⟩ : ∃ Q : PI, Q = uI (uI K' 12 2 0) 12 21 (nI (m + 1)) := ⟨_, rfl⟩
      have mod : f_X12_text N 0 J3 L = some (some (.int (nI m)), K, L) := by
        rw [eM, i21, show (8 : Int32) = nI 8 from rfl, if_neg (nI_ge hf (by omega)), b1, bI_s, if_pos rfl, nmW_s, uI_ne (a := 12) (k := 21) (by omega), k21, nI_1, nmW_s, uI_eq, nsub1 (by omega), Nat.add_sub_cancel, hK]
      have kK : Kp (fun a k => a = 12 ∧ (k = 2 ∨ k = 21)) K' K := hK ▸ (Kp.rf.up (by omega)).up (by omega)
      have z1 : Kp dTC I J := a2.mono (fun a k q => by unfold dCC at q; unfold dTC dC; omega)
      have z2 : Kp dTC J J1 := kJ1.mono (fun a k q => by unfold dTC dC; omega)
      have z3 : Kp dTC J1 J2 := l2.mono (fun a k q => by unfold dWn at q; unfold dTC; rcases q with q | q; exact Or.inr (Or.inr (Or.inl q)); exact Or.inr (Or.inr (Or.inr (Or.inl q))))
      have z4 : Kp dTC J2 J3 := kJ3.mono (fun a k q => by unfold dTC dT; omega)
      have z5 : Kp dTC J3 K' := b2.mono (fun a k q => by unfold dCM at q; unfold dTC dC; omega)
      have z6 : Kp dTC K' K := kK.mono (fun a k q => by unfold dTC dC dT; omega)
      have kAll : Kp dTC I K := ((((z1.tr z2).tr z3).tr z4).tr z5).tr z6
      have hT : RT K := RT.nil (by rw [kK 10 1 (by omega), b2 10 1 (by unfold dCM; omega), hJ3, uI_eq]) (by rw [hK, uI_ne (by omega), uI_eq])
      have v15 : ∀ k, K 15 k = J 15 k := fun k => by rw [kK 15 k (by omega), b2 15 k (by unfold dCM; omega), o23 15 k (by unfold dWn dG; omega) (by omega) (by omega)]
      have v16 : ∀ k, K 16 k = J 16 k := fun k => by rw [kK 16 k (by omega), b2 16 k (by unfold dCM; omega), o23 16 k (by unfold dWn dG; omega) (by omega) (by omega)]
      have v49 : ∀ k, K 49 k = K' 49 k := fun k => kK 49 k (by omega)
      have v50 : ∀ k, K 50 k = K' 50 k := fun k => kK 50 k (by omega)
      have i49 : ∀ k, J3 49 k = I 49 k := fun k => (o23 49 k (by unfold dWn dG; omega) (by omega) (by omega)).trans (a2 49 k (by unfold dCC; omega))
      have i50 : ∀ k, J3 50 k = I 50 k := fun k => (o23 50 k (by unfold dWn dG; omega) (by omega) (by omega)).trans (a2 50 k (by unfold dCC; omega))
      have s3 : K 3 2 = nI (m + 1) := by rw [kK 3 2 (by omega), b2 3 2 (by unfold dCM; omega), kJ3 3 2 (by omega), l2 3 2 (by unfold dWn dG; omega), s1]
      have hC : RC K := by
        refine ⟨m + 1, by omega, s3, by rw [hK, uI_eq], fun c' hc' => ?_⟩
        by_cases e : c' < m
        · obtain ⟨q, g1, g2, g3, g4, g5⟩ := hrow c' e
          refine ⟨q, g1, g2, ?_, ?_, fun k hk => ?_⟩
          · rw [v16, a4 c' (by omega)]; exact g3
          · rw [v50, b4 c' (by omega), i50]; exact g4
          · obtain ⟨t, t1, t2, t3⟩ := g5 k hk
            refine ⟨t, t1, ?_, ?_⟩
            · rw [v15, a3 _ (by omega)]; exact t2
            · rw [v49, b3 _ (by omega), i49]; exact t3
        · have e' : c' = m := by omega
          rw [e']
          refine ⟨c, c1, c24, (v16 _).trans c16, (v50 _).trans c50, fun k hk => ?_⟩
          obtain ⟨t, t1, t2, t3⟩ := crow k hk
          exact ⟨t, t1, (v15 _).trans t2, (v49 _).trans t3⟩
      have hback : ∀ (m' : Nat) (n' : Nat → Nat) (S' : Nat → Nat → Nat), CSet K m' n' S' → m' = m + 1 ∧ CSet I m n' S' ∧ CS1 J1 (m + 1) n' S' := by
        intro m' n' S' r
        obtain ⟨q1, q2, q3, q4⟩ := r
        have em : m' = m + 1 := (nI_eq (by omega) (by omega)).mp (q2.symm.trans s3)
        subst em
        refine ⟨rfl, ⟨hm, h32, h1221, fun c' hc' => ?_⟩, by omega, s1, trivial, fun c' hc' => ?_⟩
        · obtain ⟨u1, u2, u3, u4, u5⟩ := q4 c' (by omega)
          refine ⟨u1, u2, ?_, ?_, fun k hk => ?_⟩
          · rw [← u3, v16, a4 c' (by omega)]
          · rw [← u4, v50, b4 c' (by omega), i50]
          · obtain ⟨t1, t2, t3⟩ := u5 k hk
            refine ⟨t1, ?_, ?_⟩
            · rw [← t2, v15, a3 _ (by omega)]
            · rw [← t3, v49, b3 _ (by omega), i49]
        · obtain ⟨u1, u2, u3, u4, u5⟩ := q4 c' hc'
          refine ⟨u1, u2, ?_, trivial, fun k hk => ?_⟩
          · rw [← u3, v16, kJ1 16 c' (by omega)]
          · obtain ⟨t1, t2, t3⟩ := u5 k hk
            exact ⟨t1, by rw [← t2, v15, kJ1 15 _ (by omega)], trivial⟩
      have v22 : ∀ k, K 22 k = J2 22 k := fun k => by rw [kK 22 k (by omega), b2 22 k (by unfold dCM; omega), kJ3 22 k (by omega)]
      have i22 : ∀ k, J1 22 k = I 22 k := fun k => (kJ1 22 k (by omega)).trans (a2 22 k (by unfold dCC; omega))
      have xH : ∀ (m' : Nat) (n' : Nat → Nat) (S' : Nat → Nat → Nat), CSet K m' n' S' → XHi K m' n' S' := by
        intro m' n' S' r
        obtain ⟨em, rI, r1'⟩ := hback m' n' S' r
        subst em
        obtain ⟨J2', e1, -, -, e4⟩ := learnC (N := N) (L := L) hN (show m < m + 1 by omega) r1'
        have ej := res_injV l1 e1
        subst ej
        intro a b ha hb
        rw [v22]
        by_cases ea : a = m
        · rw [ea]
          exact (e4 b (by omega)).1
        · by_cases eb : b = m
          · rw [eb]
            exact (e4 a (by omega)).2
          · rw [l3 a b (by omega) (by omega), i22]
            exact x5 m n' S' rI a b (by omega) (by omega)
      have kX : ∀ a k, ¬ dTC a k → K a k = I a k := fun a k q => kAll a k q
      have xK : XX K := ⟨⟨lm, hlm, (kX 7 4 (by unfold dTC dC dT dG; omega)).trans h74, (kX 12 13 (by unfold dTC dC dT dG; omega)).trans h1213, xa.cr (fun j _ => ⟨kX 19 j (by unfold dTC dC dT dG; omega), kX 43 j (by unfold dTC dC dT dG; omega)⟩) (fun j _ => kX 18 j (by unfold dTC dC dT dG; omega)) (fun j _ => ⟨kX 40 j (by unfold dTC dC dT dG; omega), kX 41 j (by unfold dTC dC dT dG; omega)⟩) (fun j _ => ⟨kX 44 j (by unfold dTC dC dT dG; omega), kX 45 j (by unfold dTC dC dT dG; omega), kX 46 j (by unfold dTC dC dT dG; omega)⟩)⟩, xH, x6.cong (fun k => kX 23 k (by unfold dTC dC dT dG; omega)), fun m' n' S' r => by
        obtain ⟨em, rI, -⟩ := hback m' n' S' r
        subst em
        refine XF1.cong (I := I) (fun k => kX 24 k (by unfold dTC dC dT dG; omega)) (fun c hc => ?_)
        rcases x7 m n' S' rI c hc with g | ⟨g1, g2⟩
        · exact Or.inl g
        · exact Or.inr ⟨by omega, g2⟩⟩
      exact ⟨nI m, J3, K, cls, mod, hI0.mkTC kAll hT hC xK⟩
    · obtain ⟨K', b1, b2, b3, b4, -⟩ := h J tJ.tm
      refine ⟨-1, J, K', ?_, ?_, hI0.scr XX.sc hm h32 h1221 hlm h74 h1213 hmr h86 (scJ.tr (scCM (Nat.le_refl _) b2 b3 b4))⟩
      · rw [eC, if_neg hx]
      · rw [eM, j21, show (8 : Int32) = nI 8 from rfl, if_neg (nI_ge hf (by omega)), b1, bI_s, if_neg hx]
  · have em : m = 8 := by omega
    refine ⟨-1, J, J, ?_, ?_, hI0.scr XX.sc hm h32 h1221 hlm h74 h1213 hmr h86 scJ⟩
    · rw [eC]
      by_cases hx : x = -1
      · rw [if_pos hx, eK]
        unfold f_X3_keep
        rw [j32, em, if_neg (show ¬ nI 8 < (8 : Int32) by decide), bI_s, if_pos rfl, bI_s, if_pos rfl]
      · rw [if_neg hx]
    · rw [eM, j21, em, if_pos (show (8 : Int32) ≤ nI 8 by decide)]
theorem case_text {N : Nat} (hN : 20000 ≤ N) (a1 : Int32) : CaseI (Inv XX) (f_X11_text N a1) (f_X12_text N a1) := by
  intro I L hI
  by_cases e0 : a1 = 0
  · subst e0
    obtain ⟨x, I1, I2, g1, g2, g3⟩ := text_c hN hI
    exact ⟨x, I1, L, I2, L, g1, g2, g3⟩
  · by_cases e1 : a1 = 1
    · subst e1
      obtain ⟨x, I1, I2, g1, g2, g3⟩ := text_l hN hI
      exact ⟨x, I1, L, I2, L, g1, g2, g3⟩
    · by_cases e2 : a1 = 2
      · subst e2
        obtain ⟨x, I1, I2, g1, g2, g3⟩ := text_r hN hI
        exact ⟨x, I1, L, I2, L, g1, g2, g3⟩
      · refine ⟨-1, I, L, I, L, ?_, ?_, hI⟩
        · unfold f_X11_text
          rw [sort_n e0 e1 e2, bI_s, if_pos rfl]
        · unfold f_X12_text F_X12_text_47 F_X12_text_95
          rw [if_neg e0, if_neg e1, if_neg e2]
end TXC
