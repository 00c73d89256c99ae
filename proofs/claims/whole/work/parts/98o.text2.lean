/-! text: a LAW -/
section TXL
variable {N n : Nat} {T : Nat → Nat} {L : PL}
theorem keepL7 {lm e : Nat} (hl : lm < 6) (he : e ≤ 120) : ∀ (t k i : Nat) (I : PI), i + t = e → t < k → I 7 4 = nI lm → ∃ J : PI, F_X7_keep_23 N k (nI e) (nI i) I L = some (some (.int (nI lm)), J, L) ∧ Kp (fun a j => (a = 18 ∧ 120 * lm ≤ j) ∨ (a = 19 ∧ j = lm) ∨ (a = 7 ∧ j = 4)) I J ∧ J 19 lm = nI e ∧ J 7 4 = nI (lm + 1) ∧ (∀ j, j < i → J 18 (120 * lm + j) = I 18 (120 * lm + j)) ∧ ∀ j, i ≤ j → j < e → J 18 (120 * lm + j) = I 17 j := by
  intro t
  induction t with
  | zero =>
    intro k i I hi hk h74
    obtain ⟨k, rfl⟩ : ∃ q, k = q + 1 := ⟨k - 1, by omega⟩
    obtain ⟨J, hJ⟩ : ∃ Q : PI, Q = uI (uI I 19 lm (nI e)) 7 4 (nI (lm + 1)) := ⟨_, rfl⟩
    refine ⟨J, ?_, hJ ▸ (Kp.rf.up (by omega)).up (by omega), by rw [hJ, uI_ne (by omega), uI_eq], by rw [hJ, uI_eq], fun j _ => by rw [hJ, uI_ne (by omega), uI_ne (by omega)], fun j h1 h2 => by omega⟩
    rw [F_X7_keep_23, if_pos (nI_le (by omega) (by omega)), h74, gd_in (by omega) (by omega), nI_clamp (by omega), nmW_s, uI_ne (a := 7) (k := 4) (by omega), h74, nI_1, nmW_s, uI_eq, nsub1 (by omega), Nat.add_sub_cancel, hJ]
  | succ t ih =>
    intro k i I hi hk h74
    obtain ⟨k, rfl⟩ : ∃ q, k = q + 1 := ⟨k - 1, by omega⟩
    obtain ⟨I2, hI2⟩ : ∃ Q : PI, Q = uI I 18 (120 * lm + i) (I 17 i) := ⟨_, rfl⟩
    have k2 : Kp (fun a j => (a = 18 ∧ 120 * lm ≤ j) ∨ (a = 19 ∧ j = lm) ∨ (a = 7 ∧ j = 4)) I I2 := hI2 ▸ Kp.rf.up (by omega)
    obtain ⟨J, g1, g2, g3, g4, g5, g6⟩ := ih k (i + 1) I2 (by omega) (by omega) (by rw [hI2, uI_ne (by omega)]; exact h74)
    refine ⟨J, ?_, k2.tr g2, g3, g4, fun j hj => ?_, fun j h1 h2 => ?_⟩
    · rw [F_X7_keep_23, if_neg (nI_ge (by omega) (by omega)), h74, show (120 : Int32) = nI 120 from rfl, pk_mul, nI_add, gd_in (by omega) (by omega), gd_in (by omega) (by omega), nI_clamp (n := i) (by omega), nI_clamp (by omega), nmW_s, nI_1, show lm * 120 + i = 120 * lm + i by omega, ← hI2]
      exact g1
    · rw [g5 j (by omega), hI2, uI_ne (by omega)]
    · by_cases e : j = i
      · subst e
        rw [g5 j (by omega), hI2, uI_eq]
      · rw [g6 j (by omega) h2, hI2, uI_ne (by omega)]
theorem clR_shift {A B : Nat → Int32} {o : Nat} : ∀ (cs : List (List (Nat × Nat) × List (Nat × Nat))) {m e : Nat}, (∀ j, j < e → B (o + j) = A j) → clR A m cs e → clR B (o + m) cs (o + e)
  | [], m, e, _, h => by
    have h' : e = m := h
    show o + e = o + m
    rw [h']
  | t :: cs, m, e, hB, h => by
    obtain ⟨g1, g2, g3⟩ := h
    have hle := clR_le cs g3
    have hsg : ∀ (w : List (Nat × Nat)) {m : Nat}, m + w.length ≤ e → seg A eC m w → seg B eC (o + m) w := by
      intro w
      induction w with
      | nil => intro m _ _; trivial
      | cons x w ih =>
        intro m hm hs
        rw [List.length_cons] at hm
        refine ⟨(hB m (by omega)).trans hs.1, ?_⟩
        rw [Nat.add_assoc]
        exact ih (by omega) hs.2
    have hl : (t.1 ++ t.2).length = t.1.length + t.2.length := List.length_append
    refine ⟨hsg _ (by omega) g1, ?_, ?_⟩
    · rw [Nat.add_assoc, hB _ (by omega)]
      exact g2
    · rw [Nat.add_assoc]
      exact clR_shift cs hB g3
/-- what a LAW told may change -/
def dTL (a k : Nat) : Prop := dT a k ∨ (a = 10 ∧ k = 2) ∨ (a = 6 ∧ k = 2) ∨ (17 ≤ a ∧ a ≤ 19) ∨ (a = 7 ∧ k = 4) ∨ (a = 12 ∧ (k = 3 ∨ k = 4 ∨ k = 5 ∨ k = 13 ∨ k = 14)) ∨ (40 ≤ a ∧ a ≤ 46)
theorem Inv.mkTL {X : PI → Prop} {I J : PI} {L M : PL} (hk : Kp dTL I J) (t : RT J) (x : X J) (h : Inv X I L) : Inv X J M := by
  obtain ⟨h1, h2, h3, h4, h5, h6, h7, h8⟩ := h
  exact ⟨t, h2.cong (fun a j q => hk a j (fun f => by unfold dTL dT at f; unfold dS at q; omega)), h3.cong (fun a j q => hk a j (fun f => by unfold dTL dT at f; unfold dC at q; omega)), h4.cong (fun a j q => hk a j (fun f => by unfold dTL dT at f; unfold dR at q; omega)), h5.cong (fun a j q => hk a j (fun f => by unfold dTL dT at f; unfold dD at q; omega)), h6.cong (fun a j q => hk a j (fun f => by unfold dTL dT at f; unfold dE at q; omega)), h7.cong (fun a j q => hk a j (fun f => by unfold dTL dT at f; unfold dZ at q; omega)), x⟩
theorem dLQ_TL {a k : Nat} (q : dLQ a k) : dTL a k := by
  rcases q with ((f | f | f | f) | f | f | f | f) | f
  · unfold dTL; omega
  · unfold dTL; omega
  · unfold dTL; omega
  · unfold dTL; omega
  · unfold dTL; omega
  · unfold dTL; omega
  · unfold dTL; omega
  · unfold dTL; omega
  · unfold dTL; omega
theorem dLQ_n {I J : PI} {a k : Nat} (h : Kp dLQ I J) (ha : a < 40 ∨ 46 < a) (h2 : ¬ (a = 12 ∧ (k = 3 ∨ k = 4 ∨ k = 5 ∨ k = 14))) : J a k = I a k := h a k (fun q => by
  rcases q with ((f | f | f | f) | f | f | f | f) | f
  · exact h2 (by omega)
  · omega
  · omega
  · omega
  · omega
  · omega
  · omega
  · omega
  · exact h2 (by omega))
theorem text_l {I : PI} (hN : 20000 ≤ N) (hI : Inv XX I L) : ∃ (x : Int32) (I1 I2 : PI), f_X11_text N 1 I L = some (some (.int x), I1, L) ∧ f_X12_text N 1 I1 L = some (some (.int x), I2, L) ∧ Inv XX I2 L := by
  have hI0 := hI
  obtain ⟨r1, r2, r3, r4, r5, r6, r7, r8⟩ := hI
  obtain ⟨n, T, tI⟩ := r1.tp
  obtain ⟨m, hm, h32, h1221, -⟩ := r3
  obtain ⟨mr, hmr, h86, h1222, -⟩ := r4
  obtain ⟨⟨lm, hlm, h74, h1213, xa⟩, x5, x6, x7⟩ := r8
  obtain ⟨x, J, a1, a2, h⟩ := lawAll (N := N) (L := L) (s := lm) hN hlm tI
  have tJ := tI.cong (dT_LC a2)
  have j74 : J 7 4 = nI lm := (a2 7 4 (by unfold dLC; omega)).trans h74
  have j13 : J 12 13 = nI lm := (a2 12 13 (by unfold dLC; omega)).trans h1213
  have eC : f_X11_text N 1 I L = (if x = (-1 : Int32) then bI (f_X11_keep N 1 J L) (fun x7 I8 L9 => (if x7 = (-1 : Int32) then some (some (.int x7), I8, L9) else bI (f_X10_cutTo N 0 I8 L9) (fun x10 I11 L12 => some (some (.int x7), I11, L12)))) else some (some (.int (-1 : Int32)), J, L)) := by
    unfold f_X11_text f_X11_faultOf
    rw [sort_y1, bI_s, if_neg ne_10, if_neg (show ¬ (1 : Int32) = 0 by decide), if_pos rfl, a1, bI_s, bI_s]
  have eM : ∀ K : PI, f_X12_text N 1 K L = (if 6 ≤ (K 12 13) then some (some (.int (-1 : Int32)), K, L) else bI (f_X12_readLaw N (K 12 13) K L) (fun x6 I7 L8 => (if x6 = (-1 : Int32) then nmW (uI I7 12 2 0) (fun I9 => nmW (uI I9 12 13 ((I9 12 13) + 1)) (fun I10 => some (some (.int ((I10 12 13) - 1)), I10, L8))) else some (some (.int (-1 : Int32)), I7, L8)))) := fun K => by
    have e95 : ∀ (Q : PI) (M : PL), F_X12_text_95 N 1 Q M = some (some (.int (-1 : Int32)), Q, M) := fun Q M => by
      unfold F_X12_text_95
      rw [if_neg (show ¬ (1 : Int32) = 2 by decide)]
    unfold f_X12_text F_X12_text_47
    rw [if_neg (show ¬ (1 : Int32) = 0 by decide), if_pos rfl, e95]
    by_cases h6 : 6 ≤ K 12 13
    · rw [if_pos h6, if_pos h6]
    · rw [if_neg h6, if_neg h6]
      congr 1
  have scJ : Kp (dSc m lm mr) I J := scL a2
  by_cases hf : lm < 6
  · by_cases hx : x = -1
    · subst hx
      obtain ⟨K0, -, -, -, -, -, w0⟩ := h J tJ.tm
      obtain ⟨cs0, e, -, -, w62, we, -⟩ := w0 rfl
      obtain ⟨J1, p1, p2, p3, p4, -, p6⟩ := keepL7 (N := N) (L := L) (lm := lm) (e := e) hf we e N 0 J (by omega) (by omega) j74
      obtain ⟨J2, hJ2⟩ : ∃ Q : PI, Q = uI J1 10 1 0 := ⟨_, rfl⟩
      have p1' : F_X7_keep_23 N N (nI e) 0 J L = some (some (.int (nI lm)), J1, L) := p1
      have cls : f_X11_text N 1 I L = some (some (.int (nI lm)), J2, L) := by
        rw [eC, if_pos rfl]
        unfold f_X11_keep f_X7_keep
        rw [if_pos rfl, j74, show (6 : Int32) = nI 6 from rfl, if_pos (nI_lt hf (by omega)), w62, show (120 : Int32) = nI 120 from rfl, jmin_n (by omega) (by omega), nmI_s, Nat.min_eq_left we, p1', bI_s, bI_s, if_neg (m_ne' (by omega)), cut0 tJ.1 ((p2 10 1 (by omega)).trans tJ.2.1), bI_s, hJ2]
      have kJ2 : Kp (fun a j => (a = 18 ∧ 120 * lm ≤ j) ∨ (a = 19 ∧ j = lm) ∨ (a = 7 ∧ j = 4) ∨ (a = 10 ∧ j = 1)) J J2 := hJ2 ▸ (p2.mono (fun a j q => by omega)).up (by omega)
      have tm2 : TM J2 n T := tJ.tm.cong0 (kJ2 12 2 (by omega)) (fun k => kJ2 14 k (by omega)) (fun k => kJ2 39 k (by omega))
      obtain ⟨K', b1, b2, b3, b4, b5, b6⟩ := h J2 tm2
      obtain ⟨cs, e', w1, w2, w3, w4, w5, w6, w7⟩ := b6 rfl
      have ee : e' = e := (nI_eq (by omega) (by omega)).mp (w3.symm.trans w62)
      subst ee
      have k13 : K' 12 13 = nI lm := (dLQ_n b2 (by omega) (by omega)).trans ((kJ2 12 13 (by omega)).trans j13)
      obtain ⟨K, hK⟩ : ∃ Q : PI, Q = uI (uI K' 12 2 0) 12 13 (nI (lm + 1)) := ⟨_, rfl⟩
      have mod : f_X12_text N 1 J2 L = some (some (.int (nI lm)), K, L) := by
        have i13 : J2 12 13 = nI lm := (kJ2 12 13 (by omega)).trans j13
        rw [eM, i13, show (6 : Int32) = nI 6 from rfl, if_neg (nI_ge hf (by omega)), b1, bI_s, if_pos rfl, nmW_s, uI_ne (a := 12) (k := 13) (by omega), k13, nI_1, nmW_s, uI_eq, nsub1 (by omega), Nat.add_sub_cancel, hK]
      have kK : Kp (fun a k => a = 12 ∧ (k = 2 ∨ k = 13)) K' K := hK ▸ (Kp.rf.up (by omega)).up (by omega)
      have kAll : Kp dTL I K := (((a2.mono (fun a k q => by unfold dLC at q; unfold dTL; omega)).tr (kJ2.mono (fun a k q => by unfold dTL dT; omega))).tr (b2.mono (fun a k q => dLQ_TL q))).tr (kK.mono (fun a k q => by unfold dTL dT; omega))
      have hT : RT K := RT.nil (by rw [kK 10 1 (by omega), dLQ_n b2 (by omega) (by omega), hJ2, uI_eq]) (by rw [hK, uI_ne (by omega), uI_eq])
      have hC : ∀ (m : Nat) (n : Nat → Nat) (S : Nat → Nat → Nat), CSet K m n S → CSet I m n S := fun m n S r => r.cong (fun a k hc => (kAll a k (by unfold dTL dT; unfold dC at hc; omega)).symm)
      have v18 : ∀ k, K 18 k = J2 18 k := fun k => by rw [kK 18 k (by omega), dLQ_n b2 (by omega) (by omega)]
      have v19 : ∀ k, K 19 k = J2 19 k := fun k => by rw [kK 19 k (by omega), dLQ_n b2 (by omega) (by omega)]
      have v40 : ∀ k, K 40 k = K' 40 k ∧ K 41 k = K' 41 k := fun k => ⟨kK 40 k (by omega), kK 41 k (by omega)⟩
      have v43 : ∀ k, K 43 k = K' 43 k := fun k => kK 43 k (by omega)
      have v44 : ∀ k, K 44 k = K' 44 k ∧ K 45 k = K' 45 k ∧ K 46 k = K' 46 k := fun k => ⟨kK 44 k (by omega), kK 45 k (by omega), kK 46 k (by omega)⟩
      have oI : ∀ a k, a ≥ 40 → J2 a k = I a k := fun a k ha => (kJ2 a k (by omega)).trans (a2 a k (by unfold dLC; omega))
      have xold : XA K lm := xa.cr (fun j hj => ⟨by rw [v19, kJ2 19 j (by omega)]; exact a2 19 j (by unfold dLC; omega), by rw [v43, (b4 j (by omega)).2]; exact oI 43 j (by omega)⟩) (fun j hj => by rw [v18, kJ2 18 j (by omega)]; exact a2 18 j (by unfold dLC; omega)) (fun j hj => by rw [(v40 j).1, (v40 j).2, (b3 j hj).1, (b3 j hj).2]; exact ⟨oI 40 j (by omega), oI 41 j (by omega)⟩) (fun j hj => by rw [(v44 j).1, (v44 j).2.1, (v44 j).2.2, (b5 j hj).1, (b5 j hj).2.1, (b5 j hj).2.2]; exact ⟨oI 44 j (by omega), oI 45 j (by omega), oI 46 j (by omega)⟩)
      have xnew : XA K (lm + 1) := by
        intro i hi
        by_cases hi2 : i < lm
        · exact xold i hi2
        · have ei : i = lm := by omega
          subst ei
          rw [Nat.zero_add] at w6 w7
          refine ⟨cs, e', w1, ?_, w4, ?_, moR_cong (fun a j ha => kK a j (by omega)) cs w5, (v43 _).trans w6, w7⟩
          · rw [v19, hJ2, uI_ne (by omega)]
            exact p3
          · have sh := clR_shift (A := J 17) (B := K 18) (o := 120 * i) cs (fun j hj => by
              rw [v18, hJ2, uI_ne (by omega)]
              exact p6 j (Nat.zero_le j) hj) w2
            exact sh
      have xK : XX K := ⟨⟨lm + 1, by omega, by rw [kK 7 4 (by omega), dLQ_n b2 (by omega) (by omega), hJ2, uI_ne (by omega)]; exact p4, by rw [hK, uI_eq], xnew⟩, fun m n S r => (x5 m n S (hC m n S r)).cong (fun k => kAll 22 k (by unfold dTL dT; omega)), x6.cong (fun k => kAll 23 k (by unfold dTL dT; omega)), fun m n S r => (x7 m n S (hC m n S r)).cong (fun k => kAll 24 k (by unfold dTL dT; omega))⟩
      exact ⟨nI lm, J2, K, cls, mod, hI0.mkTL kAll hT xK⟩
    · obtain ⟨K', b1, b2, b3, b4, b5, -⟩ := h J tJ.tm
      refine ⟨-1, J, K', ?_, ?_, hI0.scr XX.sc hm h32 h1221 hlm h74 h1213 hmr h86 (scJ.tr (scLM (Nat.le_refl _) b2 b3 b4 b5))⟩
      · rw [eC, if_neg hx]
      · rw [eM, j13, show (6 : Int32) = nI 6 from rfl, if_neg (nI_ge hf (by omega)), b1, bI_s, if_neg hx]
  · have em : lm = 6 := by omega
    refine ⟨-1, J, J, ?_, ?_, hI0.scr XX.sc hm h32 h1221 hlm h74 h1213 hmr h86 scJ⟩
    · rw [eC]
      by_cases hx : x = -1
      · rw [if_pos hx]
        unfold f_X11_keep f_X7_keep
        rw [if_pos rfl, j74, em, if_neg (show ¬ nI 6 < (6 : Int32) by decide), bI_s, bI_s, if_pos rfl]
      · rw [if_neg hx]
    · rw [eM, j13, em, if_pos (show (6 : Int32) ≤ nI 6 by decide)]
end TXL
