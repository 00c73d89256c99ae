/-! text: RESTS -/
section TXT
variable {N n : Nat} {T : Nat → Nat} {L : PL}
theorem sort_y0 {I : PI} : f_X11_isSort N 0 I L = some (some (.int 1), I, L) := rfl
theorem sort_y1 {I : PI} : f_X11_isSort N 1 I L = some (some (.int 1), I, L) := rfl
theorem sort_y2 {I : PI} : f_X11_isSort N 2 I L = some (some (.int 1), I, L) := rfl
theorem sort_n {a1 : Int32} {I : PI} (e0 : ¬ a1 = 0) (e1 : ¬ a1 = 1) (e2 : ¬ a1 = 2) : f_X11_isSort N a1 I L = some (some (.int 0), I, L) := by
  unfold f_X11_isSort f_X11_within
  rw [gd_k0, gd_k1]
  by_cases h1 : a1 < 0
  · rw [if_pos h1, bI_s, gd01 (Or.inl rfl)]
  · rw [if_neg h1]
    by_cases h2 : 2 < a1
    · rw [if_pos h2, bI_s, gd01 (Or.inl rfl)]
    · exfalso
      rw [Int32.lt_iff_toInt_lt] at h1 h2
      have z0 : (0 : Int32).toInt = 0 := by decide
      have z2 : (2 : Int32).toInt = 2 := by decide
      rw [z0] at h1
      rw [z2] at h2
      have z1 : (1 : Int32).toInt = 1 := by decide
      have hc : a1.toInt = 0 ∨ a1.toInt = 1 ∨ a1.toInt = 2 := by omega
      rcases hc with h | h | h
      · exact e0 (Int32.toInt_inj.mp (h.trans z0.symm))
      · exact e1 (Int32.toInt_inj.mp (h.trans z1.symm))
      · exact e2 (Int32.toInt_inj.mp (h.trans z2.symm))
theorem cut0 {I : PI} (hn : n ≤ 120) (h : I 10 1 = nI n) : f_X10_cutTo N 0 I L = some (some (.int 1), uI I 10 1 0, L) := by
  unfold f_X10_cutTo
  rw [if_neg (by decide), h, if_pos (nI_pos' (by omega)), nmW_s, gd_k1]
theorem RT.nil {I : PI} (h1 : I 10 1 = 0) (h2 : I 12 2 = 0) : RT I := ⟨0, Nat.zero_le _, h1, h2, fun k hk => absurd hk (Nat.not_lt_zero k)⟩
/-- what RESTS told may change -/
def dTR (a k : Nat) : Prop := dR a k ∨ dT a k ∨ (a = 10 ∧ k = 2) ∨ (a = 12 ∧ (k = 3 ∨ k = 4))
theorem Inv.mkTR {X : PI → Prop} {I J : PI} {L M : PL} (hX : Xok X) (hk : Kp dTR I J) (t : RT J) (r : RR J) (h : Inv X I L) : Inv X J M := by
  obtain ⟨h1, h2, h3, h4, h5, h6, h7, h8⟩ := h
  exact ⟨t, h2.cong (fun a j q => hk a j (fun f => by unfold dTR dR dT at f; unfold dS at q; omega)), h3.cong (fun a j q => hk a j (fun f => by unfold dTR dR dT at f; unfold dC at q; omega)), r, h5.cong (fun a j q => hk a j (fun f => by unfold dTR dR dT at f; unfold dD at q; omega)), h6.cong (fun a j q => hk a j (fun f => by unfold dTR dR dT at f; unfold dE at q; omega)), h7.cong (fun a j q => hk a j (fun f => by unfold dTR dR dT at f; unfold dZ at q; omega)), hX I J (fun a j q => hk a j (fun f => by unfold dTR dR dT at f; unfold dX dC at q; omega)) h8⟩
theorem text_r {I : PI} (hN : 20000 ≤ N) (hI : Inv XX I L) : ∃ (x : Int32) (I1 I2 : PI), f_X11_text N 2 I L = some (some (.int x), I1, L) ∧ f_X12_text N 2 I1 L = some (some (.int x), I2, L) ∧ Inv XX I2 L := by
  have hI0 := hI
  obtain ⟨r1, r2, r3, r4, r5, r6, r7, r8⟩ := hI
  obtain ⟨n, T, tI⟩ := r1.tp
  obtain ⟨m, hm, h32, h1221, -⟩ := r3
  have r4' := r4
  obtain ⟨mr, hmr, h86, h1222, hrow⟩ := r4
  obtain ⟨lm, hlm, h74, h1213⟩ := XX.l I r8
  obtain ⟨x, J, a1, a2, a3, a4, h⟩ := restsAll (N := N) (L := L) (s := mr) hN hmr hmr tI h86
  have tJ := tI.cong (dT_RC a2)
  have j86 : J 8 6 = nI mr := (a2 8 6 (by unfold dRC; omega)).trans h86
  have j22 : J 12 22 = nI mr := (a2 12 22 (by unfold dRC; omega)).trans h1222
  have eC : f_X11_text N 2 I L = (if x = (-1 : Int32) then bI (f_X11_keep N 2 J L) (fun x7 I8 L9 => (if x7 = (-1 : Int32) then some (some (.int x7), I8, L9) else bI (f_X10_cutTo N 0 I8 L9) (fun x10 I11 L12 => some (some (.int x7), I11, L12)))) else some (some (.int (-1 : Int32)), J, L)) := by
    unfold f_X11_text f_X11_faultOf
    rw [sort_y2, bI_s, if_neg ne_10, if_neg (show ¬ (2 : Int32) = 0 by decide), if_neg (show ¬ (2 : Int32) = 1 by decide), a1, bI_s, bI_s]
  have eM : ∀ K : PI, f_X12_text N 2 K L = F_X12_text_95 N 2 K L := fun K => by
    unfold f_X12_text F_X12_text_47
    rw [if_neg (show ¬ (2 : Int32) = 0 by decide), if_neg (show ¬ (2 : Int32) = 1 by decide)]
  have scJ : Kp (dSc m lm mr) I J := scR a2 a3 a4
  by_cases hf : mr < 6
  · by_cases hx : x = -1
    · subst hx
      obtain ⟨J2, hJ2⟩ : ∃ Q : PI, Q = uI (uI J 8 6 (nI (mr + 1))) 10 1 0 := ⟨_, rfl⟩
      have cls : f_X11_text N 2 I L = some (some (.int (nI mr)), J2, L) := by
        rw [eC, if_pos rfl]
        unfold f_X11_keep f_X8_keep
        rw [if_neg (show ¬ (2 : Int32) = 1 by decide), if_pos rfl, j86, show (6 : Int32) = nI 6 from rfl, if_pos (nI_lt hf (by omega)), nmW_s, uI_eq, nI_1, nsub1 (by omega), bI_s, bI_s, Nat.add_sub_cancel, if_neg (m_ne' (by omega)), cut0 tJ.1 ((uI_ne (by omega)).trans tJ.2.1), bI_s, hJ2]
      have tm2 : TM J2 n T := tJ.tm.cong0 (by rw [hJ2, uI_ne (by omega), uI_ne (by omega)]) (fun k => by rw [hJ2, uI_ne (by omega), uI_ne (by omega)]) (fun k => by rw [hJ2, uI_ne (by omega), uI_ne (by omega)])
      obtain ⟨K', b1, b2, b3, b4, b5⟩ := h J2 tm2
      obtain ⟨c, c1, c8, c26, c52, crow⟩ := b5 rfl
      have k22 : K' 12 22 = nI mr := (b2 12 22 (by unfold dRM; omega)).trans (by rw [hJ2, uI_ne (by omega), uI_ne (by omega)]; exact j22)
      obtain ⟨K, hK⟩ : ∃ Q : PI, Q = uI (uI K' 12 2 0) 12 22 (nI (mr + 1)) := ⟨_, rfl⟩
      have mod : f_X12_text N 2 J2 L = some (some (.int (nI mr)), K, L) := by
        rw [eM]
        unfold F_X12_text_95
        have i22 : J2 12 22 = nI mr := by rw [hJ2, uI_ne (by omega), uI_ne (by omega)]; exact j22
        rw [if_pos rfl, i22, show (6 : Int32) = nI 6 from rfl, if_neg (nI_ge hf (by omega)), b1, bI_s, if_pos rfl, nmW_s, uI_ne (a := 12) (k := 22) (by omega), k22, nI_1, nmW_s, uI_eq, nsub1 (by omega), Nat.add_sub_cancel, hK]
      have kJ2 : Kp (fun a k => (a = 8 ∧ k = 6) ∨ (a = 10 ∧ k = 1)) J J2 := hJ2 ▸ (Kp.rf.up (Or.inl ⟨rfl, rfl⟩)).up (Or.inr ⟨rfl, rfl⟩)
      have kK : Kp (fun a k => a = 12 ∧ (k = 2 ∨ k = 22)) K' K := hK ▸ (Kp.rf.up (by omega)).up (by omega)
      have kAll : Kp dTR I K := (((a2.mono (fun a k q => by unfold dRC at q; unfold dTR dR; omega)).tr (kJ2.mono (fun a k q => by unfold dTR dR dT; omega))).tr (b2.mono (fun a k q => by unfold dRM at q; unfold dTR dR; omega))).tr (kK.mono (fun a k q => by unfold dTR dR dT; omega))
      have v25 : ∀ k, K 25 k = J 25 k := fun k => by rw [kK 25 k (by omega), b2 25 k (by unfold dRM; omega), kJ2 25 k (by omega)]
      have v26 : ∀ k, K 26 k = J 26 k := fun k => by rw [kK 26 k (by omega), b2 26 k (by unfold dRM; omega), kJ2 26 k (by omega)]
      have v51 : ∀ k, K 51 k = K' 51 k := fun k => kK 51 k (by omega)
      have v52 : ∀ k, K 52 k = K' 52 k := fun k => kK 52 k (by omega)
      have i51 : ∀ k, J2 51 k = I 51 k := fun k => by rw [kJ2 51 k (by omega), a2 51 k (by unfold dRC; omega)]
      have i52 : ∀ k, J2 52 k = I 52 k := fun k => by rw [kJ2 52 k (by omega), a2 52 k (by unfold dRC; omega)]
      have hT : RT K := RT.nil (by rw [kK 10 1 (by omega), b2 10 1 (by unfold dRM; omega), hJ2, uI_eq]) (by rw [hK, uI_ne (by omega), uI_eq])
      have hR : RR K := by
        refine ⟨mr + 1, by omega, ?_, by rw [hK, uI_eq], fun c' hc' => ?_⟩
        · rw [kK 8 6 (by omega), b2 8 6 (by unfold dRM; omega), hJ2, uI_ne (by omega), uI_eq]
        · by_cases e : c' < mr
          · obtain ⟨q, g1, g2, g3, g4, g5⟩ := hrow c' e
            refine ⟨q, g1, g2, ?_, ?_, fun k hk => ?_⟩
            · rw [v26, a4 c' (by omega)]; exact g3
            · rw [v52, b4 c' (by omega), i52]; exact g4
            · obtain ⟨p, p1, p2, p3, p4⟩ := g5 k hk
              refine ⟨p, p1, p2, ?_, ?_⟩
              · rw [v25, a3 25 _ rfl (by omega)]; exact p3
              · rw [v51, b3 _ (by omega), i51]; exact p4
          · have e' : c' = mr := by omega
            subst e'
            refine ⟨c, c1, c8, (v26 _).trans c26, (v52 _).trans c52, fun k hk => ?_⟩
            obtain ⟨p, p1, p2, p3, p4⟩ := crow k hk
            exact ⟨p, p1, p2, (v25 _).trans p3, (v51 _).trans p4⟩
      exact ⟨nI mr, J2, K, cls, mod, hI0.mkTR XX.ok kAll hT hR⟩
    · obtain ⟨K', b1, b2, b3, b4, -⟩ := h J tJ.tm
      refine ⟨-1, J, K', ?_, ?_, hI0.scr XX.sc hm h32 h1221 hlm h74 h1213 hmr h86 (scJ.tr (scRM (Nat.le_refl _) b2 b3 b4))⟩
      · rw [eC, if_neg hx]
      · rw [eM]
        unfold F_X12_text_95
        rw [if_pos rfl, j22, show (6 : Int32) = nI 6 from rfl, if_neg (nI_ge hf (by omega)), b1, bI_s, if_neg hx]
  · have em : mr = 6 := by omega
    refine ⟨-1, J, J, ?_, ?_, hI0.scr XX.sc hm h32 h1221 hlm h74 h1213 hmr h86 scJ⟩
    · rw [eC]
      by_cases hx : x = -1
      · rw [if_pos hx]
        unfold f_X11_keep f_X8_keep
        rw [if_neg (show ¬ (2 : Int32) = 1 by decide), if_pos rfl, j86, em, if_neg (show ¬ nI 6 < (6 : Int32) by decide), bI_s, bI_s, if_pos rfl]
      · rw [if_neg hx]
    · rw [eM]
      unfold F_X12_text_95
      rw [if_pos rfl, j22, em, if_pos (show (6 : Int32) ≤ nI 6 by decide)]
end TXT
