theorem case_fault {X : PI → Prop} {N : Nat} (hN : 20000 ≤ N) (hXL : XL X) (hXS : XSc X) (a1 : Int32) : CaseI (Inv X) (f_X11_fault N a1) (f_X12_fault N a1) := by
  intro I L hI
  have hI0 := hI
  obtain ⟨r1, r2, r3, r4, r5, r6, r7, r8⟩ := hI
  obtain ⟨n, T, tI⟩ := r1.tp
  obtain ⟨m, hm, h32, h1221, -⟩ := r3
  obtain ⟨mr, hmr, h86, h1222, -⟩ := r4
  obtain ⟨lm, hlm, h74, h1213⟩ := hXL I r8
  unfold f_X11_fault f_X12_fault
  by_cases e0 : a1 = 0
  · subst e0
    obtain ⟨x, J, K', g1, g2, g3, g4, g5, g6, g7, g8, -⟩ := codesBoth (N := N) (L := L) (s := 8) hN hm (Nat.le_refl _) tI h32
    refine ⟨x, J, L, K', L, (by
      rw [show f_X11_isSort N 0 I L = some (some (.int 1), I, L) from rfl, bI_s, if_neg ne_10]
      unfold f_X11_faultOf
      rw [if_pos rfl, g1, bI_s, bI_s]), (by
      rw [if_pos rfl, show (8 : Int32) = nI 8 from rfl, g2, bI_s]), hI0.scr hXS hm h32 h1221 hlm h74 h1213 hmr h86 ((scC g3 g5 g6).tr (scCM hm g4 g7 g8))⟩
  · by_cases e1 : a1 = 1
    · subst e1
      obtain ⟨x, J, K', g1, g2, g3, g4, g5, g6, g7, -⟩ := lawBoth (N := N) (L := L) (s := 6) hN (Nat.le_refl _) tI
      refine ⟨x, J, L, K', L, (by
        rw [show f_X11_isSort N 1 I L = some (some (.int 1), I, L) from rfl, bI_s, if_neg ne_10]
        unfold f_X11_faultOf
        rw [if_neg e0, if_pos rfl, g1, bI_s, bI_s]), (by
        rw [if_neg e0, if_pos rfl, show (6 : Int32) = nI 6 from rfl, g2, bI_s]), hI0.scr hXS hm h32 h1221 hlm h74 h1213 hmr h86 ((scL g3).tr (scLM hlm g4 g5 g6 g7))⟩
    · by_cases e2 : a1 = 2
      · subst e2
        obtain ⟨x, J, K', g1, g2, g3, g4, g5, g6, g7, g8, -⟩ := restsBoth (N := N) (L := L) (s := 6) hN hmr (Nat.le_refl _) tI h86
        refine ⟨x, J, L, K', L, (by
          rw [show f_X11_isSort N 2 I L = some (some (.int 1), I, L) from rfl, bI_s, if_neg ne_10]
          unfold f_X11_faultOf
          rw [if_neg e0, if_neg e1, g1, bI_s, bI_s]), (by
          rw [if_neg e0, if_neg e1, if_pos rfl, show (6 : Int32) = nI 6 from rfl, g2, bI_s]), hI0.scr hXS hm h32 h1221 hlm h74 h1213 hmr h86 ((scR g3 g5 g6).tr (scRM hmr g4 g7 g8))⟩
      · have hw : f_X11_isSort N a1 I L = some (some (.int 0), I, L) := by
          unfold f_X11_isSort f_X11_within
          rw [gd_k0, gd_k1]
          by_cases h1 : a1 < 0
          · rw [if_pos h1, bI_s, gd01 (Or.inl rfl)]
          · rw [if_neg h1]
            by_cases h2 : 2 < a1
            · rw [if_pos h2, bI_s, gd01 (Or.inl rfl)]
            · exfalso
              rw [Int32.lt_iff_toInt_lt] at h1 h2
              have z0 : (0 : Int32).toInt = 0 := by decide
              have z2 : (2 : Int32).toInt = 2 := by decide
              rw [z0] at h1
              rw [z2] at h2
              have z1 : (1 : Int32).toInt = 1 := by decide
              have hc : a1.toInt = 0 ∨ a1.toInt = 1 ∨ a1.toInt = 2 := by omega
              rcases hc with h | h | h
              · exact e0 (Int32.toInt_inj.mp (h.trans z0.symm))
              · exact e1 (Int32.toInt_inj.mp (h.trans z1.symm))
              · exact e2 (Int32.toInt_inj.mp (h.trans z2.symm))
        exact ⟨-2, I, L, I, L, (by rw [hw, bI_s, if_pos rfl]), (by rw [if_neg e0, if_neg e1, if_neg e2]), hI0⟩
