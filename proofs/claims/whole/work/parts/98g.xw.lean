/-! weights by a law, alike in both -/
def XA (I : PI) (lm : Nat) : Prop := ∀ i, i < lm → ∃ (cs : List (List (Nat × Nat) × List (Nat × Nat))) (len : Nat), GCs cs ∧ I 19 i = nI len ∧ len ≤ 120 ∧ clR (I 18) (120 * i) cs (120 * i + len) ∧ moR I i 0 0 cs ∧ I 43 i = nI cs.length ∧ cs.length ≤ 61
def reA (u : Nat) : Int32 := if u = 0 then 1 else if u = 2 then -1 else 0
def imA (u : Nat) : Int32 := if u = 1 then 1 else if u = 3 then -1 else 0
def lsA (k n u : Nat) (i : Nat) : Int32 := if i = 0 then nI k else if i = 1 then nI n else if i = 2 then reA u else imA u
def cl9 (x : Int32) : Int32 := jmax (-9) (jmin 9 x)
section LAWU
variable {N : Nat} {L : PL}
theorem i64_lt {a b : Int32} : (Int32.toInt64 a < Int32.toInt64 b) ↔ a < b := by
  rw [Int64.lt_iff_toInt_lt, Int32.toInt_toInt64, Int32.toInt_toInt64, ← Int32.lt_iff_toInt_lt]
theorem held9 {x : Int32} {I : PI} : f_X7_held N (Int32.toInt64 x) 9 I L = some (some (.int (cl9 x)), I, L) := by
  unfold f_X7_held cl9 jmaxJ jminJ jmax jmin
  rw [show (-(9 : Int32)) = -9 from rfl]
  by_cases h : x < 9
  · rw [if_pos (i64_lt.mpr h), if_pos h]
    by_cases h2 : x < -9
    · have h3 : ¬ (-9 : Int32) < x := fun q => by
        rw [Int32.lt_iff_toInt_lt] at h2 q
        omega
      rw [if_pos (i64_lt.mpr h2), if_neg h3, show Int64.toInt32 (Int32.toInt64 (-9)) = -9 by decide +kernel]
    · rw [if_neg (fun q => h2 (i64_lt.mp q)), Int32.toInt32_toInt64]
      by_cases h3 : (-9 : Int32) < x
      · rw [if_pos h3]
      · rw [if_neg h3]
        have : x = -9 := by
          apply Int32.toInt_inj.mp
          rw [Int32.lt_iff_toInt_lt] at h2 h3
          omega
        rw [this]
  · rw [if_neg (fun q => h (i64_lt.mp q)), if_neg h, if_neg (fun q => absurd (i64_lt.mp q) (by decide)), if_pos (show (-9 : Int32) < 9 by decide), show Int64.toInt32 (Int32.toInt64 9) = 9 by decide +kernel]
theorem u4 {u : Nat} (h : u < 4) : u = 0 ∨ u = 1 ∨ u = 2 ∨ u = 3 := by omega
theorem weightC {law lm k n u : Nat} {cs : List (List (Nat × Nat) × List (Nat × Nat))} {len : Nat} {I : PI} (hN : 20000 ≤ N) (hl : law < lm) (hlm : lm ≤ 6) (h74 : I 7 4 = nI lm) (hu : u < 4) (hg : GCs cs) (h19 : I 19 law = nI len) (hlen : len ≤ 120) (hr : clR (I 18) (120 * law) cs (120 * law + len)) : ∃ J, f_X7_weightOf N (nI law) (nI k) (nI n) (nI u) I L = some (some (.int (cl9 (worthL (lsA k n u) cs))), J, L) ∧ Kp dSk I J := by
  have core : ∃ J, F_X7_weightOf_57 N (nI law) (nI k) (nI n) (reA u) (imA u) I L = some (some (.int (cl9 (worthL (lsA k n u) cs))), J, L) ∧ Kp dSk I J := by
    unfold F_X7_weightOf_57 f_X7_worth
    rw [nmW_s]
    have kU : Kp dSk I (uI I 7 3 0) := Kp.rf.up (by unfold dSk; omega)
    obtain ⟨J, g1, g2⟩ := lawC (N := N) (L := L) (ls := lsA k n u) (v := law) (by omega) hlen cs 0 N (uI I 7 3 0) (by omega) ((kU 19 law (by unfold dSk; omega)).trans h19) (clR_cong cs (fun j _ _ => kU 18 j (by unfold dSk; omega)) hr) hg ⟨uI_eq, trivial, Nat.zero_le _⟩
    have g1' : F_X7_worth_35 N N (nI law) (nI k) (nI n) (reA u) (imA u) (nI len) 0 (uI I 7 3 0) L = some (some (.int (worthL (lsA k n u) cs)), J, L) := g1
    rw [if_neg (nI_nl0 (by omega)), show (6 : Int32) = nI 6 from rfl, if_neg (nI_ge (by omega) (by omega)), gd_in (by omega) (by omega), nI_clamp (by omega), (kU 19 law (by unfold dSk; omega)).trans h19, show (120 : Int32) = nI 120 from rfl, jmin_l hlen (by omega), nmI_s, g1', bI_s, held9, bI_s]
    exact ⟨J, rfl, kU.tr g2⟩
  unfold f_X7_weightOf
  rw [if_neg (nI_pos (by omega)), h74, if_pos (nI_lt hl (by omega))]
  unfold F_X7_weightOf_34
  rcases u4 hu with rfl | rfl | rfl | rfl
  · rw [if_pos (show nI 0 = (0 : Int32) from rfl), if_neg (show ¬ nI 0 = (1 : Int32) by decide), if_neg (show ¬ nI 0 = (3 : Int32) by decide)]
    exact core
  · rw [if_neg (show ¬ nI 1 = (0 : Int32) by decide), if_neg (show ¬ nI 1 = (2 : Int32) by decide), if_pos (show nI 1 = (1 : Int32) from rfl)]
    exact core
  · rw [if_neg (show ¬ nI 2 = (0 : Int32) by decide), if_pos (show nI 2 = (2 : Int32) from rfl), if_neg (show ¬ nI 2 = (1 : Int32) by decide), if_neg (show ¬ nI 2 = (3 : Int32) by decide)]
    exact core
  · rw [if_neg (show ¬ nI 3 = (0 : Int32) by decide), if_neg (show ¬ nI 3 = (2 : Int32) by decide), if_neg (show ¬ nI 3 = (1 : Int32) by decide), if_pos (show nI 3 = (3 : Int32) from rfl)]
    exact core
theorem part_1 {u : Nat} {I : PI} (hu : u < 4) : f_X12_partOf N (nI u) 1 I L = some (some (.int (reA u)), I, L) := by
  rcases u4 hu with rfl | rfl | rfl | rfl <;> rfl
theorem part_0 {u : Nat} {I : PI} (hu : u < 4) : f_X12_partOf N (nI u) 0 I L = some (some (.int (imA u)), I, L) := by
  rcases u4 hu with rfl | rfl | rfl | rfl <;> rfl
theorem weightM {law c k n u : Nat} {cs : List (List (Nat × Nat) × List (Nat × Nat))} {I : PI} (hN : 20000 ≤ N) (hl : law < 6) (hc : c < 8) (hk : k < 24) (hu : u < 4) (hg : GCs cs) (h49 : I 49 (24 * c + k) = nI u) (h50 : I 50 c = nI n) (hm : moR I law 0 0 cs) (h43 : I 43 law = nI cs.length) (hcs : cs.length ≤ 61) (htl : tl cs ≤ 120) : ∃ J, f_X12_weightOf N (nI c) (nI law) (nI k) I L = some (some (.int (cl9 (worthL (lsA k n u) cs))), J, L) ∧ Kp dV I J := by
  unfold f_X12_weightOf
  rw [if_neg (m_ne' (by omega)), show (24 : Int32) = nI 24 from rfl, pk_mul, nI_add, gd_in (by omega) (by omega), nI_clamp (by omega), h49, nmI_s, gd_in0 (by omega) (by omega), nmW_s, gd_in (by omega) (by omega), gd_in1 (by omega) (by omega), nI_clamp (n := c) (by omega), uI_ne (by omega), h50, nmW_s, part_1 hu, bI_s, show (2 : Int32) = nI 2 from rfl, gd_in (by omega) (by omega), nmW_s, part_0 hu, bI_s, show (3 : Int32) = nI 3 from rfl, gd_in (by omega) (by omega), nmW_s]
  have z0 : (0 : Int32).toNatClampNeg = 0 := rfl
  have z1 : (1 : Int32).toNatClampNeg = 1 := rfl
  rw [z0, z1, nI_clamp (n := 2) (by omega), nI_clamp (n := 3) (by omega)]
  obtain ⟨I2, hI2⟩ : ∃ Q : PI, Q = uI (uI (uI (uI I 47 0 (nI k)) 47 1 (nI n)) 47 2 (reA u)) 47 3 (imA u) := ⟨_, rfl⟩
  rw [← hI2]
  have kV : Kp dV I I2 := hI2 ▸ (((Kp.rf.up (by unfold dV; omega)).up (by unfold dV; omega)).up (by unfold dV; omega)).up (by unfold dV; omega)
  have h47 : ∀ i, i < 4 → I2 47 i = lsA k n u i := by
    intro i hi
    rcases u4 hi with rfl | rfl | rfl | rfl
    · rw [hI2, uI_ne (by omega), uI_ne (by omega), uI_ne (by omega), uI_eq]; rfl
    · rw [hI2, uI_ne (by omega), uI_ne (by omega), uI_eq]; rfl
    · rw [hI2, uI_ne (by omega), uI_eq]; rfl
    · rw [hI2, uI_eq]; rfl
  obtain ⟨J, g1, g2⟩ := lawM (N := N) (L := L) (ls := lsA k n u) (s := law) hN (by omega) cs 0 0 N I2 (moR_cong (fun a j ha => kV a j (by unfold dV; omega)) cs hm) ((kV 43 law (by unfold dV; omega)).trans (by rw [h43, Nat.zero_add])) (by omega) (by omega) hg h47 (by omega)
  unfold f_X12_worthOf
  rw [show (90 : Int32) = nI 90 from rfl, pk_mul, nmI_s]
  have g1' : F_X12_worthOf_5 N N (nI law) (nI (90 * law)) I2 L = some (some (.int (worthL (lsA k n u) cs)), J, L) := g1
  rw [g1', bI_s]
  exact ⟨J, rfl, kV.tr (g2.mono (fun a j q => by unfold d48 at q; unfold dV; omega))⟩
theorem wl_cases {law : Int32} {lm : Nat} (hlm : lm ≤ 6) (h : wl law lm = true) : law = -1 ∨ ∃ i, i < lm ∧ law = nI i := by
  unfold wl wi at h
  rw [Bool.and_eq_true] at h
  have h1 := of_decide_eq_true h.1
  have h2 := of_decide_eq_true h.2
  rw [Int32.le_iff_toInt_le] at h1 h2
  rw [nIm1 (by omega)] at h2
  have e1 : (-1 : Int32).toInt = -1 := by decide
  rw [e1] at h1
  by_cases h0 : law.toInt = -1
  · exact Or.inl (Int32.toInt_inj.mp (by rw [h0, e1]))
  · refine Or.inr ⟨law.toInt.toNat, by omega, Int32.toInt_inj.mp ?_⟩
    rw [nI_toInt (by omega)]
    omega
/-- the row XW of part 71, from the laws as they are kept -/
theorem XA.xw {X : PI → Prop} (hN : 20000 ≤ N) (hX : ∀ I, X I → ∀ lm, lm ≤ 6 → I 7 4 = nI lm → I 12 13 = nI lm → XA I lm) : XW X N := by
  intro I L m lm n S r hx hlm h1 h2 law hw
  have ha := hX I hx lm hlm h1 h2
  rcases wl_cases hlm hw with rfl | ⟨i, hi, rfl⟩
  · exact ⟨_, WT.none⟩
  · obtain ⟨cs, len, g1, g2, g3, g4, g5, g6, g7⟩ := ha i hi
    have htl := clR_tl cs g4
    refine ⟨fun c k => cl9 (worthL (lsA k (n c) (S c k)) cs), fun c k hc hk => ⟨fun I' hI => ?_, fun I' hI => ?_⟩⟩
    · obtain ⟨q1, q2, q3, q4, q5⟩ := r.2.2.2 c hc
      obtain ⟨J, p1, p2⟩ := weightC (N := N) (L := L) (k := k) (n := n c) hN hi hlm ((hI 7 4 (by unfold dG; omega)).trans h1) (q5 k hk).1 g1 ((hI 19 i (by unfold dG; omega)).trans g2) g3 (clR_cong cs (fun j _ _ => hI 18 j (by unfold dG; omega)) g4)
      exact ⟨J, p1, p2.mono (fun a j q => by unfold dSk at q; unfold dV; omega)⟩
    · obtain ⟨q1, q2, q3, q4, q5⟩ := r.2.2.2 c hc
      have hm := r.1
      obtain ⟨J, p1, p2⟩ := weightM (N := N) (L := L) (law := i) (c := c) (k := k) (n := n c) (u := S c k) hN (by omega) (by omega) (by omega) (q5 k hk).1 g1 ((hI 49 _ (by unfold dG; omega)).trans (q5 k hk).2.2) ((hI 50 c (by unfold dG; omega)).trans q4) (moR_cong (fun a j ha => hI a j (by unfold dG; omega)) cs g5) ((hI 43 i (by unfold dG; omega)).trans g6) g7 (by omega)
      exact ⟨J, p1, p2⟩
end LAWU
