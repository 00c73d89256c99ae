/-! fault: a text is only tried; all that is written lies in rows that nobody reads -/
def dSc (m lm mr a k : Nat) : Prop := (a = 10 ∧ k = 2) ∨ (a = 6 ∧ k = 2) ∨ a = 17 ∨ (a = 12 ∧ (k = 3 ∨ k = 4 ∨ k = 5 ∨ k = 14)) ∨ (a = 15 ∧ 24 * m ≤ k) ∨ (a = 16 ∧ k = m) ∨ (a = 49 ∧ 24 * m ≤ k) ∨ (a = 50 ∧ m ≤ k) ∨ (a = 25 ∧ 8 * mr ≤ k) ∨ (a = 26 ∧ k = mr) ∨ (a = 51 ∧ 8 * mr ≤ k) ∨ (a = 52 ∧ mr ≤ k) ∨ ((a = 40 ∨ a = 41) ∧ 260 * lm ≤ k) ∨ ((a = 42 ∨ a = 43) ∧ lm ≤ k) ∨ ((a = 44 ∨ a = 45 ∨ a = 46) ∧ 90 * lm ≤ k)
def XSc (X : PI → Prop) : Prop := ∀ (I J : PI) (m lm mr : Nat), X I → m ≤ 8 → I 3 2 = nI m → I 12 21 = nI m → lm ≤ 6 → I 7 4 = nI lm → I 12 13 = nI lm → Kp (dSc m lm mr) I J → X J
theorem RC.scr {I J : PI} {m lm mr : Nat} (hm : m ≤ 8) (h1 : I 3 2 = nI m) (k : Kp (dSc m lm mr) I J) (r : RC I) : RC J := by
  obtain ⟨m', r1, r2, r3, r4⟩ := r
  have e : m' = m := (nI_eq (by omega) (by omega)).mp (r2.symm.trans h1)
  subst e
  refine ⟨m', r1, (k 3 2 (by unfold dSc; omega)).trans r2, (k 12 21 (by unfold dSc; omega)).trans r3, fun c hc => ?_⟩
  obtain ⟨n, g1, g2, g3, g4, g5⟩ := r4 c hc
  refine ⟨n, g1, g2, (k 16 c (by unfold dSc; omega)).trans g3, (k 50 c (by unfold dSc; omega)).trans g4, fun q hq => ?_⟩
  obtain ⟨t, t1, t2, t3⟩ := g5 q hq
  exact ⟨t, t1, (k 15 _ (by unfold dSc; omega)).trans t2, (k 49 _ (by unfold dSc; omega)).trans t3⟩
theorem RR.scr {I J : PI} {m lm mr : Nat} (hm : mr ≤ 6) (h1 : I 8 6 = nI mr) (k : Kp (dSc m lm mr) I J) (r : RR I) : RR J := by
  obtain ⟨m', r1, r2, r3, r4⟩ := r
  have e : m' = mr := (nI_eq (by omega) (by omega)).mp (r2.symm.trans h1)
  subst e
  refine ⟨m', r1, (k 8 6 (by unfold dSc; omega)).trans r2, (k 12 22 (by unfold dSc; omega)).trans r3, fun c hc => ?_⟩
  obtain ⟨n, g1, g2, g3, g4, g5⟩ := r4 c hc
  refine ⟨n, g1, g2, (k 26 c (by unfold dSc; omega)).trans g3, (k 52 c (by unfold dSc; omega)).trans g4, fun q hq => ?_⟩
  obtain ⟨t, t1, t2, t3, t4⟩ := g5 q hq
  exact ⟨t, t1, t2, (k 25 _ (by unfold dSc; omega)).trans t3, (k 51 _ (by unfold dSc; omega)).trans t4⟩
theorem Inv.scr {X : PI → Prop} {I J : PI} {L M : PL} {m lm mr : Nat} (hXS : XSc X) (hm : m ≤ 8) (h32 : I 3 2 = nI m) (h1221 : I 12 21 = nI m) (hlm : lm ≤ 6) (h74 : I 7 4 = nI lm) (h1213 : I 12 13 = nI lm) (hmr : mr ≤ 6) (h86 : I 8 6 = nI mr) (k : Kp (dSc m lm mr) I J) (h : Inv X I L) : Inv X J M := by
  obtain ⟨h1, h2, h3, h4, h5, h6, h7, h8⟩ := h
  exact ⟨h1.cong (fun a j q => k a j (fun f => by unfold dSc at f; rcases f with f | f | f | f | f | f | f | f | f | f | f | f | f | f | f <;> (unfold dT at q; omega))), h2.cong (fun a j q => k a j (fun f => by unfold dSc at f; rcases f with f | f | f | f | f | f | f | f | f | f | f | f | f | f | f <;> (unfold dS at q; omega))), h3.scr hm h32 k, h4.scr hmr h86 k, h5.cong (fun a j q => k a j (fun f => by unfold dSc at f; rcases f with f | f | f | f | f | f | f | f | f | f | f | f | f | f | f <;> (unfold dD at q; omega))), h6.cong (fun a j q => k a j (fun f => by unfold dSc at f; rcases f with f | f | f | f | f | f | f | f | f | f | f | f | f | f | f <;> (unfold dE at q; omega))), h7.cong (fun a j q => k a j (fun f => by unfold dSc at f; rcases f with f | f | f | f | f | f | f | f | f | f | f | f | f | f | f <;> (unfold dZ at q; omega))), hXS I J m lm mr h8 hm h32 h1221 hlm h74 h1213 k⟩
theorem scC {I J : PI} {m lm mr : Nat} (k : Kp dCC I J) (h15 : ∀ k, k < 24 * m → J 15 k = I 15 k) (h16 : ∀ k, k ≠ m → J 16 k = I 16 k) : Kp (dSc m lm mr) I J := fun a j q => by
  by_cases ha : a = 15
  · subst ha; exact h15 j (by unfold dSc at q; omega)
  · by_cases hb : a = 16
    · subst hb; exact h16 j (by unfold dSc at q; omega)
    · exact k a j (fun f => f.elim (fun f => q (Or.inl f)) (fun f => f.elim ha hb))
theorem scCM {I J : PI} {m lm mr s : Nat} (hs : m ≤ s) (k : Kp dCM I J) (h15 : ∀ k, k < 24 * s → J 49 k = I 49 k) (h16 : ∀ k, k ≠ s → J 50 k = I 50 k) : Kp (dSc m lm mr) I J := fun a j q => by
  by_cases ha : a = 49
  · subst ha; exact h15 j (by unfold dSc at q; omega)
  · by_cases hb : a = 50
    · subst hb; exact h16 j (by unfold dSc at q; omega)
    · exact k a j (fun f => f.elim (fun f => q (Or.inr (Or.inr (Or.inr (Or.inl ⟨f.1, by omega⟩))))) (fun f => f.elim ha hb))
theorem scR {I J : PI} {m lm mr : Nat} (k : Kp dRC I J) (h15 : ∀ a k, a = 25 → k < 8 * mr → J a k = I a k) (h16 : ∀ k, k ≠ mr → J 26 k = I 26 k) : Kp (dSc m lm mr) I J := fun a j q => by
  by_cases ha : a = 25
  · exact h15 a j ha (by unfold dSc at q; omega)
  · by_cases hb : a = 26
    · subst hb; exact h16 j (by unfold dSc at q; omega)
    · exact k a j (fun f => f.elim (fun f => q (Or.inl f)) (fun f => f.elim ha hb))
theorem scRM {I J : PI} {m lm mr s : Nat} (hs : mr ≤ s) (k : Kp dRM I J) (h15 : ∀ k, k < 8 * s → J 51 k = I 51 k) (h16 : ∀ k, k ≠ s → J 52 k = I 52 k) : Kp (dSc m lm mr) I J := fun a j q => by
  by_cases ha : a = 51
  · subst ha; exact h15 j (by unfold dSc at q; omega)
  · by_cases hb : a = 52
    · subst hb; exact h16 j (by unfold dSc at q; omega)
    · exact k a j (fun f => f.elim (fun f => q (Or.inr (Or.inr (Or.inr (Or.inl ⟨f.1, by omega⟩))))) (fun f => f.elim ha hb))
theorem scL {I J : PI} {m lm mr : Nat} (k : Kp dLC I J) : Kp (dSc m lm mr) I J := k.mono (fun a j q => q.elim (fun f => Or.inl f) (fun q => q.elim (fun f => Or.inr (Or.inl f)) (fun f => Or.inr (Or.inr (Or.inl f)))))
theorem scLM {I J : PI} {m lm mr s : Nat} (hs : lm ≤ s) (k : Kp dLQ I J) (h1 : ∀ j, j < 260 * s → J 40 j = I 40 j ∧ J 41 j = I 41 j) (h2 : ∀ j, j ≠ s → J 42 j = I 42 j ∧ J 43 j = I 43 j) (h3 : ∀ j, j < 90 * s → J 44 j = I 44 j ∧ J 45 j = I 45 j ∧ J 46 j = I 46 j) : Kp (dSc m lm mr) I J := fun a j q => by
  by_cases h40 : a = 40
  · subst h40; exact (h1 j (by unfold dSc at q; omega)).1
  by_cases h41 : a = 41
  · subst h41; exact (h1 j (by unfold dSc at q; omega)).2
  by_cases h42 : a = 42
  · subst h42; exact (h2 j (by unfold dSc at q; omega)).1
  by_cases h43 : a = 43
  · subst h43; exact (h2 j (by unfold dSc at q; omega)).2
  by_cases h44 : a = 44
  · subst h44; exact (h3 j (by unfold dSc at q; omega)).1
  by_cases h45 : a = 45
  · subst h45; exact (h3 j (by unfold dSc at q; omega)).2.1
  by_cases h46 : a = 46
  · subst h46; exact (h3 j (by unfold dSc at q; omega)).2.2
  refine k a j (fun f => ?_)
  rcases f with ((f | f | f | f) | f | f | f | f) | f
  · exact q (Or.inr (Or.inr (Or.inr (Or.inl ⟨f.1, by omega⟩))))
  · exact h40 f
  · exact h41 f
  · exact h42 f
  · exact h43 f
  · exact h44 f
  · exact h45 f
  · exact h46 f
  · exact q (Or.inr (Or.inr (Or.inr (Or.inl ⟨f.1, by omega⟩))))
