/-! X: the laws as kept, what was learned of the codes, the best codes and filters found -/
def XX (I : PI) : Prop := (∃ lm, lm ≤ 6 ∧ I 7 4 = nI lm ∧ I 12 13 = nI lm ∧ XA I lm) ∧ (∀ (m : Nat) (n : Nat → Nat) (S : Nat → Nat → Nat), CSet I m n S → XHi I m n S) ∧ XB1 I ∧ (∀ (m : Nat) (n : Nat → Nat) (S : Nat → Nat → Nat), CSet I m n S → XF1 I m n S)
theorem moR_cr {K K2 : PI} {s : Nat} (h1 : ∀ j, j < 260 * (s + 1) → K2 40 j = K 40 j ∧ K2 41 j = K 41 j) (h2 : ∀ j, j < 90 * (s + 1) → K2 44 j = K 44 j ∧ K2 45 j = K 45 j ∧ K2 46 j = K 46 j) : ∀ (cs : List (List (Nat × Nat) × List (Nat × Nat))) {c k : Nat}, c + tl cs ≤ 260 → k + cs.length ≤ 90 → moR K s c k cs → moR K2 s c k cs
  | [], _, _, _, _, _ => trivial
  | t :: cs, c, k, hc, hk, g => by
    have hc' : c + (t.1.length + t.2.length + tl cs) ≤ 260 := hc
    rw [List.length_cons] at hk
    obtain ⟨g1, g2, g3, g4, g5, g6⟩ := g
    have hl : (t.1 ++ t.2).length = t.1.length + t.2.length := List.length_append
    obtain ⟨q1, q2, q3⟩ := h2 (90 * s + k) (by omega)
    exact ⟨q1.trans g1, q2.trans g2, q3.trans g3, seg_cong (t.1 ++ t.2) (fun j hj => (h1 j (by omega)).1) g4, seg_cong (t.1 ++ t.2) (fun j hj => (h1 j (by omega)).2) g5, moR_cr h1 h2 cs (by omega) (by omega) g6⟩
/-- a law's rows, unchanged up to that law -/
theorem XA.cr {I J : PI} {lm : Nat} (h19 : ∀ j, j < lm → J 19 j = I 19 j ∧ J 43 j = I 43 j) (h18 : ∀ j, j < 120 * lm → J 18 j = I 18 j) (h1 : ∀ j, j < 260 * lm → J 40 j = I 40 j ∧ J 41 j = I 41 j) (h2 : ∀ j, j < 90 * lm → J 44 j = I 44 j ∧ J 45 j = I 45 j ∧ J 46 j = I 46 j) (x : XA I lm) : XA J lm := by
  intro i hi
  obtain ⟨cs, len, g1, g2, g3, g4, g5, g6, g7⟩ := x i hi
  have htl := clR_tl cs g4
  exact ⟨cs, len, g1, (h19 i hi).1.trans g2, g3, clR_cong cs (fun j _ hj => h18 j (by omega)) g4, moR_cr (fun j hj => h1 j (by omega)) (fun j hj => h2 j (by omega)) cs (by omega) (by omega) g5, (h19 i hi).2.trans g6, g7⟩
theorem XHi.cong {I J : PI} {m : Nat} {n : Nat → Nat} {S : Nat → Nat → Nat} (h : ∀ k, J 22 k = I 22 k) (x : XHi I m n S) : XHi J m n S := fun a b ha hb => by
  rw [h]
  exact x a b ha hb
theorem XB1.cong {I J : PI} (h : ∀ k, J 23 k = I 23 k) (x : XB1 I) : XB1 J := fun l h1 h2 => by
  rw [h, h, h, h]
  exact x l h1 h2
theorem XF1.cong {I J : PI} {m : Nat} {n : Nat → Nat} {S : Nat → Nat → Nat} (h : ∀ k, J 24 k = I 24 k) (x : XF1 I m n S) : XF1 J m n S := fun c hc => by
  unfold V24
  rw [h, h, h, h]
  exact x c hc
theorem XX.ok : Xok XX := by
  intro I J h x
  obtain ⟨⟨lm, x1, x2, x3, x4⟩, x5, x6, x7⟩ := x
  have hb : ∀ (m : Nat) (n : Nat → Nat) (S : Nat → Nat → Nat), CSet J m n S → CSet I m n S := fun m n S r => r.cong (fun a k hc => (h a k (Or.inl hc)).symm)
  refine ⟨⟨lm, x1, (h 7 4 (by unfold dX; omega)).trans x2, (h 12 13 (by unfold dX; omega)).trans x3, x4.cr (fun j _ => ⟨h 19 j (by unfold dX; omega), h 43 j (by unfold dX; omega)⟩) (fun j _ => h 18 j (by unfold dX; omega)) (fun j _ => ⟨h 40 j (by unfold dX; omega), h 41 j (by unfold dX; omega)⟩) (fun j _ => ⟨h 44 j (by unfold dX; omega), h 45 j (by unfold dX; omega), h 46 j (by unfold dX; omega)⟩)⟩, fun m n S r => (x5 m n S (hb m n S r)).cong (fun k => h 22 k (by unfold dX; omega)), x6.cong (fun k => h 23 k (by unfold dX; omega)), fun m n S r => (x7 m n S (hb m n S r)).cong (fun k => h 24 k (by unfold dX; omega))⟩
theorem XX.l : XL XX := fun I x => by
  obtain ⟨⟨lm, x1, x2, x3, -⟩, -⟩ := x
  exact ⟨lm, x1, x2, x3⟩
theorem XX.w {N : Nat} (hN : 20000 ≤ N) : XW XX N := XA.xw hN (fun I x lm hl h1 h2 => by
  obtain ⟨⟨lm', x1, x2, x3, x4⟩, -⟩ := x
  have e : lm' = lm := (nI_eq (by omega) (by omega)).mp (x2.symm.trans h1)
  rw [← e]
  exact x4)
theorem XX.h : XH XX := fun I m n S x r => x.2.1 m n S r
theorem XX.b : XBo XX := by
  refine ⟨fun I x => x.2.2.1, fun I J x k hb => ?_⟩
  obtain ⟨⟨lm, x1, x2, x3, x4⟩, x5, x6, x7⟩ := x
  have hC : ∀ (m : Nat) (n : Nat → Nat) (S : Nat → Nat → Nat), CSet J m n S → CSet I m n S := fun m n S r => r.cong (fun a j hc => (k a j (by unfold dK; unfold dC at hc; omega)).symm)
  exact ⟨⟨lm, x1, (k 7 4 (by unfold dK; omega)).trans x2, (k 12 13 (by unfold dK; omega)).trans x3, x4.cr (fun j _ => ⟨k 19 j (by unfold dK; omega), k 43 j (by unfold dK; omega)⟩) (fun j _ => k 18 j (by unfold dK; omega)) (fun j _ => ⟨k 40 j (by unfold dK; omega), k 41 j (by unfold dK; omega)⟩) (fun j _ => ⟨k 44 j (by unfold dK; omega), k 45 j (by unfold dK; omega), k 46 j (by unfold dK; omega)⟩)⟩, fun m n S r => (x5 m n S (hC m n S r)).cong (fun j => k 22 j (by unfold dK; omega)), hb, fun m n S r => (x7 m n S (hC m n S r)).cong (fun j => k 24 j (by unfold dK; omega))⟩
/-! the best filter of a code speaks of its own signs alone -/
theorem tmW_cg {w : Nat → Int32} {s s' t t' : Nat → Nat} {nt k : Nat} {way : Int} {sp r : Int32} (hs : s k = s' k) (ht : ∀ x, x < nt → t x = t' x) : tmW w s t nt way sp r k = tmW w s' t' nt way sp r k := by
  unfold tmW
  by_cases h : 0 ≤ (k : Int) - way ∧ (k : Int) - way < nt
  · rw [if_pos h, if_pos h]
    unfold trn
    rw [hs, ht _ (by omega)]
  · rw [if_neg h, if_neg h]
theorem pwC_cg {w : Nat → Int32} {s s' : Nat → Nat} {l : Nat} {q : Int × Nat} (h : ∀ k, k < l → s k = s' k) : pwC w s l q = pwC w s' l q := by
  unfold pwC pwW meW
  rw [sumW_congr (f := tmW w s s l q.1 (nI q.2) 1) (g := tmW w s' s' l q.1 (nI q.2) 1) l (fun k hk => tmW_cg (h k hk) h), sumW_congr (f := tmW w s s l q.1 (nI q.2) 0) (g := tmW w s' s' l q.1 (nI q.2) 0) l (fun k hk => tmW_cg (h k hk) h)]
theorem fiB_cg {l : Nat} {s s' : Nat → Nat} (h : ∀ k, k < l → s k = s' k) : ∀ x, fiB l s x = fiB l s' x := by
  have hp : ∀ x, pN l s x = pN l s' x := fun x => funext fun z => by
    unfold pN
    rw [pwC_cg h]
  intro x
  induction x with
  | zero => rfl
  | succ x ih =>
    show stF l s x (fiB l s x) = stF l s' x (fiB l s' x)
    rw [ih]
    unfold stF loN sdN pkN
    rw [hp]
theorem CSet.uni {I J : PI} {m m' : Nat} {n n' : Nat → Nat} {S S' : Nat → Nat → Nat} (k : ∀ a j, dC a j → J a j = I a j) (r : CSet I m n S) (r' : CSet J m' n' S') : m' = m ∧ ∀ c, c < m → n' c = n c ∧ ∀ k, k < n c → S' c k = S c k := by
  have q := r'.cong (J := I) (fun a j h => (k a j h).symm)
  obtain ⟨h1, h2, h3, h4⟩ := r
  obtain ⟨g1, g2, g3, g4⟩ := q
  have em : m' = m := (nI_eq (by omega) (by omega)).mp (g2.symm.trans h2)
  refine ⟨em, fun c hc => ?_⟩
  obtain ⟨a1, a2, a3, a4, a5⟩ := h4 c hc
  obtain ⟨b1, b2, b3, b4, b5⟩ := g4 c (by omega)
  have en : n' c = n c := (nI_eq (by omega) (by omega)).mp (b3.symm.trans a3)
  refine ⟨en, fun k hk => ?_⟩
  obtain ⟨u1, u2, u3⟩ := a5 k hk
  obtain ⟨v1, v2, v3⟩ := b5 k (by omega)
  exact (nI_eq (by omega) (by omega)).mp (v2.symm.trans u2)
theorem XX.f : XFo XX := by
  refine ⟨fun I m n S x r => x.2.2.2 m n S r, fun I J m n S x r k hf => ?_⟩
  obtain ⟨⟨lm, x1, x2, x3, x4⟩, x5, x6, x7⟩ := x
  have kC : ∀ a j, dC a j → J a j = I a j := fun a j hc => k a j (by unfold dG; unfold dC at hc; omega)
  have hC : ∀ (m : Nat) (n : Nat → Nat) (S : Nat → Nat → Nat), CSet J m n S → CSet I m n S := fun m n S r => r.cong (fun a j hc => (kC a j hc).symm)
  refine ⟨⟨lm, x1, (k 7 4 (by unfold dG; omega)).trans x2, (k 12 13 (by unfold dG; omega)).trans x3, x4.cr (fun j _ => ⟨k 19 j (by unfold dG; omega), k 43 j (by unfold dG; omega)⟩) (fun j _ => k 18 j (by unfold dG; omega)) (fun j _ => ⟨k 40 j (by unfold dG; omega), k 41 j (by unfold dG; omega)⟩) (fun j _ => ⟨k 44 j (by unfold dG; omega), k 45 j (by unfold dG; omega), k 46 j (by unfold dG; omega)⟩)⟩, fun m n S r => (x5 m n S (hC m n S r)).cong (fun j => k 22 j (by unfold dG; omega)), x6.cong (fun j => k 23 j (by unfold dG; omega)), fun m' n' S' r' c hc => ?_⟩
  obtain ⟨e1, e2⟩ := r.uni kC r'
  rcases hf c hc with h | ⟨h1, h2, h3⟩
  · exact Or.inl h
  · obtain ⟨e3, e4⟩ := e2 c h1
    refine Or.inr ⟨by omega, by omega, ?_⟩
    rw [e3, fiB_cg (s := S' c) (s' := S c) (fun k hk => e4 k hk)]
    exact h3
theorem CSet.scr {I J : PI} {m lm mr m' : Nat} {n : Nat → Nat} {S : Nat → Nat → Nat} (hm : m ≤ 8) (h1 : I 3 2 = nI m) (h2 : I 12 21 = nI m) (k : Kp (dSc m lm mr) I J) (r : CSet J m' n S) : CSet I m' n S := by
  obtain ⟨g1, g2, g3, g4⟩ := r
  have e : m' = m := (nI_eq (by omega) (by omega)).mp (g2.symm.trans ((k 3 2 (by unfold dSc; omega)).trans h1))
  subst e
  refine ⟨hm, h1, h2, fun c hc => ?_⟩
  obtain ⟨b1, b2, b3, b4, b5⟩ := g4 c hc
  refine ⟨b1, b2, (k 16 c (by unfold dSc; omega)).symm.trans b3, (k 50 c (by unfold dSc; omega)).symm.trans b4, fun j hj => ?_⟩
  obtain ⟨t1, t2, t3⟩ := b5 j hj
  exact ⟨t1, (k 15 _ (by unfold dSc; omega)).symm.trans t2, (k 49 _ (by unfold dSc; omega)).symm.trans t3⟩
theorem XX.sc : XSc XX := by
  intro I J m lm mr x hm h32 h1221 hlm h74 h1213 k
  obtain ⟨⟨lm', x1, x2, x3, x4⟩, x5, x6, x7⟩ := x
  have e : lm' = lm := (nI_eq (by omega) (by omega)).mp (x2.symm.trans h74)
  subst e
  refine ⟨⟨lm', hlm, (k 7 4 (by unfold dSc; omega)).trans h74, (k 12 13 (by unfold dSc; omega)).trans h1213, x4.cr (fun j hj => ⟨k 19 j (by unfold dSc; omega), k 43 j (by unfold dSc; omega)⟩) (fun j _ => k 18 j (by unfold dSc; omega)) (fun j hj => ⟨k 40 j (by unfold dSc; omega), k 41 j (by unfold dSc; omega)⟩) (fun j hj => ⟨k 44 j (by unfold dSc; omega), k 45 j (by unfold dSc; omega), k 46 j (by unfold dSc; omega)⟩)⟩, fun m n S r => (x5 m n S (r.scr hm h32 h1221 k)).cong (fun j => k 22 j (by unfold dSc; omega)), x6.cong (fun j => k 23 j (by unfold dSc; omega)), fun m n S r => (x7 m n S (r.scr hm h32 h1221 k)).cong (fun j => k 24 j (by unfold dSc; omega))⟩
