/-! beams: added, in both -/
theorem ins_sor {w : Nat → Nat} {n i v : Nat} (w1 : ∀ i j, i < j → j < n → w i ≤ w j) (h1 : i = 0 ∨ w (i - 1) ≤ v) (h2 : ∀ k, i ≤ k → k < n → v < w k) (hi : i ≤ n) : ∀ a b, a < b → b < n + 1 → insAt w i v a ≤ insAt w i v b := by
  intro a b hab hb
  by_cases hb1 : b < i
  · rw [insAt_lt hb1, insAt_lt (by omega)]
    exact w1 a b hab (by omega)
  · by_cases hb2 : b = i
    · subst hb2
      rw [insAt_eq, insAt_lt (by omega)]
      rcases h1 with h1 | h1
      · omega
      · by_cases ha : a = b - 1
        · rw [ha]; exact h1
        · have := w1 a (b - 1) (by omega) (by omega)
          omega
    · rw [insAt_gt (k := b) (by omega)]
      have q := h2 (b - 1) (by omega) (by omega)
      by_cases ha : a < i
      · rw [insAt_lt ha]
        by_cases ha3 : a = b - 1
        · rw [ha3]; exact Nat.le_refl _
        · exact w1 a (b - 1) (by omega) (by omega)
      · by_cases ha2 : a = i
        · rw [ha2, insAt_eq]; omega
        · rw [insAt_gt (by omega)]
          exact w1 (a - 1) (b - 1) (by omega) (by omega)
def BS (I : PI) (m : Nat) (T D W d : Nat → Nat) : Prop := m ≤ 8 ∧ I 0 4 = nI m ∧ I 12 50 = nI m ∧ (∀ k, k < m → I 35 k = nI (T k) ∧ I 60 k = nI (T k) ∧ 1 ≤ T k ∧ T k ≤ 20) ∧ (∀ k, k < m → I 36 k = nI (D k) ∧ I 61 k = nI (D k) ∧ 1 ≤ D k ∧ D k ≤ 99) ∧ (∀ k, k < m → I 37 k = nI (W k) ∧ I 62 k = nI (W k) ∧ W k ≤ 99) ∧ (∀ i, i < m → I 38 i = nI (d i) ∧ d i < m) ∧ (∀ i j, i < j → j < m → d i ≠ d j) ∧ ∀ i j, i < j → j < m → D (d i) ≤ D (d j)
theorem getD_range {f : Nat → Nat} {n i : Nat} (h : i < n) : ((List.range n).map f).getD i 0 = f i := by
  rw [List.getD_eq_getElem?_getD, List.getElem?_map, List.getElem?_range h]
  rfl
theorem BS.re {I : PI} {m : Nat} {T D W d : Nat → Nat} (b : BS I m T D W d) : RE I := by
  obtain ⟨h1, h2, h3, h4, h5, h6, h7, h8, h9⟩ := b
  refine ⟨m, h1, h2, h3, fun k hk => ⟨⟨T k, (h4 k hk).2.2.1, (h4 k hk).2.2.2, (h4 k hk).1, (h4 k hk).2.1⟩, ⟨D k, (h5 k hk).2.2.1, (h5 k hk).2.2.2, (h5 k hk).1, (h5 k hk).2.1⟩, ⟨W k, (h6 k hk).2.2, (h6 k hk).1, (h6 k hk).2.1⟩⟩, (List.range m).map d, ?_, ?_, ?_, fun i hi => ?_, fun i j hi hj => ?_⟩
  · rw [List.length_map, List.length_range]
  · exact List.pairwise_map.mpr (List.Pairwise.imp_of_mem (fun {a b} _ hb hab => h8 a b hab (List.mem_range.mp hb)) List.pairwise_lt_range)
  · intro x hx
    obtain ⟨i, hi, rfl⟩ := List.mem_map.mp hx
    exact (h7 i (List.mem_range.mp hi)).2
  · rw [getD_range hi]; exact (h7 i hi).1
  · rw [getD_range hj, getD_range (by omega : i < m), (h5 _ (h7 i (by omega)).2).1, (h5 _ (h7 j hj).2).1]
    have := (h5 _ (h7 j hj).2).2.2.2
    exact nI_le (h9 i j hi hj) (by omega)
theorem RE.bs {I : PI} (r : RE I) : ∃ (m : Nat) (T D W d : Nat → Nat), BS I m T D W d := by
  obtain ⟨m, h1, h2, h3, h4, q, q1, q2, q3, q4, q5⟩ := r
  have hq : ∀ i, i < m → q.getD i 0 < m := fun i hi => by
    rw [List.getD_eq_getElem?_getD, List.getElem?_eq_getElem (by omega), Option.getD_some]
    exact q3 _ (List.getElem_mem _)
  have hD : ∀ k, k < m → 1 ≤ (I 36 k).toNatClampNeg ∧ (I 36 k).toNatClampNeg ≤ 99 ∧ I 36 k = nI (I 36 k).toNatClampNeg ∧ I 61 k = nI (I 36 k).toNatClampNeg := fun k hk => by
    obtain ⟨-, ⟨u, u1, u2, u3, u4⟩, -⟩ := h4 k hk
    rw [u3, nI_clamp (by omega)]
    exact ⟨u1, u2, rfl, u4⟩
  refine ⟨m, fun k => (I 35 k).toNatClampNeg, fun k => (I 36 k).toNatClampNeg, fun k => (I 37 k).toNatClampNeg, fun i => q.getD i 0, h1, h2, h3, fun k hk => ?_, fun k hk => ⟨(hD k hk).2.2.1, (hD k hk).2.2.2, (hD k hk).1, (hD k hk).2.1⟩, fun k hk => ?_, fun i hi => ⟨q4 i hi, hq i hi⟩, fun i j hi hj => ?_, fun i j hi hj => ?_⟩
  · obtain ⟨⟨u, u1, u2, u3, u4⟩, -⟩ := h4 k hk
    show I 35 k = nI (I 35 k).toNatClampNeg ∧ I 60 k = nI (I 35 k).toNatClampNeg ∧ 1 ≤ (I 35 k).toNatClampNeg ∧ (I 35 k).toNatClampNeg ≤ 20
    rw [u3, nI_clamp (by omega)]
    exact ⟨rfl, u4, u1, u2⟩
  · obtain ⟨-, -, ⟨u, u2, u3, u4⟩⟩ := h4 k hk
    show I 37 k = nI (I 37 k).toNatClampNeg ∧ I 62 k = nI (I 37 k).toNatClampNeg ∧ (I 37 k).toNatClampNeg ≤ 99
    rw [u3, nI_clamp (by omega)]
    exact ⟨rfl, u4, u2⟩
  · have := (List.pairwise_iff_getElem.mp q2) i j (by omega) (by omega) hi
    show q.getD i 0 ≠ q.getD j 0
    rw [List.getD_eq_getElem?_getD, List.getD_eq_getElem?_getD, List.getElem?_eq_getElem (by omega), List.getElem?_eq_getElem (by omega), Option.getD_some, Option.getD_some]
    exact this
  · have := q5 i j hi hj
    show (I 36 (q.getD i 0)).toNatClampNeg ≤ (I 36 (q.getD j 0)).toNatClampNeg
    have e1 := hD _ (hq i (by omega))
    have e2 := hD _ (hq j hj)
    rw [e1.2.2.1, e2.2.2.1, nI_leI (by omega) (by omega)] at this
    exact this
theorem nI_nl0 {a : Nat} (h : a < 2 ^ 31) : ¬ nI a < 0 := of_eq_false ((c0lt (a := a)).trans (lt_f (Nat.zero_le a) h))
theorem jmin_l {a b : Nat} (h : a ≤ b) (hb : b < 2 ^ 31) : jmin (nI a) (nI b) = nI a := by
  unfold jmin
  rw [if_neg (nI_nlt h hb)]
theorem beamAt_s {N : Nat} {L : PL} {m i b : Nat} {I : PI} (hm : m ≤ 8) (hi : i < m) (hb : b < m) (h4 : I 0 4 = nI m) (h38 : I 38 i = nI b) : f_X0_beamAt N (nI i) I L = some (some (.int (nI b)), I, L) := by
  unfold f_X0_beamAt F_X0_beamAt_22
  rw [if_neg (nI_nl0 (by omega)), h4, if_neg (nI_ge hi (by omega)), gd_in (by omega) (by omega), nI_clamp (by omega), h38, if_neg (nI_ge hb (by omega))]
theorem dueAt_s {N : Nat} {L : PL} {m i b : Nat} {I : PI} (hm : m ≤ 8) (hi : i < m) (hb : b < m) (h4 : I 0 4 = nI m) (h38 : I 38 i = nI b) : f_X0_dueAt N (nI i) I L = some (some (.int (I 36 b)), I, L) := by
  unfold f_X0_dueAt
  rw [beamAt_s hm hi hb h4 h38, bI_s, if_neg (nI_nl0 (by omega)), gd_in (by omega) (by omega), nI_clamp (by omega)]
section BEAM
variable {N : Nat} {L : PL} {m : Nat} {T D W d : Nat → Nat}
theorem addLp {x : Nat} (hm : m < 8) (hx : x ≤ 99) (hd : ∀ a, a < m → d a < m) (hD : ∀ a, a < m → D a ≤ 99) : ∀ (i k : Nat) (I : PI), i ≤ m → i < k → (∀ a, a < i → I 38 a = nI (d a)) → (∀ a, i < a → a ≤ m → I 38 a = nI (d (a - 1))) → (∀ a, i ≤ a → a < m → x < D (d a)) → I 0 4 = nI m → (∀ a, a < m → I 36 a = nI (D a)) → ∃ (J : PI) (i' : Nat), F_X0_add_47 N k (nI x) (nI i) I L = some (some (.int (nI m)), J, L) ∧ Kp (fun a k => a = 38 ∨ (a = 0 ∧ k = 4)) I J ∧ J 0 4 = nI (m + 1) ∧ i' ≤ m ∧ (i' = 0 ∨ D (d (i' - 1)) ≤ x) ∧ (∀ a, i' ≤ a → a < m → x < D (d a)) ∧ ∀ a, a ≤ m → J 38 a = nI (insAt d i' m a) := by
  have stop : ∀ (i : Nat) (I : PI), i ≤ m → (∀ a, a < i → I 38 a = nI (d a)) → (∀ a, i < a → a ≤ m → I 38 a = nI (d (a - 1))) → (∀ a, i ≤ a → a < m → x < D (d a)) → I 0 4 = nI m → (i = 0 ∨ D (d (i - 1)) ≤ x) → ∃ (J : PI) (i' : Nat), F_X0_add_86 N (nI i) I L = some (some (.int (nI m)), J, L) ∧ Kp (fun a k => a = 38 ∨ (a = 0 ∧ k = 4)) I J ∧ J 0 4 = nI (m + 1) ∧ i' ≤ m ∧ (i' = 0 ∨ D (d (i' - 1)) ≤ x) ∧ (∀ a, i' ≤ a → a < m → x < D (d a)) ∧ ∀ a, a ≤ m → J 38 a = nI (insAt d i' m a) := by
    intro i I hi h1 h2 h3 h4 hst
    refine ⟨uI (uI I 38 i (nI m)) 0 4 (nI (m + 1)), i, ?_, (Kp.rf.up (Or.inl rfl)).up (Or.inr ⟨rfl, rfl⟩), uI_eq, hi, hst, h3, fun a ha => ?_⟩
    · unfold F_X0_add_86
      rw [gd_in (by omega) (by omega), nI_clamp (by omega), h4, nmW_s, uI_ne (by omega), h4, nI_1, nmW_s, uI_eq, nI_pred]
    · rw [uI_ne (by omega)]
      by_cases e1 : a < i
      · rw [uI_ne (by omega), insAt_lt e1]; exact h1 a e1
      · by_cases e2 : a = i
        · subst e2; rw [uI_eq, insAt_eq]
        · rw [uI_ne (by omega), insAt_gt (by omega)]; exact h2 a (by omega) ha
  intro i
  induction i with
  | zero =>
    intro k I hi hk h1 h2 h3 h4 h5
    obtain ⟨k, rfl⟩ : ∃ q, k = q + 1 := ⟨k - 1, by omega⟩
    rw [F_X0_add_47, if_pos (show nI 0 ≤ 0 from nI_le (a := 0) (b := 0) (Nat.le_refl 0) (by decide))]
    exact stop 0 I hi h1 h2 h3 h4 (Or.inl rfl)
  | succ i ih =>
    intro k I hi hk h1 h2 h3 h4 h5
    obtain ⟨k, rfl⟩ : ∃ q, k = q + 1 := ⟨k - 1, by omega⟩
    have d1 := hd i (by omega)
    have d2 := hD _ d1
    rw [F_X0_add_47, if_neg (nI_nle (by omega) (by omega)), nI_pred, dueAt_s (m := m) (b := d i) (by omega) (by omega) d1 h4 (h1 i (by omega)), bI_s, h5 _ d1]
    by_cases hle : D (d i) ≤ x
    · rw [if_pos (nI_le hle (by omega))]
      exact stop (i + 1) I hi h1 h2 h3 h4 (Or.inr hle)
    · rw [if_neg (nI_ge (by omega) (by omega)), gd_in (by omega) (by omega), gd_in (by omega) (by omega), nI_clamp (n := i) (by omega), h1 i (by omega), nI_clamp (by omega), nmW_s, pk_m1]
      obtain ⟨J, i', g1, g2, g3⟩ := ih k (uI I 38 (i + 1) (nI (d i))) (by omega) (by omega) (fun a ha => by rw [uI_ne (by omega)]; exact h1 a (by omega)) (fun a ha hb => by
        by_cases e : a = i + 1
        · subst e; rw [uI_eq]; rfl
        · rw [uI_ne (by omega)]; exact h2 a (by omega) hb) (fun a ha hb => by
        by_cases e : a = i
        · subst e; omega
        · exact h3 a (by omega) hb) (by rw [uI_ne (by omega)]; exact h4) (fun a ha => by rw [uI_ne (by omega)]; exact h5 a ha)
      exact ⟨J, i', g1, (Kp.rf.up (Or.inl rfl)).tr g2, g3⟩
end BEAM
def upM (f : Nat → Nat) (m x k : Nat) : Nat := if k = m then x else f k
theorem upM_eq {f : Nat → Nat} {m x : Nat} : upM f m x m = x := if_pos rfl
theorem upM_ne {f : Nat → Nat} {m x k : Nat} (h : k ≠ m) : upM f m x k = f k := if_neg h
theorem case_beam {X : PI → Prop} (hX : Xok X) {N : Nat} (hN : 20000 ≤ N) (a1 a2 a3 : Int32) : CaseI (Inv X) (f_X11_beam N a1 a2 a3) (f_X12_beam N a1 a2 a3) := by
  intro I L hI
  have hI0 := hI
  obtain ⟨-, -, -, -, -, hE, -, -⟩ := hI
  obtain ⟨m, T, D, W, d, b1, b2, b3, b4, b5, b6, b7, b8, b9⟩ := hE.bs
  have eC := f_X11_beam.eq_1 N a1 a2 a3 I L
  have eM := f_X12_beam.eq_1 N a1 a2 a3
  have key : ∀ x : Int32, f_X11_beam N a1 a2 a3 I L = some (some (.int x), I, L) → f_X12_beam N a1 a2 a3 I L = some (some (.int x), I, L) → ∃ (x : Int32) (I1 : PI) (L1 : PL) (I2 : PI) (L2 : PL), f_X11_beam N a1 a2 a3 I L = some (some (.int x), I1, L1) ∧ f_X12_beam N a1 a2 a3 I1 L1 = some (some (.int x), I2, L2) ∧ Inv X I2 L2 := fun x h1 h2 => ⟨x, I, L, I, L, h1, h2, hI0⟩
  have eM0 := eM I L
  rw [within_s, bI_s] at eC
  rw [in_s, bI_s] at eM0
  cases hw : wi a1 1 20 with
  | false =>
    rw [ifz_f hw] at eC eM0
    exact key _ eC eM0
  | true =>
    rw [ifz_t hw, within_s, bI_s] at eC
    rw [ifz_t hw, in_s, bI_s] at eM0
    cases hu : wi a2 1 99 with
    | false =>
      rw [ifz_f hu] at eC eM0
      exact key _ eC eM0
    | true =>
      rw [ifz_t hu, within_s, bI_s] at eC
      rw [ifz_t hu, in_s, bI_s] at eM0
      cases ht : wi a3 0 99 with
      | false =>
        rw [ifz_f ht] at eC eM0
        exact key _ eC eM0
      | true =>
        rw [ifz_t ht] at eC eM0
        obtain ⟨t, t1, t2, rfl⟩ := wi_nat2 (m := 1) (n := 20) rfl rfl (by omega) (by omega) hw
        obtain ⟨x, x1, x2, rfl⟩ := wi_nat2 (m := 1) (n := 99) rfl rfl (by omega) (by omega) hu
        obtain ⟨w, w2, rfl⟩ := wi_nat (n := 99) rfl (by omega) ht
        by_cases hm : m = 8
        · unfold f_X0_add at eC
          rw [b2, hm, show (8 : Int32) = nI 8 from rfl, if_neg (nI_nlt (by omega) (by omega)), bI_s] at eC
          rw [b3, hm, show (8 : Int32) = nI 8 from rfl, if_pos rfl] at eM0
          exact key _ eC eM0
        · obtain ⟨I1, hI1⟩ : ∃ J : PI, J = uI (uI (uI I 35 m (nI t)) 36 m (nI x)) 37 m (nI w) := ⟨_, rfl⟩
          have k1 : Kp (fun a k => 35 ≤ a ∧ a ≤ 37) I I1 := hI1 ▸ ((Kp.rf.up (by omega)).up (by omega)).up (by omega)
          obtain ⟨J, i', g1, g2, g3, g4, g5, g6, g7⟩ := addLp (N := N) (L := L) (D := D) (d := d) (by omega : m < 8) x2 (fun a ha => (b7 a ha).2) (fun a ha => (b5 a ha).2.2.2) m N I1 (Nat.le_refl m) (by omega) (fun a ha => (k1 38 a (by omega)).trans (b7 a ha).1) (fun a ha hb => by omega) (fun a ha hb => by omega) ((k1 0 4 (by omega)).trans b2) (fun a ha => by rw [hI1, uI_ne (by omega), uI_ne (by omega), uI_ne (by omega)]; exact (b5 a ha).1)
          have k2 : Kp (fun a k => (35 ≤ a ∧ a ≤ 38) ∨ (a = 0 ∧ k = 4)) I J := (k1.mono (fun a k q => by omega)).tr (g2.mono (fun a k q => by omega))
          have eA : f_X0_add N (nI t) (nI x) (nI w) I L = some (some (.int (nI m)), J, L) := by
            unfold f_X0_add
            rw [b2, show (8 : Int32) = nI 8 from rfl, if_pos (nI_lt (by omega) (by omega)), gd_in (by omega) (by omega), nI_clamp (by omega), nmW_s, uI_ne (by omega), b2, gd_in (by omega) (by omega), nI_clamp (by omega), nmW_s, uI_ne (by omega), uI_ne (by omega), b2, gd_in (by omega) (by omega), nI_clamp (by omega), nmW_s, uI_ne (by omega), uI_ne (by omega), uI_ne (by omega), b2, nmI_s, ← hI1]
            exact g1
          rw [eA, bI_s] at eC
          obtain ⟨J2, hJ2⟩ : ∃ J' : PI, J' = uI (uI (uI (uI J 60 m (nI t)) 61 m (nI x)) 62 m (nI w)) 12 50 (nI (m + 1)) := ⟨_, rfl⟩
          have k3 : Kp (fun a k => (60 ≤ a ∧ a ≤ 62) ∨ (a = 12 ∧ k = 50)) J J2 := hJ2 ▸ (((Kp.rf.up (by omega)).up (by omega)).up (by omega)).up (by omega)
          have eM1 := eM J L
          have j50 : J 12 50 = nI m := (k2 12 50 (by omega)).trans b3
          rw [in_s, bI_s, ifz_t hw, in_s, bI_s, ifz_t hu, in_s, bI_s, ifz_t ht, j50, show (8 : Int32) = nI 8 from rfl, if_neg (fun q => hm ((nI_eq (by omega) (by omega)).mp q)), gd_in (by omega) (by omega), nI_clamp (by omega), nmW_s, uI_ne (by omega), j50, gd_in (by omega) (by omega), nI_clamp (by omega), nmW_s, uI_ne (by omega), uI_ne (by omega), j50, gd_in (by omega) (by omega), nI_clamp (by omega), nmW_s, uI_ne (by omega), uI_ne (by omega), uI_ne (by omega), j50, nI_1, nmW_s, uI_eq, nI_pred, ← hJ2] at eM1
          refine ⟨nI m, J, L, J2, L, eC, eM1, hI0.mkE hX ((k2.mono (fun a k q => by unfold dE; omega)).tr (k3.mono (fun a k q => by unfold dE; omega))) (BS.re (m := m + 1) (T := upM T m t) (D := upM D m x) (W := upM W m w) (d := insAt d i' m) ?_)⟩
          have f35 : J 35 m = nI t := by rw [g2 35 m (by omega), hI1, uI_ne (by omega), uI_ne (by omega), uI_eq]
          have f36 : J 36 m = nI x := by rw [g2 36 m (by omega), hI1, uI_ne (by omega), uI_eq]
          have f37 : J 37 m = nI w := by rw [g2 37 m (by omega), hI1, uI_eq]
          have o35 : ∀ a k, 35 ≤ a → a ≤ 37 → k ≠ m → J2 a k = I a k := fun a k h1 h2 h3 => by rw [k3 a k (by omega), g2 a k (by omega), hI1, uI_ne (by omega), uI_ne (by omega), uI_ne (by omega)]
          have o60 : ∀ a k, 60 ≤ a → a ≤ 62 → k ≠ m → J2 a k = I a k := fun a k h1 h2 h3 => by rw [hJ2, uI_ne (by omega), uI_ne (by omega), uI_ne (by omega), uI_ne (by omega), k2 a k (by omega)]
          refine ⟨by omega, (k3 0 4 (by omega)).trans g3, by rw [hJ2, uI_eq], fun k hk => ?_, fun k hk => ?_, fun k hk => ?_, fun i hi => ?_, fun i j hi hj => ?_, ?_⟩
          · by_cases e : k = m
            · subst e
              rw [upM_eq, k3 35 _ (by omega), f35, hJ2, uI_ne (by omega), uI_ne (by omega), uI_ne (by omega), uI_eq]
              exact ⟨rfl, rfl, t1, t2⟩
            · rw [upM_ne e, o35 35 k (by omega) (by omega) e, o60 60 k (by omega) (by omega) e]
              exact b4 k (by omega)
          · by_cases e : k = m
            · subst e
              rw [upM_eq, k3 36 _ (by omega), f36, hJ2, uI_ne (by omega), uI_ne (by omega), uI_eq]
              exact ⟨rfl, rfl, x1, x2⟩
            · rw [upM_ne e, o35 36 k (by omega) (by omega) e, o60 61 k (by omega) (by omega) e]
              exact b5 k (by omega)
          · by_cases e : k = m
            · subst e
              rw [upM_eq, k3 37 _ (by omega), f37, hJ2, uI_ne (by omega), uI_eq]
              exact ⟨rfl, rfl, w2⟩
            · rw [upM_ne e, o35 37 k (by omega) (by omega) e, o60 62 k (by omega) (by omega) e]
              exact b6 k (by omega)
          · refine ⟨(k3 38 i (by omega)).trans (g7 i (by omega)), ?_⟩
            by_cases e1 : i < i'
            · rw [insAt_lt e1]; have := (b7 i (by omega)).2; omega
            · by_cases e2 : i = i'
              · rw [e2, insAt_eq]; omega
              · rw [insAt_gt (by omega)]; have := (b7 (i - 1) (by omega)).2; omega
          · by_cases e1 : j < i'
            · rw [insAt_lt e1, insAt_lt (by omega)]; exact b8 i j hi (by omega)
            · by_cases e2 : j = i'
              · have := (b7 i (by omega)).2
                rw [e2, insAt_eq, insAt_lt (by omega)]; omega
              · rw [insAt_gt (k := j) (by omega)]
                have q1 := (b7 (j - 1) (by omega)).2
                by_cases e3 : i < i'
                · rw [insAt_lt e3]; exact b8 i (j - 1) (by omega) (by omega)
                · by_cases e4 : i = i'
                  · rw [e4, insAt_eq]; omega
                  · rw [insAt_gt (by omega)]; exact b8 (i - 1) (j - 1) (by omega) (by omega)
          · have e : ∀ a, a < m + 1 → upM D m x (insAt d i' m a) = insAt (fun a => D (d a)) i' x a := fun a ha => by
              by_cases e1 : a < i'
              · rw [insAt_lt e1, insAt_lt e1, upM_ne (by have := (b7 a (by omega)).2; omega)]
              · by_cases e2 : a = i'
                · rw [e2, insAt_eq, insAt_eq, upM_eq]
                · rw [insAt_gt (by omega), insAt_gt (by omega), upM_ne (by have := (b7 (a - 1) (by omega)).2; omega)]
            intro i j hi hj
            rw [e i (by omega), e j hj]
            exact ins_sor b9 g5 g6 g4 i j hi hj
