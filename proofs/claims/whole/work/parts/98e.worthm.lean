/-! the worth of a law: the model's stack -/
def d48 (a _k : Nat) : Prop := a = 48
def tl : List (List (Nat × Nat) × List (Nat × Nat)) → Nat
  | [] => 0
  | t :: cs => t.1.length + t.2.length + tl cs
theorem clR_tl {A : Nat → Int32} : ∀ (cs : List (List (Nat × Nat) × List (Nat × Nat))) {m e : Nat}, clR A m cs e → tl cs + m ≤ e
  | [], m, e, h => by
    have h' : e = m := h
    show 0 + m ≤ e
    omega
  | t :: cs, m, e, h => by
    have := clR_tl cs h.2.2
    show t.1.length + t.2.length + tl cs + m ≤ e
    omega
theorem pm1 (n : Nat) : nI (n + 1) + (-1 : Int32) = nI n := by
  rw [zm1, zI_n, zI_add, zI_n, show ((n + 1 : Nat) : Int) + -1 = (n : Int) by omega]
section LAWS
variable {N : Nat} {L : PL}
theorem tokM {s to c k : Nat} {ls : Nat → Int32} {t : Nat × Nat} {st st' : List Int32} {I : PI} (hs : s ≤ 6) (hc : c < to) (hto : to ≤ 200) (h40 : I 40 (260 * s + c) = nI t.1) (h41 : I 41 (260 * s + c) = nI t.2) (h47 : ∀ i, i < 4 → I 47 i = ls i) (hl : st.length ≤ 80) (hk : stk (I 48) st) (he : ev1 ls t st = some st') : ∃ I', F_X12_workOut_12 N (k + 1) (nI s) (nI to) (nI st.length) (nI (260 * s + c)) I L = F_X12_workOut_12 N k (nI s) (nI to) (nI st'.length) (nI (260 * s + c + 1)) I' L ∧ stk (I' 48) st' ∧ st'.length ≤ 80 ∧ Kp d48 I I' := by
  obtain ⟨tk, tv⟩ := t
  have h40' : I 40 (260 * s + c) = nI tk := h40
  have h41' : I 41 (260 * s + c) = nI tv := h41
  have ix : inb (nI (260 * s + c)) 1820 = true := inb_nI (by omega) (by omega)
  have cl : (nI (260 * s + c)).toNatClampNeg = 260 * s + c := nI_clamp (by omega)
  rw [F_X12_workOut_12, show (260 : Int32) = nI 260 from rfl, pk_mul, nI_add, if_neg (nI_ge (by omega) (by omega)), ix, gd_t, cl, h40']
  unfold ev1 at he
  -- a number or a letter
  have pu : ∀ a : Int32, st.length < 80 → ∃ I', F_X12_workOut_83 N (F_X12_workOut_12 N k) (nI s) (nI to) (nI st.length) (nI (260 * s + c)) a (nI st.length) I L = F_X12_workOut_12 N k (nI s) (nI to) (nI (a :: st).length) (nI (260 * s + c + 1)) I' L ∧ stk (I' 48) (a :: st) ∧ (a :: st).length ≤ 80 ∧ Kp d48 I I' := fun a ha => by
    unfold F_X12_workOut_83
    rw [gd_in ha (by omega), nI_clamp (by omega), nmW_s, nI_1, nI_1, List.length_cons]
    exact ⟨_, rfl, ⟨uI_eq, stk_cong st (fun j hj => uI_ne (by omega)) hk⟩, by omega, Kp.rf.up rfl⟩
  by_cases h0 : tk = 0
  · subst h0
    rw [if_pos rfl] at he
    by_cases hcc : tv ≤ 9999 ∧ st.length < 80
    · rw [if_pos hcc] at he
      obtain rfl : nI tv :: st = st' := by injection he
      rw [if_pos (show nI 0 = (0 : Int32) from rfl)]
      unfold F_X12_workOut_45
      rw [ix, gd_t, cl, h40', if_pos (show nI 0 = (0 : Int32) from rfl), gd_t, h41']
      exact pu _ hcc.2
    · rw [if_neg hcc] at he; cases he
  · rw [if_neg h0] at he
    have hlt : tk ≤ 11 := by
      by_cases h : tk ≤ 11
      · exact h
      · rw [if_neg (by show ¬ tk = 1; omega), if_neg (by show ¬ tk = 9; omega), if_neg (by show ¬ tk ≤ 8; omega), if_neg h] at he
        cases he
    have ne0 : ∀ x : Nat, x < 100 → tk ≠ x → ∀ y : Int32, y = nI x → ¬ nI tk = y := fun x hx h y hy q => by
      rw [hy] at q
      exact h ((nI_eq (by omega) (by omega)).mp q)
    rw [if_neg (ne0 0 (by omega) h0 0 rfl), gd_t]
    by_cases h1 : tk = 1
    · subst h1
      rw [if_pos rfl] at he
      by_cases hcc : tv < 4 ∧ st.length < 80
      · rw [if_pos hcc] at he
        obtain rfl : ls tv :: st = st' := by injection he
        rw [if_pos (show nI 1 = (1 : Int32) from rfl)]
        unfold F_X12_workOut_45
        rw [ix, gd_t, cl, h40', if_neg (show ¬ nI 1 = (0 : Int32) by decide), gd_t, h41', gd_in hcc.1 (by omega), nI_clamp (by omega), h47 tv hcc.1]
        exact pu _ hcc.2
      · rw [if_neg hcc] at he; cases he
    · rw [if_neg h1] at he
      rw [if_neg (ne0 1 (by omega) h1 1 rfl), gd_t]
      by_cases h9 : tk = 9
      · subst h9
        rw [if_pos rfl] at he
        cases st with
        | nil => cases he
        | cons a r =>
          have he' : (if b01 a = true then some ((if a = 0 then (1 : Int32) else 0) :: r) else none) = some st' := he
          by_cases hb : b01 a = true
          · rw [if_pos hb] at he'
            obtain rfl : (if a = 0 then (1 : Int32) else 0) :: r = st' := by injection he'
            rw [List.length_cons] at hl
            have ha : 1 - a = if a = 0 then (1 : Int32) else 0 := by
              rcases b01_or hb with rfl | rfl <;> decide +kernel
            rw [if_pos (show nI 9 = (9 : Int32) from rfl), List.length_cons, nsub1 (by omega), Nat.add_sub_cancel, gd_in (by omega) (by omega), gd_in (by omega) (by omega), nI_clamp (by omega), hk.1, ha, nmW_s, nI_1, List.length_cons]
            exact ⟨_, rfl, ⟨uI_eq, stk_cong r (fun j hj => uI_ne (by omega)) hk.2⟩, hl, Kp.rf.up rfl⟩
          · rw [if_neg hb] at he'; cases he'
      · rw [if_neg h9] at he
        rw [if_neg (ne0 9 (by omega) h9 9 rfl), gd_t]
        have two : ∀ (a b : Int32) (r : List Int32), st = b :: a :: r → st' = opL tk a b :: r → (9 < tk → b01 a = true ∧ b01 b = true) → 2 ≤ tk → ∃ I', gd (inb ((nI st.length + (-1 : Int32)) - 1) 80) (gd (inb (nI st.length + (-1 : Int32)) 80) (bI (f_X12_worked N (nI tk) (Int32.toInt64 (I 48 (Int32.toNatClampNeg ((nI st.length + (-1 : Int32)) - 1)))) (Int32.toInt64 (I 48 (Int32.toNatClampNeg (nI st.length + (-1 : Int32))))) I L) (fun x3 I4 L5 => gd (inb ((nI st.length + (-1 : Int32)) - 1) 80) (nmW (uI I4 48 (Int32.toNatClampNeg ((nI st.length + (-1 : Int32)) - 1)) x3) (fun I6 => F_X12_workOut_12 N k (nI s) (nI to) (nI st.length + (-1 : Int32)) (nI (260 * s + c) + 1) I6 L5))))) = F_X12_workOut_12 N k (nI s) (nI to) (nI st'.length) (nI (260 * s + c + 1)) I' L ∧ stk (I' 48) st' ∧ st'.length ≤ 80 ∧ Kp d48 I I' := by
          intro a b r e1 e2 hb hk1
          subst e1 e2
          rw [List.length_cons, List.length_cons] at hl
          have hkb : I 48 (r.length + 1) = b := hk.1
          have hka : I 48 r.length = a := hk.2.1
          rw [List.length_cons, List.length_cons, pm1, nsub1 (by omega), Nat.add_sub_cancel, gd_in (by omega) (by omega), gd_in (by omega) (by omega), nI_clamp (by omega), nI_clamp (by omega), hkb, hka, worked_s hk1 hlt h9 hb, bI_s, gd_in (by omega) (by omega), nmW_s, nI_1, List.length_cons]
          exact ⟨_, rfl, ⟨uI_eq, stk_cong r (fun j hj => uI_ne (by omega)) hk.2.2⟩, by omega, Kp.rf.up rfl⟩
        by_cases h8 : tk ≤ 8
        · rw [if_pos h8] at he
          match st, he, two with
          | [], he, _ => cases he
          | [x], he, _ => cases he
          | b :: a :: r, he, two =>
            have he' : some (opL tk a b :: r) = some st' := he
            exact two a b r rfl (by injection he' with q; exact q.symm) (fun q => by omega) (by omega)
        · rw [if_neg h8, if_pos hlt] at he
          match st, he, two with
          | [], he, _ => cases he
          | [x], he, _ => cases he
          | b :: a :: r, he, two =>
            have he' : (if b01 a = true ∧ b01 b = true then some (opL tk a b :: r) else none) = some st' := he
            by_cases hb : b01 a = true ∧ b01 b = true
            · rw [if_pos hb] at he'
              exact two a b r rfl (by injection he' with q; exact q.symm) (fun _ => hb) (by omega)
            · rw [if_neg hb] at he'; cases he'
theorem runMl {s to : Nat} {ls : Nat → Int32} (hs : s ≤ 6) (hto : to ≤ 200) : ∀ (w : List (Nat × Nat)) (c k : Nat) (st st' : List Int32) (I : PI), c + w.length ≤ to → seg (I 40) (fun t => nI t.1) (260 * s + c) w → seg (I 41) (fun t => nI t.2) (260 * s + c) w → (∀ i, i < 4 → I 47 i = ls i) → st.length ≤ 80 → stk (I 48) st → evL ls w st = some st' → ∃ I', F_X12_workOut_12 N (k + w.length) (nI s) (nI to) (nI st.length) (nI (260 * s + c)) I L = F_X12_workOut_12 N k (nI s) (nI to) (nI st'.length) (nI (260 * s + (c + w.length))) I' L ∧ stk (I' 48) st' ∧ Kp d48 I I' := by
  intro w
  induction w with
  | nil =>
    intro c k st st' I h1 h2 h3 h4 h5 h6 h7
    have : st = st' := by injection h7
    subst this
    exact ⟨I, rfl, h6, Kp.rf⟩
  | cons t w ih =>
    intro c k st st' I h1 h2 h3 h4 h5 h6 h7
    rw [List.length_cons] at h1 ⊢
    have h7' : (ev1 ls t st).bind (evL ls w) = some st' := h7
    cases he : ev1 ls t st with
    | none => rw [he] at h7'; cases h7'
    | some s1 =>
      rw [he] at h7'
      obtain ⟨I1, g1, g2, g3, g4⟩ := tokM (N := N) (L := L) (k := k + w.length) hs (show c < to by omega) hto h2.1 h3.1 h4 h5 h6 he
      obtain ⟨I2, p1, p2, p3⟩ := ih (c + 1) k s1 st' I1 (by omega) (seg_cong w (fun q _ => g4 40 q (by unfold d48; omega)) h2.2) (seg_cong w (fun q _ => g4 41 q (by unfold d48; omega)) h3.2) (fun i hi => (g4 47 i (by unfold d48; omega)).trans (h4 i hi)) g3 g2 h7'
      refine ⟨I2, ?_, p2, g4.tr p3⟩
      rw [show k + (w.length + 1) = k + w.length + 1 by omega, g1, show 260 * s + c + 1 = 260 * s + (c + 1) by omega, p1, show c + 1 + w.length = c + (w.length + 1) by omega]
end LAWS
