/-! the worth of a law: the class's stack -/
def stk (A : Nat → Int32) : List Int32 → Prop
  | [] => True
  | a :: r => A r.length = a ∧ stk A r
theorem stk_cong {A B : Nat → Int32} : ∀ (st : List Int32), (∀ j, j < st.length → B j = A j) → stk A st → stk B st
  | [], _, _ => trivial
  | a :: r, h, g => ⟨(h r.length (by rw [List.length_cons]; omega)).trans g.1, stk_cong r (fun j hj => h j (by rw [List.length_cons]; omega)) g.2⟩
def Cst (I : PI) (st : List Int32) : Prop := I 7 3 = nI st.length ∧ stk (I 20) st ∧ st.length ≤ 80
def dSk (a k : Nat) : Prop := a = 20 ∨ (a = 7 ∧ k = 3)
section LAWQ
variable {N : Nat} {L : PL}
theorem push7 {I : PI} {st : List Int32} {a : Int32} (h : Cst I st) (hl : st.length < 80) : ∃ J, f_X7_push N a I L = some (none, J, L) ∧ Cst J (a :: st) ∧ Kp dSk I J := by
  unfold f_X7_push
  rw [h.1, show (120 : Int32) = nI 120 from rfl, if_neg (nI_ge (by omega) (by omega)), gd_in (by omega) (by omega), nI_clamp (by omega), nmW_s, uI_ne (by omega), h.1, nI_1, nmW_s]
  refine ⟨_, rfl, ⟨?_, ⟨?_, stk_cong st (fun j hj => ?_) h.2.1⟩, by rw [List.length_cons]; omega⟩, (Kp.rf.up (by unfold dSk; omega)).up (by unfold dSk; omega)⟩
  · rw [uI_eq, List.length_cons]
  · rw [uI_ne (by omega), uI_eq]
  · rw [uI_ne (by omega), uI_ne (by omega)]
theorem pop7 {I : PI} {st : List Int32} {a : Int32} (h : Cst I (a :: st)) : ∃ J, f_X7_pop N I L = some (some (.int a), J, L) ∧ Cst J st ∧ Kp dSk I J := by
  have hl : st.length + 1 ≤ 80 := h.2.2
  have h1 : I 7 3 = nI (st.length + 1) := h.1
  unfold f_X7_pop
  rw [h1, if_pos (show (0 : Int32) < nI (st.length + 1) from nI_lt (a := 0) (by omega) (by omega)), nsub1 (by omega), Nat.add_sub_cancel, nmW_s, uI_eq, gd_in (by omega) (by omega), nI_clamp (by omega), uI_ne (by omega), h.2.1.1]
  exact ⟨_, rfl, ⟨uI_eq, stk_cong st (fun j _ => uI_ne (by omega)) h.2.1.2, by omega⟩, Kp.rf.up (by unfold dSk; omega)⟩
theorem swL_d {o1 o2 o3 o4 o5 o6 od : RES} {x : Int32} (h : x.toInt ≠ 63 ∧ x.toInt ≠ 97 ∧ x.toInt ≠ 98 ∧ x.toInt ≠ 107 ∧ x.toInt ≠ 110 ∧ x.toInt ≠ 121) : swL [(63, o1), (97, o2), (98, o3), (107, o4), (110, o5), (121, o6)] od x = od := by
  show (if (63 : Int) = x.toInt then o1 else if (97 : Int) = x.toInt then o2 else if (98 : Int) = x.toInt then o3 else if (107 : Int) = x.toInt then o4 else if (110 : Int) = x.toInt then o5 else if (121 : Int) = x.toInt then o6 else od) = od
  rw [if_neg (fun q => h.1 q.symm), if_neg (fun q => h.2.1 q.symm), if_neg (fun q => h.2.2.1 q.symm), if_neg (fun q => h.2.2.2.1 q.symm), if_neg (fun q => h.2.2.2.2.1 q.symm), if_neg (fun q => h.2.2.2.2.2 q.symm)]
theorem swL_h {o1 o2 o3 o4 o5 o6 od : RES} {x : Int32} : swL [(63, o1), (97, o2), (98, o3), (107, o4), (110, o5), (121, o6)] od x = if (63 : Int) = x.toInt then o1 else if (97 : Int) = x.toInt then o2 else if (98 : Int) = x.toInt then o3 else if (107 : Int) = x.toInt then o4 else if (110 : Int) = x.toInt then o5 else if (121 : Int) = x.toInt then o6 else od := rfl
theorem nn_s (c : Nat) : -(-(nI c)) = nI c := by
  rw [zI_n, zI_neg, zI_neg, Int.neg_neg]
theorem neg_toInt {c : Nat} (h : c < 2 ^ 30) : (-(nI c)).toInt = -(c : Int) := by
  rw [zI_n, zI_neg, zI_toInt (by omega) (by omega)]
theorem neg_lt0 {c : Nat} (h : c < 2 ^ 30) (h1 : 1 ≤ c) : -(nI c) < 0 := by
  rw [Int32.lt_iff_toInt_lt, neg_toInt h]
  show -(c : Int) < 0
  omega
theorem neg_eq33 {c : Nat} (h : c < 2 ^ 30) (h1 : c ≠ 33) : ¬ -(nI c) = -33 := fun q => by
  have h2 : (-(nI c)).toInt = (-33 : Int32).toInt := by rw [q]
  rw [neg_toInt h] at h2
  have h3 : (-33 : Int32).toInt = -33 := by decide
  omega
theorem chT_f {k v : Nat} (hk : 2 ≤ k) (hk2 : k ≤ 11) (h9 : k ≠ 9) : chT (k, v) = chT (k, 0) ∧ 1 ≤ chT (k, 0) ∧ chT (k, 0) < 256 ∧ chT (k, 0) ≠ 33 ∧ chT (k, 0) ≠ 63 ∧ chT (k, 0) ≠ 97 ∧ chT (k, 0) ≠ 98 ∧ chT (k, 0) ≠ 107 ∧ chT (k, 0) ≠ 110 ∧ chT (k, 0) ≠ 121 := by
  have hc : k = 2 ∨ k = 3 ∨ k = 4 ∨ k = 5 ∨ k = 6 ∨ k = 7 ∨ k = 8 ∨ k = 10 ∨ k = 11 := by omega
  rcases hc with rfl | rfl | rfl | rfl | rfl | rfl | rfl | rfl | rfl <;> refine ⟨rfl, ?_⟩ <;> decide
/-- one token, in the class -/
theorem tokC {v len j k : Nat} {ls : Nat → Int32} {t : Nat × Nat} {st st' : List Int32} {I : PI} (hv : v < 6) (hj : j < len) (hlen : len ≤ 120) (h19 : I 19 v = nI len) (h18 : I 18 (120 * v + j) = eC t) (hs : Cst I st) (he : ev1 ls t st = some st') : ∃ I', F_X7_worth_35 N (k + 1) (nI v) (ls 0) (ls 1) (ls 2) (ls 3) (nI len) (nI j) I L = F_X7_worth_35 N k (nI v) (ls 0) (ls 1) (ls 2) (ls 3) (nI len) (nI (j + 1)) I' L ∧ Cst I' st' ∧ Kp dSk I I' := by
  obtain ⟨tk, tv⟩ := t
  rw [F_X7_worth_35, if_neg (nI_ge hj (by omega)), show (120 : Int32) = nI 120 from rfl, pk_mul, nI_add, Nat.mul_comm v 120, gd_in (by omega) (by omega), nI_clamp (by omega), h18, nmI_s, nI_1]
  unfold ev1 at he
  by_cases h0 : tk = 0
  · subst h0
    rw [if_pos rfl] at he
    by_cases hc : tv ≤ 9999 ∧ st.length < 80
    · rw [if_pos hc] at he
      obtain rfl : nI tv :: st = st' := by injection he
      obtain ⟨J, g1, g2, g3⟩ := push7 (N := N) (L := L) (a := nI tv) hs hc.2
      have eN : eC (0, tv) = nI tv := rfl
      have ht := neg_toInt (c := tv) (by omega)
      rw [eN, swL_d (by omega)]
      unfold f_X7_doStep
      rw [if_neg (nI_pos (by omega)), g1, bV_s, bV_s]
      exact ⟨J, rfl, g2, g3⟩
    · rw [if_neg hc] at he; cases he
  · rw [if_neg h0] at he
    by_cases h1 : tk = 1
    · subst h1
      rw [if_pos rfl] at he
      by_cases hc : tv < 4 ∧ st.length < 80
      · rw [if_pos hc] at he
        obtain rfl : ls tv :: st = st' := by injection he
        obtain ⟨J, g1, g2, g3⟩ := push7 (N := N) (L := L) (a := ls tv) hs hc.2
        have h4 : tv = 0 ∨ tv = 1 ∨ tv = 2 ∨ tv = 3 := by omega
        rcases h4 with rfl | rfl | rfl | rfl
        · rw [show -eC (1, 0) = (107 : Int32) by decide +kernel, swL_h, if_neg (by decide), if_neg (by decide), if_neg (by decide), if_pos (by decide), g1, bV_s]
          exact ⟨J, rfl, g2, g3⟩
        · rw [show -eC (1, 1) = (110 : Int32) by decide +kernel, swL_h, if_neg (by decide), if_neg (by decide), if_neg (by decide), if_neg (by decide), if_pos (by decide), g1, bV_s]
          exact ⟨J, rfl, g2, g3⟩
        · rw [show -eC (1, 2) = (97 : Int32) by decide +kernel, swL_h, if_neg (by decide), if_pos (by decide), g1, bV_s]
          exact ⟨J, rfl, g2, g3⟩
        · rw [show -eC (1, 3) = (98 : Int32) by decide +kernel, swL_h, if_neg (by decide), if_neg (by decide), if_pos (by decide), g1, bV_s]
          exact ⟨J, rfl, g2, g3⟩
      · rw [if_neg hc] at he; cases he
    · rw [if_neg h1] at he
      by_cases h9 : tk = 9
      · subst h9
        rw [if_pos rfl] at he
        cases st with
        | nil => cases he
        | cons a r =>
          have he' : (if b01 a = true then some ((if a = 0 then (1 : Int32) else 0) :: r) else none) = some st' := he
          by_cases hb : b01 a = true
          · rw [if_pos hb] at he'
            obtain rfl : (if a = 0 then (1 : Int32) else 0) :: r = st' := by injection he'
            obtain ⟨J, g1, g2, g3⟩ := pop7 (N := N) (L := L) hs
            have hr : r.length < 80 := by have := hs.2.2; rw [List.length_cons] at this; omega
            obtain ⟨J2, p1, p2, p3⟩ := push7 (N := N) (L := L) (a := if a = 0 then (1 : Int32) else 0) g2 hr
            rw [show eC (9, tv) = (-33 : Int32) from rfl, swL_h, if_neg (by decide), if_neg (by decide), if_neg (by decide), if_neg (by decide), if_neg (by decide), if_neg (by decide)]
            unfold f_X7_doStep F_X7_doStep_31
            rw [if_pos (show (-33 : Int32) < 0 by decide), g1, bI_s, if_pos rfl]
            by_cases ha : a = 0
            · rw [if_pos ha] at p1 p2 ⊢
              rw [if_pos ha, p1, bV_s, bV_s]
              exact ⟨J2, rfl, p2, g3.tr p3⟩
            · rw [if_neg ha] at p1 p2 ⊢
              rw [if_neg ha, p1, bV_s, bV_s]
              exact ⟨J2, rfl, p2, g3.tr p3⟩
          · rw [if_neg hb] at he'; cases he'
      · rw [if_neg h9] at he
        -- two are joined
        have two : ∀ (a b : Int32) (r : List Int32), st = b :: a :: r → st' = opL tk a b :: r → 2 ≤ tk → tk ≤ 11 → ∃ I', swL [(63, bI (f_X7_pop N I L) (fun x6 I7 L8 => bI (f_X7_pop N I7 L8) (fun x9 I10 L11 => (if x9 = 0 then F_X7_worth_35 N k (nI v) (ls 0) (ls 1) (ls 2) (ls 3) (nI len) (nI (j + 1)) I10 L11 else some (some (.int x6), I10, L11))))), (97, bV (f_X7_push N (ls 2) I L) (fun I13 L14 => F_X7_worth_35 N k (nI v) (ls 0) (ls 1) (ls 2) (ls 3) (nI len) (nI (j + 1)) I13 L14)), (98, bV (f_X7_push N (ls 3) I L) (fun I16 L17 => F_X7_worth_35 N k (nI v) (ls 0) (ls 1) (ls 2) (ls 3) (nI len) (nI (j + 1)) I16 L17)), (107, bV (f_X7_push N (ls 0) I L) (fun I19 L20 => F_X7_worth_35 N k (nI v) (ls 0) (ls 1) (ls 2) (ls 3) (nI len) (nI (j + 1)) I19 L20)), (110, bV (f_X7_push N (ls 1) I L) (fun I22 L23 => F_X7_worth_35 N k (nI v) (ls 0) (ls 1) (ls 2) (ls 3) (nI len) (nI (j + 1)) I22 L23)), (121, bI (f_X7_pop N I L) (fun x24 I25 L26 => some (some (.int x24), I25, L26)))] (bV (f_X7_doStep N (eC (tk, tv)) I L) (fun I4 L5 => F_X7_worth_35 N k (nI v) (ls 0) (ls 1) (ls 2) (ls 3) (nI len) (nI (j + 1)) I4 L5)) (-eC (tk, tv)) = F_X7_worth_35 N k (nI v) (ls 0) (ls 1) (ls 2) (ls 3) (nI len) (nI (j + 1)) I' L ∧ Cst I' st' ∧ Kp dSk I I' := by
          intro a b r e1 e2 hk1 hk2
          subst e1 e2
          obtain ⟨f1, f2, f3, f4, f5, f6, f7, f8, f9, f10⟩ := chT_f (v := tv) hk1 hk2 h9
          have eN : eC (tk, tv) = -(nI (chT (tk, 0))) := by
            unfold eC
            rw [if_neg (show ¬ tk = 0 by omega), f1]
          have ht : (nI (chT (tk, 0))).toInt = (chT (tk, 0) : Int) := nI_toInt (by omega)
          obtain ⟨J, g1, g2, g3⟩ := pop7 (N := N) (L := L) hs
          obtain ⟨J2, p1, p2, p3⟩ := pop7 (N := N) (L := L) g2
          have hr : r.length < 80 := by have := p2.2.2; have := hs.2.2; rw [List.length_cons, List.length_cons] at this; omega
          obtain ⟨J3, u1, u2, u3⟩ := push7 (N := N) (L := L) (a := opL tk a b) p2 hr
          rw [eN, nn_s, swL_d (by omega)]
          unfold f_X7_doStep
          rw [if_pos (neg_lt0 (by omega) f2), g1, bI_s, if_neg (neg_eq33 (by omega) f4), p1, bI_s, nn_s, joined_s hk1 hk2 h9, bI_s, u1, bV_s, bV_s]
          exact ⟨J3, rfl, u2, (g3.tr p3).tr u3⟩
        by_cases h8 : tk ≤ 8
        · rw [if_pos h8] at he
          match st, hs, he, two with
          | [], _, he, _ => cases he
          | [x], _, he, _ => cases he
          | b :: a :: r, _, he, two =>
            have he' : some (opL tk a b :: r) = some st' := he
            exact two a b r rfl (by injection he' with q; exact q.symm) (by omega) (by omega)
        · rw [if_neg h8] at he
          by_cases h11 : tk ≤ 11
          · rw [if_pos h11] at he
            match st, hs, he, two with
            | [], _, he, _ => cases he
            | [x], _, he, _ => cases he
            | b :: a :: r, _, he, two =>
              have he' : (if b01 a = true ∧ b01 b = true then some (opL tk a b :: r) else none) = some st' := he
              by_cases hb : b01 a = true ∧ b01 b = true
              · rw [if_pos hb] at he'
                exact two a b r rfl (by injection he' with q; exact q.symm) (by omega) (by omega)
              · rw [if_neg hb] at he'; cases he'
          · rw [if_neg h11] at he; cases he
/-- a run of tokens, in the class -/
theorem runC {v len : Nat} {ls : Nat → Int32} (hv : v < 6) (hlen : len ≤ 120) : ∀ (w : List (Nat × Nat)) (j k : Nat) (st st' : List Int32) (I : PI), j + w.length ≤ len → I 19 v = nI len → seg (I 18) eC (120 * v + j) w → Cst I st → evL ls w st = some st' → ∃ I', F_X7_worth_35 N (k + w.length) (nI v) (ls 0) (ls 1) (ls 2) (ls 3) (nI len) (nI j) I L = F_X7_worth_35 N k (nI v) (ls 0) (ls 1) (ls 2) (ls 3) (nI len) (nI (j + w.length)) I' L ∧ Cst I' st' ∧ Kp dSk I I' := by
  intro w
  induction w with
  | nil =>
    intro j k st st' I h1 h2 h3 h4 h5
    have : st = st' := by injection h5
    subst this
    exact ⟨I, rfl, h4, Kp.rf⟩
  | cons t w ih =>
    intro j k st st' I h1 h2 h3 h4 h5
    rw [List.length_cons] at h1 ⊢
    have h5' : (ev1 ls t st).bind (evL ls w) = some st' := h5
    cases he : ev1 ls t st with
    | none => rw [he] at h5'; cases h5'
    | some s1 =>
      rw [he] at h5'
      obtain ⟨I1, g1, g2, g3⟩ := tokC (N := N) (L := L) (k := k + w.length) hv (show j < len by omega) hlen h2 h3.1 h4 he
      obtain ⟨I2, p1, p2, p3⟩ := ih (j + 1) k s1 st' I1 (by omega) ((g3 19 v (by unfold dSk; omega)).trans h2) (seg_cong w (fun q _ => g3 18 q (by unfold dSk; omega)) h3.2) g2 h5'
      refine ⟨I2, ?_, p2, g3.tr p3⟩
      rw [show k + (w.length + 1) = k + w.length + 1 by omega, g1, p1, show j + 1 + w.length = j + (w.length + 1) by omega]
end LAWQ
