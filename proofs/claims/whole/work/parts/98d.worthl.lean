theorem seg_cg {A B : Nat → Int32} {f : Nat × Nat → Int32} : ∀ (w : List (Nat × Nat)) {m : Nat}, (∀ j, m ≤ j → j < m + w.length → B j = A j) → seg A f m w → seg B f m w
  | [], m, _, _ => trivial
  | t :: w, m, h, h2 => ⟨(h m (Nat.le_refl _) (by rw [List.length_cons]; omega)).trans h2.1, seg_cg w (fun j h1 hj => h j (by omega) (by rw [List.length_cons]; omega)) h2.2⟩
def valL (ls : Nat → Int32) (w : List (Nat × Nat)) : Int32 := match evL ls w [] with
  | some (v :: _) => v
  | _ => 0
def worthL (ls : Nat → Int32) : List (List (Nat × Nat) × List (Nat × Nat)) → Int32
  | [] => 0
  | t :: cs => if t.1 = [] then valL ls t.2 else if valL ls t.1 = 0 then worthL ls cs else valL ls t.2
theorem worthL_c {ls : Nat → Int32} {wc wv : List (Nat × Nat)} {cs : List (List (Nat × Nat) × List (Nat × Nat))} : worthL ls ((wc, wv) :: cs) = if wc = [] then valL ls wv else if valL ls wc = 0 then worthL ls cs else valL ls wv := rfl
theorem Gd.val {lg : Bool} {r : Nat} {w : List (Nat × Nat)} (h : Gd lg r w) (hr : r ≤ 80) (ls : Nat → Int32) {st : List Int32} (hs : st.length + r ≤ 80) : evL ls w st = some (valL ls w :: st) := by
  obtain ⟨v, -, h2⟩ := h ls
  have h3 := h2 [] (by show 0 + r ≤ 80; omega)
  rw [h2 st hs]
  unfold valL
  rw [h3]
theorem clR_le {A : Nat → Int32} : ∀ (cs : List (List (Nat × Nat) × List (Nat × Nat))) {m e : Nat}, clR A m cs e → m ≤ e
  | [], _, _, h => Nat.le_of_eq h.symm
  | t :: cs, m, e, h => by
    have := clR_le cs h.2.2
    omega
theorem clR_cong {A B : Nat → Int32} : ∀ (cs : List (List (Nat × Nat) × List (Nat × Nat))) {m e : Nat}, (∀ j, m ≤ j → j < e → B j = A j) → clR A m cs e → clR B m cs e
  | [], _, _, _, h => h
  | t :: cs, m, e, hj, h => by
    have hl := clR_le cs h.2.2
    have el : (t.1 ++ t.2).length = t.1.length + t.2.length := List.length_append
    exact ⟨seg_cg (t.1 ++ t.2) (fun j h1 h2 => hj j h1 (by omega)) h.1, (hj _ (by omega) (by omega)).trans h.2.1, clR_cong cs (fun j h1 h2 => hj j (by omega) h2) h.2.2⟩
section LAWR
variable {N : Nat} {L : PL}
theorem lawC {v len : Nat} {ls : Nat → Int32} (hv : v < 6) (hlen : len ≤ 120) : ∀ (cs : List (List (Nat × Nat) × List (Nat × Nat))) (j k : Nat) (I : PI), len < j + k → I 19 v = nI len → clR (I 18) (120 * v + j) cs (120 * v + len) → GCs cs → Cst I [] → ∃ J, F_X7_worth_35 N k (nI v) (ls 0) (ls 1) (ls 2) (ls 3) (nI len) (nI j) I L = some (some (.int (worthL ls cs)), J, L) ∧ Kp dSk I J := by
  intro cs
  induction cs with
  | nil =>
    intro j k I hk h19 h1 h2 h3
    have hj : j = len := by have : 120 * v + len = 120 * v + j := h1; omega
    obtain ⟨k, rfl⟩ : ∃ q, k = q + 1 := ⟨k - 1, by omega⟩
    rw [F_X7_worth_35, if_pos (nI_le (by omega) (by omega))]
    exact ⟨I, rfl, Kp.rf⟩
  | cons t cs ih =>
    intro j k I hk h19 h1 h2 h3
    obtain ⟨wc, wv⟩ := t
    obtain ⟨s1, s2, s3⟩ := h1
    have s2' : I 18 (120 * v + j + (wc.length + wv.length)) = (if wc = [] then -121 else -63) := s2
    have hle : 120 * v + j + (wc.length + wv.length + 1) ≤ 120 * v + len := clR_le cs s3
    have el : (wc ++ wv).length = wc.length + wv.length := List.length_append
    obtain ⟨q1, q2, q3⟩ := h2
    have q1' : wc = [] ∨ (Gd true 18 wc ∧ wc ≠ []) := q1
    have q2' : Gd false 15 wv := q2
    obtain ⟨k, rfl⟩ : ∃ q, k = (q + 1) + (wc ++ wv).length := ⟨k - 1 - (wc ++ wv).length, by omega⟩
    -- the mark
    have mk : ∀ (I1 : PI), Kp dSk I I1 → F_X7_worth_35 N (k + 1) (nI v) (ls 0) (ls 1) (ls 2) (ls 3) (nI len) (nI (j + (wc ++ wv).length)) I1 L = swL [(63, bI (f_X7_pop N I1 L) (fun x6 I7 L8 => bI (f_X7_pop N I7 L8) (fun x9 I10 L11 => (if x9 = 0 then F_X7_worth_35 N k (nI v) (ls 0) (ls 1) (ls 2) (ls 3) (nI len) (nI (j + (wc ++ wv).length + 1)) I10 L11 else some (some (.int x6), I10, L11))))), (97, bV (f_X7_push N (ls 2) I1 L) (fun I13 L14 => F_X7_worth_35 N k (nI v) (ls 0) (ls 1) (ls 2) (ls 3) (nI len) (nI (j + (wc ++ wv).length + 1)) I13 L14)), (98, bV (f_X7_push N (ls 3) I1 L) (fun I16 L17 => F_X7_worth_35 N k (nI v) (ls 0) (ls 1) (ls 2) (ls 3) (nI len) (nI (j + (wc ++ wv).length + 1)) I16 L17)), (107, bV (f_X7_push N (ls 0) I1 L) (fun I19 L20 => F_X7_worth_35 N k (nI v) (ls 0) (ls 1) (ls 2) (ls 3) (nI len) (nI (j + (wc ++ wv).length + 1)) I19 L20)), (110, bV (f_X7_push N (ls 1) I1 L) (fun I22 L23 => F_X7_worth_35 N k (nI v) (ls 0) (ls 1) (ls 2) (ls 3) (nI len) (nI (j + (wc ++ wv).length + 1)) I22 L23)), (121, bI (f_X7_pop N I1 L) (fun x24 I25 L26 => some (some (.int x24), I25, L26)))] (bV (f_X7_doStep N (if wc = [] then -121 else -63) I1 L) (fun I4 L5 => F_X7_worth_35 N k (nI v) (ls 0) (ls 1) (ls 2) (ls 3) (nI len) (nI (j + (wc ++ wv).length + 1)) I4 L5)) (-(if wc = [] then -121 else -63)) := fun I1 hI1 => by
      rw [F_X7_worth_35, if_neg (nI_ge (by omega) (by omega)), show (120 : Int32) = nI 120 from rfl, pk_mul, nI_add, Nat.mul_comm v 120, gd_in (by omega) (by omega), nI_clamp (by omega), hI1 18 _ (by unfold dSk; omega), show 120 * v + (j + (wc ++ wv).length) = 120 * v + j + (wc.length + wv.length) by omega, s2', nmI_s, nI_1]
    by_cases hw : wc = []
    · have e1 : evL ls (wc ++ wv) [] = some (valL ls wv :: []) := by
        rw [hw, List.nil_append]
        exact q2'.val (by omega) ls (by show 0 + 15 ≤ 80; omega)
      obtain ⟨I1, g1, g2, g3⟩ := runC (N := N) (L := L) hv hlen (wc ++ wv) j (k + 1) [] _ I (by omega) h19 s1 h3 e1
      obtain ⟨J, p1, p2, p3⟩ := pop7 (N := N) (L := L) g2
      rw [g1, mk I1 g3, if_pos hw, show -(-121 : Int32) = 121 by decide, swL_h, if_neg (by decide), if_neg (by decide), if_neg (by decide), if_neg (by decide), if_neg (by decide), if_pos (by decide), p1, bI_s]
      refine ⟨J, ?_, g3.tr p3⟩
      rw [worthL_c, if_pos hw]
    · have hg : Gd true 18 wc := by
        rcases q1' with z | z
        · exact absurd z hw
        · exact z.1
      have e1 : evL ls (wc ++ wv) [] = some (valL ls wv :: valL ls wc :: []) := by
        rw [evL_app, hg.val (by omega) ls (by show 0 + 18 ≤ 80; omega)]
        exact q2'.val (by omega) ls (by show 1 + 15 ≤ 80; omega)
      obtain ⟨I1, g1, g2, g3⟩ := runC (N := N) (L := L) hv hlen (wc ++ wv) j (k + 1) [] _ I (by omega) h19 s1 h3 e1
      obtain ⟨J, p1, p2, p3⟩ := pop7 (N := N) (L := L) g2
      obtain ⟨J2, u1, u2, u3⟩ := pop7 (N := N) (L := L) p2
      have kJ : Kp dSk I J2 := (g3.tr p3).tr u3
      rw [g1, mk I1 g3, if_neg hw, show -(-63 : Int32) = 63 by decide, swL_h, if_pos (by decide), p1, bI_s, u1, bI_s]
      rw [worthL_c, if_neg hw]
      by_cases h0 : valL ls wc = 0
      · rw [if_pos h0, if_pos h0]
        have hr : clR (J2 18) (120 * v + (j + (wc ++ wv).length + 1)) cs (120 * v + len) := by
          rw [show 120 * v + (j + (wc ++ wv).length + 1) = 120 * v + j + (wc.length + wv.length + 1) by omega]
          exact clR_cong cs (fun q _ _ => kJ 18 q (by unfold dSk; omega)) s3
        obtain ⟨J3, a1, a2⟩ := ih (j + (wc ++ wv).length + 1) k J2 (by omega) ((kJ 19 v (by unfold dSk; omega)).trans h19) hr q3 u2
        exact ⟨J3, a1, kJ.tr a2⟩
      · rw [if_neg h0, if_neg h0]
        exact ⟨J2, rfl, kJ⟩
end LAWR
