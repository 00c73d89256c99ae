theorem moR_cong {K K2 : PI} {s : Nat} (h : ∀ a j, (a = 40 ∨ a = 41 ∨ a = 44 ∨ a = 45 ∨ a = 46) → K2 a j = K a j) : ∀ (cs : List (List (Nat × Nat) × List (Nat × Nat))) {c k : Nat}, moR K s c k cs → moR K2 s c k cs
  | [], _, _, _ => trivial
  | t :: cs, c, k, g => ⟨(h 44 _ (by omega)).trans g.1, (h 45 _ (by omega)).trans g.2.1, (h 46 _ (by omega)).trans g.2.2.1, seg_cong (t.1 ++ t.2) (fun j _ => h 40 j (by omega)) g.2.2.2.1, seg_cong (t.1 ++ t.2) (fun j _ => h 41 j (by omega)) g.2.2.2.2.1, moR_cong h cs g.2.2.2.2.2⟩
theorem seg_l {A : Nat → Int32} {f : Nat × Nat → Int32} : ∀ (w : List (Nat × Nat)) {u : List (Nat × Nat)} {m : Nat}, seg A f m (w ++ u) → seg A f m w
  | [], _, _, _ => trivial
  | t :: w, u, m, h => ⟨h.1, seg_l w h.2⟩
theorem seg_r {A : Nat → Int32} {f : Nat × Nat → Int32} : ∀ (w : List (Nat × Nat)) {u : List (Nat × Nat)} {m : Nat}, seg A f m (w ++ u) → seg A f (m + w.length) u
  | [], _, _, h => h
  | t :: w, u, m, h => by
    have := seg_r w h.2
    rw [List.length_cons, show m + (w.length + 1) = m + 1 + w.length by omega]
    exact this
section LAWT
variable {N : Nat} {L : PL}
theorem workOut_s {s c : Nat} {lg : Bool} {r : Nat} {ls : Nat → Int32} {w : List (Nat × Nat)} {I : PI} (hN : 20000 ≤ N) (hs : s ≤ 6) (hc : c + w.length ≤ 120) (hg : Gd lg r w) (hr : r ≤ 80) (h40 : seg (I 40) (fun t => nI t.1) (260 * s + c) w) (h41 : seg (I 41) (fun t => nI t.2) (260 * s + c) w) (h47 : ∀ i, i < 4 → I 47 i = ls i) : ∃ J, f_X12_workOut N (nI s) (nI c) (nI (c + w.length)) I L = some (some (.int (valL ls w)), J, L) ∧ Kp d48 I J := by
  obtain ⟨J, g1, g2, g3⟩ := runMl (N := N) (L := L) (ls := ls) (to := c + w.length) hs (by omega) w c (N - w.length) [] _ I (Nat.le_refl _) h40 h41 h47 (Nat.zero_le _) trivial (hg.val hr ls (by show 0 + r ≤ 80; omega))
  unfold f_X12_workOut
  rw [show (260 : Int32) = nI 260 from rfl, pk_mul, nI_add, nmI_s]
  rw [show N - w.length + w.length = N by omega] at g1
  have g1' : F_X12_workOut_12 N N (nI s) (nI (c + w.length)) 0 (nI (260 * s + c)) I L = F_X12_workOut_12 N (N - w.length) (nI s) (nI (c + w.length)) (nI (valL ls w :: []).length) (nI (260 * s + (c + w.length))) J L := g1
  obtain ⟨M, hM⟩ : ∃ q, N - w.length = q + 1 := ⟨N - w.length - 1, by omega⟩
  rw [g1', hM, F_X12_workOut_12, show (260 : Int32) = nI 260 from rfl, pk_mul, nI_add, if_pos (nI_le (Nat.le_refl _) (by omega)), gd_in0 (by omega) (by omega)]
  refine ⟨J, ?_, g3⟩
  have : J 48 0 = valL ls w := g2.1
  rw [show (0 : Int32).toNatClampNeg = 0 from rfl, this]
theorem worth55 {s c k lc lv : Nat} {ls : Nat → Int32} {wv : List (Nat × Nat)} {I : PI} (hN : 20000 ≤ N) (hs : s ≤ 6) (hk : k < 90) (hlv : lv = wv.length) (hc : c + lc + wv.length ≤ 120) (hg : Gd false 15 wv) (h45 : I 45 (90 * s + k) = nI (c + lc)) (h46 : I 46 (90 * s + k) = nI (c + (lc + lv))) (h40 : seg (I 40) (fun t => nI t.1) (260 * s + c + lc) wv) (h41 : seg (I 41) (fun t => nI t.2) (260 * s + c + lc) wv) (h47 : ∀ i, i < 4 → I 47 i = ls i) : ∃ J, F_X12_worthOf_55 N (nI s) (nI (90 * s + k)) I L = some (some (.int (valL ls wv)), J, L) ∧ Kp d48 I J := by
  subst hlv
  rw [show 260 * s + c + lc = 260 * s + (c + lc) by omega] at h40 h41
  obtain ⟨J, g1, g2⟩ := workOut_s (N := N) (L := L) (c := c + lc) (ls := ls) hN hs hc hg (by omega) h40 h41 h47
  unfold F_X12_worthOf_55
  rw [gd_in (by omega) (by omega), gd_in (by omega) (by omega), nI_clamp (by omega), h45, h46, show c + (lc + wv.length) = c + lc + wv.length by omega, g1, bI_s]
  exact ⟨J, rfl, g2⟩
theorem lawM {s : Nat} {ls : Nat → Int32} (hN : 20000 ≤ N) (hs : s ≤ 6) : ∀ (cs : List (List (Nat × Nat) × List (Nat × Nat))) (c i k : Nat) (I : PI), moR I s c i cs → I 43 s = nI (i + cs.length) → c + tl cs ≤ 120 → i + cs.length ≤ 61 → GCs cs → (∀ i, i < 4 → I 47 i = ls i) → cs.length < k → ∃ J, F_X12_worthOf_5 N k (nI s) (nI (90 * s + i)) I L = some (some (.int (worthL ls cs)), J, L) ∧ Kp d48 I J := by
  intro cs
  induction cs with
  | nil =>
    intro c i k I h1 h2 h3 h4 h5 h6 h7
    obtain ⟨k, rfl⟩ : ∃ q, k = q + 1 := ⟨k - 1, by omega⟩
    have h2' : I 43 s = nI i := h2
    rw [F_X12_worthOf_5, gd_in (by omega) (by omega), show (90 : Int32) = nI 90 from rfl, nI_clamp (by omega), h2', pk_mul, nI_add, if_pos (nI_le (Nat.le_refl _) (by omega))]
    exact ⟨I, rfl, Kp.rf⟩
  | cons t cs ih =>
    intro c i k I h1 h2 h3 h4 h5 h6 h7
    obtain ⟨wc, wv⟩ := t
    rw [List.length_cons] at h2 h4 h7
    obtain ⟨k, rfl⟩ : ∃ q, k = q + 1 := ⟨k - 1, by omega⟩
    obtain ⟨m1, m2, m3, m4, m5, m6⟩ := h1
    have m2' : I 45 (90 * s + i) = nI (c + wc.length) := m2
    have m3' : I 46 (90 * s + i) = nI (c + (wc.length + wv.length)) := m3
    have h3' : c + (wc.length + wv.length + tl cs) ≤ 120 := h3
    obtain ⟨q1, q2, q3⟩ := h5
    have q1' : wc = [] ∨ (Gd true 18 wc ∧ wc ≠ []) := q1
    have q2' : Gd false 15 wv := q2
    have a40 := seg_l wc m4
    have a41 := seg_l wc m5
    have b40 := seg_r wc m4
    have b41 := seg_r wc m5
    rw [F_X12_worthOf_5, gd_in (by omega) (by omega), show (90 : Int32) = nI 90 from rfl, nI_clamp (n := s) (by omega), h2, pk_mul, nI_add, if_neg (nI_ge (by omega) (by omega)), gd_in (by omega) (by omega), gd_in (by omega) (by omega), nI_clamp (n := 90 * s + i) (by omega), m1, m2', worthL_c]
    by_cases hw : wc = []
    · obtain ⟨J, g1, g2⟩ := worth55 (N := N) (L := L) (k := i) (c := c) (lc := wc.length) (ls := ls) hN hs (by omega) rfl (by omega) q2' m2' m3' b40 b41 h6
      rw [if_pos (by rw [hw]; rfl), if_pos hw, g1]
      exact ⟨J, rfl, g2⟩
    · have hg : Gd true 18 wc := by
        rcases q1' with z | z
        · exact absurd z hw
        · exact z.1
      have hl : wc.length ≠ 0 := fun z => hw (List.eq_nil_of_length_eq_zero z)
      obtain ⟨J, g1, g2⟩ := workOut_s (N := N) (L := L) (c := c) (ls := ls) hN hs (by omega) hg (by omega) a40 a41 h6
      rw [if_neg (fun z => by have := (nI_eq (by omega) (by omega)).mp z; omega), if_neg hw, gd_in (by omega) (by omega), gd_in (by omega) (by omega), g1, bI_s]
      by_cases h0 : valL ls wc = 0
      · rw [if_pos h0, if_pos h0, nI_1, show 90 * s + i + 1 = 90 * s + (i + 1) by omega]
        obtain ⟨J2, p1, p2⟩ := ih (c + (wc.length + wv.length)) (i + 1) k J (moR_cong (fun a j ha => g2 a j (by unfold d48; omega)) cs m6) ((g2 43 s (by unfold d48; omega)).trans (by rw [h2, show i + (cs.length + 1) = i + 1 + cs.length by omega])) (by omega) (by omega) q3 (fun a ha => (g2 47 a (by unfold d48; omega)).trans (h6 a ha)) (by omega)
        exact ⟨J2, p1, g2.tr p2⟩
      · obtain ⟨J2, p1, p2⟩ := worth55 (N := N) (L := L) (k := i) (c := c) (lc := wc.length) (I := J) (ls := ls) hN hs (by omega) rfl (by omega) q2' ((g2 45 _ (by unfold d48; omega)).trans m2') ((g2 46 _ (by unfold d48; omega)).trans m3') (seg_cong wv (fun j _ => g2 40 j (by unfold d48; omega)) b40) (seg_cong wv (fun j _ => g2 41 j (by unfold d48; omega)) b41) (fun a ha => (g2 47 a (by unfold d48; omega)).trans (h6 a ha))
        rw [if_neg h0, if_neg h0, p1]
        exact ⟨J2, rfl, g2.tr p2⟩
end LAWT
