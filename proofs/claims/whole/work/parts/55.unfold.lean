/-! unfold -/
section UNFOLD
variable {N j n : Nat} {P : Nat → Nat} {I : PI} {L : PL}
theorem fitLp (hD : RD I) (r : RSet I j n P) : ∀ (t k l i : Nat), i + t = 8 → t < k → t < l → ∃ q : Bool, F_X8_readingsFit_2 N k (nI j) (nI i) I L = some (some (.int (bif q then 1 else 0)), I, L) ∧ F_X12_areReadings_2 N l (nI j) (nI i) I L = some (some (.int (bif q then 1 else 0)), I, L) := by
  have r' := r
  obtain ⟨⟨q, q1, q2, q3, q4⟩, h1, h2, h3, h4, h5⟩ := r'
  have e8 : (8 : Int32) = nI 8 := rfl
  intro t
  induction t with
  | zero =>
    intro k l i hi hk hl
    obtain ⟨k, rfl⟩ : ∃ q, k = q + 1 := ⟨k - 1, by omega⟩
    obtain ⟨l, rfl⟩ : ∃ q, l = q + 1 := ⟨l - 1, by omega⟩
    refine ⟨true, ?_, ?_⟩
    · rw [F_X8_readingsFit_2, e8, if_pos (nI_le (by omega) (by omega)), k1, gd_t]; rfl
    · rw [F_X12_areReadings_2, e8, if_pos (nI_le (by omega) (by omega)), k1, gd_t]; rfl
  | succ t ih =>
    intro k l i hi hk hl
    obtain ⟨k, rfl⟩ : ∃ q, k = q + 1 := ⟨k - 1, by omega⟩
    obtain ⟨l, rfl⟩ : ∃ q, l = q + 1 := ⟨l - 1, by omega⟩
    obtain ⟨d1, d2⟩ := hD i (by omega)
    have h0 := ih k l (i + 1) (by omega) (by omega) (by omega)
    rw [F_X8_readingsFit_2, F_X12_areReadings_2, e8, if_neg (nI_ge (by omega) (by omega)), if_neg (nI_ge (by omega) (by omega)), gd_in (by omega) (by omega), gd_in (by omega) (by omega), gd_in (by omega) (by omega), gd_in (by omega) (by omega), gd_in (by omega) (by omega), nI_clamp (by omega), nI_clamp (by omega), ← d1, nI_1, h4]
    rcases d2 with d2 | ⟨v, hv, d2⟩
    · rw [if_pos d2, if_pos d2]
      exact h0
    · rw [d2, if_neg (m_ne' (by omega)), if_neg (m_ne' (by omega))]
      by_cases hin : i < n
      · obtain ⟨p1, p2, -, p4⟩ := h5 i hin
        have e9 : nI 8 * nI j + nI i = nI (8 * j + i) := by rw [pk_mul, nI_add]
        rw [r.num hin, bI_s, if_neg (nI_ge hin (by omega)), e9, gd_in (by omega) (by omega), nI_clamp (by omega), p4]
        by_cases hlt : nI v < nI (P i)
        · rw [if_pos hlt, if_pos hlt]
          exact h0
        · rw [if_neg hlt, if_neg hlt, k0, gd_t]
          exact ⟨false, rfl, rfl⟩
      · have hlt : ¬ nI v < -1 := fun q => by rw [m_ngt (by omega)] at q; exact q
        rw [r.numo (by omega) (by omega), bI_s, if_neg hlt, if_pos (nI_le (by omega) (by omega)), k0, gd_t]
        exact ⟨false, rfl, rfl⟩
theorem offsLp {v w : Nat} (hv : v ≤ 999) (hw : w ≤ 9) (hD : RD I) (r : RSet I j n P) : ∀ (t k i c : Nat), i + t = 8 → t < k → c ≤ i → ∃ x : Nat, x ≤ 8 ∧ F_X8_manyToldOff_6 N k (nI j) (nI v) (nI w) (nI c) (nI i) I L = some (some (.int (nI x)), I, L) ∧ (i ≤ n → ∀ l, t < l → F_X12_offs_6 N l (nI j) (nI v) (nI w) (nI c) (nI i) I L = some (some (.int (nI x)), I, L)) ∧ (n ≤ i → x = c) := by
  have r' := r
  obtain ⟨⟨q, q1, q2, q3, q4⟩, h1, h2, h3, h4, h5⟩ := r'
  have e8 : (8 : Int32) = nI 8 := rfl
  intro t
  induction t with
  | zero =>
    intro k i c hi hk hc
    obtain ⟨k, rfl⟩ : ∃ q, k = q + 1 := ⟨k - 1, by omega⟩
    refine ⟨c, by omega, ?_, fun hin l hl => ?_, fun _ => rfl⟩
    · rw [F_X8_manyToldOff_6, e8, if_pos (nI_le (by omega) (by omega))]
    · obtain ⟨l, rfl⟩ : ∃ q, l = q + 1 := ⟨l - 1, by omega⟩
      rw [F_X12_offs_6, gd_in (by omega) (by omega), nI_clamp (by omega), h4, if_pos (nI_le (by omega) (by omega))]
  | succ t ih =>
    intro k i c hi hk hc
    obtain ⟨k, rfl⟩ : ∃ q, k = q + 1 := ⟨k - 1, by omega⟩
    obtain ⟨d1, d2⟩ := hD i (by omega)
    obtain ⟨x0, b0, f0, g0, z0⟩ := ih k (i + 1) c (by omega) (by omega) (by omega)
    obtain ⟨x1, b1, f1, g1, z1⟩ := ih k (i + 1) (c + 1) (by omega) (by omega) (by omega)
    have eC := F_X8_manyToldOff_6.eq_2 N (nI j) (nI v) (nI w) (nI c) (nI i) I L k
    rw [e8, if_neg (nI_ge (by omega) (by omega))] at eC
    by_cases hin : i < n
    · obtain ⟨p1, p2, -, p4⟩ := h5 i hin
      have hm : v % P i < P i := Nat.mod_lt _ (by omega)
      have e9 : nI 8 * nI j + nI i = nI (8 * j + i) := by rw [pk_mul, nI_add]
      rw [r.num hin, bI_s, gd_in (by omega) (by omega), rem8_s (by omega) (by omega) (by omega), bI_s, gd_in (by omega) (by omega), nI_clamp (by omega), nmI_s, nI_1, nI_1, if_neg (m_ne' (by omega))] at eC
      have eM : ∀ l, F_X12_offs_6 N (l + 1) (nI j) (nI v) (nI w) (nI c) (nI i) I L = (if I 27 i = -1 then F_X12_offs_61 N (F_X12_offs_6 N l) (nI j) (nI v) (nI w) (nI c) (nI i) (nI (P i)) 0 I L else F_X12_offs_61 N (F_X12_offs_6 N l) (nI j) (nI v) (nI w) (nI c) (nI i) (nI (P i)) (jabs (nI (v % P i) - I 27 i)) I L) := by
        intro l
        rw [F_X12_offs_6, gd_in (by omega) (by omega), nI_clamp (by omega), h4, if_neg (nI_ge (by omega) (by omega)), e8, e9, gd_in (by omega) (by omega), nI_clamp (by omega), p4, nmI_s, gd_in (by omega) (by omega), gd_in (by omega) (by omega), nI_clamp (by omega), gd_ne (by omega) (by omega), jirem_n (by omega) (by omega) (by omega), d1]
      have e61 : ∀ l s, F_X12_offs_61 N (F_X12_offs_6 N l) (nI j) (nI v) (nI w) (nI c) (nI i) (nI (P i)) s I L = (if jmin s (nI (P i) - s) ≤ nI w then F_X12_offs_6 N l (nI j) (nI v) (nI w) (nI c) (nI (i + 1)) I L else F_X12_offs_6 N l (nI j) (nI v) (nI w) (nI (c + 1)) (nI (i + 1)) I L) := by
        intro l s
        unfold F_X12_offs_61
        rw [nmI_s, nmI_s, nI_1, nI_1, show (0 : Int32) = nI 0 from rfl, nI_add, Nat.add_zero]
      by_cases hr : I 27 i = -1
      · rw [if_pos hr] at eC
        refine ⟨x0, b0, eC.trans f0, fun _ l hl => ?_, fun q => absurd hin (by omega)⟩
        obtain ⟨l, rfl⟩ : ∃ q, l = q + 1 := ⟨l - 1, by omega⟩
        rw [eM, if_pos hr, e61]
        have em : jmin 0 (nI (P i) - 0) ≤ nI w := by
          rw [show (0 : Int32) = nI 0 from rfl, nsub (by omega), jmin_n (by omega) (by omega)]
          exact nI_le (by omega) (by omega)
        rw [if_pos em]
        exact g0 (by omega) l (by omega)
      · rw [if_neg hr] at eC
        by_cases hle : jmin (jabs (nI (v % P i) - I 27 i)) (nI (P i) - jabs (nI (v % P i) - I 27 i)) ≤ nI w
        · rw [if_pos hle] at eC
          refine ⟨x0, b0, eC.trans f0, fun _ l hl => ?_, fun q => absurd hin (by omega)⟩
          obtain ⟨l, rfl⟩ : ∃ q, l = q + 1 := ⟨l - 1, by omega⟩
          rw [eM, if_neg hr, e61, if_pos hle]
          exact g0 (by omega) l (by omega)
        · rw [if_neg hle] at eC
          refine ⟨x1, b1, eC.trans f1, fun _ l hl => ?_, fun q => absurd hin (by omega)⟩
          obtain ⟨l, rfl⟩ : ∃ q, l = q + 1 := ⟨l - 1, by omega⟩
          rw [eM, if_neg hr, e61, if_neg hle]
          exact g1 (by omega) l (by omega)
    · rw [r.numo (by omega) (by omega), bI_s, gd_in (by omega) (by omega), if_pos rfl, nI_1, ite_self] at eC
      have hx : x0 = c := z0 (by omega)
      refine ⟨x0, b0, eC.trans f0, fun h l hl => ?_, fun _ => hx⟩
      obtain ⟨l, rfl⟩ : ∃ q, l = q + 1 := ⟨l - 1, by omega⟩
      rw [F_X12_offs_6, gd_in (by omega) (by omega), nI_clamp (by omega), h4, if_pos (nI_le (by omega) (by omega)), hx]
end UNFOLD
