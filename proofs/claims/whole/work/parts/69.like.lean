/-! like: codes turned into one another -/
section LIKE
variable {N m c d : Nat} {n : Nat → Nat} {S : Nat → Nat → Nat} {I : PI} {L : PL}
def rdx (n : Nat) (rd : Bool) (k : Nat) : Nat := bif rd then n - 1 - k else k
def mor (n : Nat) (s t : Nat → Nat) (rd : Bool) (hd : Int32) (sp k : Nat) : Int32 := ((nI (t k) - hd * nI (s (rdx n rd k))) - nI sp * nI k) &&& 3
theorem rdx_lt {n k : Nat} {rd : Bool} (h : k < n) : rdx n rd k < n := by
  unfold rdx
  cases rd
  · exact h
  · show n - 1 - k < n; omega
theorem turn38_s {k : Nat} {rd : Bool} {v3 hd f0 : Int32} {sp : Nat} {r : Int32 → Int32 → Int32 → Int32 → Int32 → Int32 → Int32 → Int32 → PI → PL → RES} (r0 : CSet I m n S) (hc : c < m) (hd0 : d < m) (hnn : n d = n c) (hk : k < n c) : F_X3_isTurned_38 N r (nI c) (nI d) v3 hd (nI sp) (nI (n c)) f0 (nI k) (nI (rdx (n c) rd k)) (nI c) I L = if nI k = 0 then F_X3_isTurned_75 N r (nI c) (nI d) v3 hd (nI sp) (nI (n c)) (mor (n c) (S c) (S d) rd hd sp k) (nI k) (mor (n c) (S c) (S d) rd hd sp k) I L else F_X3_isTurned_75 N r (nI c) (nI d) v3 hd (nI sp) (nI (n c)) f0 (nI k) (mor (n c) (S c) (S d) rd hd sp k) I L := by
  unfold F_X3_isTurned_38
  rw [r0.turn hc (rdx_lt hk), bI_s, r0.turn hd0 (by omega), bI_s, nmI_s]
  rfl
theorem turnLp {rd : Bool} {v3 hd f0 : Int32} {sp : Nat} (r0 : CSet I m n S) (hc : c < m) (hd0 : d < m) (hnn : n d = n c) (hv : v3 = bif rd then 1 else 0) : ∀ (t k i : Nat), 1 ≤ i → i + t = n c → t < k → ∃ q : Bool, F_X3_isTurned_13 N k (nI c) (nI d) v3 hd (nI sp) (nI (n c)) f0 (nI i) I L = some (some (.int (bif q then 1 else 0)), I, L) ∧ (q = true ↔ ∀ a, i ≤ a → a < n c → mor (n c) (S c) (S d) rd hd sp a = f0) := by
  have hn := (r0.2.2.2 c hc).2.1
  intro t
  induction t with
  | zero =>
    intro k i h1 hi hk
    obtain ⟨k, rfl⟩ : ∃ q, k = q + 1 := ⟨k - 1, by omega⟩
    rw [F_X3_isTurned_13, if_pos (nI_le (by omega) (by omega)), gd_k1]
    exact ⟨true, rfl, fun _ a h2 h3 => by omega, fun _ => rfl⟩
  | succ t ih =>
    intro k i h1 hi hk
    obtain ⟨k, rfl⟩ : ∃ q, k = q + 1 := ⟨k - 1, by omega⟩
    have e38 := turn38_s (N := N) (L := L) (k := i) (rd := rd) (v3 := v3) (hd := hd) (f0 := f0) (sp := sp) (r := F_X3_isTurned_13 N k) r0 hc hd0 hnn (by omega)
    rw [if_neg (nI_ne0 (by omega) (by omega))] at e38
    have e0 : F_X3_isTurned_13 N (k + 1) (nI c) (nI d) v3 hd (nI sp) (nI (n c)) f0 (nI i) I L = F_X3_isTurned_75 N (F_X3_isTurned_13 N k) (nI c) (nI d) v3 hd (nI sp) (nI (n c)) f0 (nI i) (mor (n c) (S c) (S d) rd hd sp i) I L := by
      rw [F_X3_isTurned_13, if_neg (nI_ge (by omega) (by omega)), ← e38]
      cases rd with
      | false => rw [hv, ifz_f rfl]; rfl
      | true =>
        rw [hv, ifz_t rfl, nsub1 (by omega), nsub (by omega)]
        rfl
    rw [e0]
    unfold F_X3_isTurned_75
    obtain ⟨q, q1, q2⟩ := ih k (i + 1) (by omega) (by omega) (by omega)
    by_cases h : mor (n c) (S c) (S d) rd hd sp i = f0
    · rw [if_pos h, nI_1]
      refine ⟨q, q1, q2.trans ⟨fun g a h2 h3 => ?_, fun g a h2 h3 => g a (by omega) h3⟩⟩
      by_cases ea : a = i
      · rw [ea]; exact h
      · exact g a (by omega) h3
    · rw [if_neg h, gd_k0]
      exact ⟨false, rfl, fun g => (by cases g), fun g => absurd (g i (Nat.le_refl i) (by omega)) h⟩
theorem isTurned_s {rd : Bool} {v3 hd : Int32} {sp : Nat} (hN : 20000 ≤ N) (r0 : CSet I m n S) (hc : c < m) (hd0 : d < m) (hnn : n d = n c) (hv : v3 = bif rd then 1 else 0) : ∃ q : Bool, f_X3_isTurned N (nI c) (nI d) v3 hd (nI sp) I L = some (some (.int (bif q then 1 else 0)), I, L) ∧ (q = true ↔ ∀ a, a < n c → mor (n c) (S c) (S d) rd hd sp a = mor (n c) (S c) (S d) rd hd sp 0) := by
  obtain ⟨g1, hn, -⟩ := r0.2.2.2 c hc
  obtain ⟨M, rfl⟩ : ∃ q, N = q + 1 := ⟨N - 1, by omega⟩
  have e38 := turn38_s (N := M + 1) (L := L) (k := 0) (rd := rd) (v3 := v3) (hd := hd) (f0 := 0) (sp := sp) (r := F_X3_isTurned_13 (M + 1) M) r0 hc hd0 hnn (by omega)
  rw [if_pos (show nI 0 = 0 from rfl)] at e38
  have e0 : f_X3_isTurned (M + 1) (nI c) (nI d) v3 hd (nI sp) I L = F_X3_isTurned_75 (M + 1) (F_X3_isTurned_13 (M + 1) M) (nI c) (nI d) v3 hd (nI sp) (nI (n c)) (mor (n c) (S c) (S d) rd hd sp 0) (nI 0) (mor (n c) (S c) (S d) rd hd sp 0) I L := by
    unfold f_X3_isTurned
    rw [r0.len hc, bI_s, F_X3_isTurned_13, if_neg (show ¬ nI (n c) ≤ 0 from nI_nle (by omega) (by omega)), ← e38]
    cases rd with
    | false => rw [hv, ifz_f rfl]; rfl
    | true =>
      rw [hv, ifz_t rfl, nsub1 (by omega), show (0 : Int32) = nI 0 from rfl, nsub (by omega)]
      rfl
  rw [e0]
  unfold F_X3_isTurned_75
  rw [if_pos rfl, nI_1]
  obtain ⟨q, q1, q2⟩ := turnLp (N := M + 1) (L := L) (rd := rd) (v3 := v3) (hd := hd) (sp := sp) (f0 := mor (n c) (S c) (S d) rd hd sp 0) r0 hc hd0 hnn hv (n c - 1) M (0 + 1) (by omega) (by omega) (by omega)
  refine ⟨q, q1, q2.trans ⟨fun g a h2 => ?_, fun g a h2 h3 => g a h3⟩⟩
  by_cases ea : a = 0
  · rw [ea]
  · exact g a (by omega) h2
/-- turned so by speed sp -/
def Tn (n : Nat) (s t : Nat → Nat) (rd : Bool) (hd : Int32) (sp : Nat) : Prop := ∀ a, a < n → mor n s t rd hd sp a = mor n s t rd hd sp 0
theorem areLikeLp (hN : 20000 ≤ N) (r0 : CSet I m n S) (hc : c < m) (hd0 : d < m) (hnn : n d = n c) : ∀ (t k i : Nat), i + t = 4 → t < k → ∃ q : Bool, F_X3_areLike_17 N k (nI c) (nI d) (nI i) I L = some (some (.int (bif q then 1 else 0)), I, L) ∧ (q = true ↔ ∃ sp, i ≤ sp ∧ sp < 4 ∧ (Tn (n c) (S c) (S d) false 1 sp ∨ Tn (n c) (S c) (S d) false (-1) sp ∨ Tn (n c) (S c) (S d) true 1 sp ∨ Tn (n c) (S c) (S d) true (-1) sp)) := by
  intro t
  induction t with
  | zero =>
    intro k i hi hk
    obtain ⟨k, rfl⟩ : ∃ q, k = q + 1 := ⟨k - 1, by omega⟩
    rw [F_X3_areLike_17, show (4 : Int32) = nI 4 from rfl, if_pos (nI_le (by omega) (by omega)), gd_k0]
    exact ⟨false, rfl, fun g => (by cases g), fun ⟨sp, h1, h2, _⟩ => by omega⟩
  | succ t ih =>
    intro k i hi hk
    obtain ⟨k, rfl⟩ : ∃ q, k = q + 1 := ⟨k - 1, by omega⟩
    obtain ⟨q1, e1, f1⟩ := isTurned_s (N := N) (L := L) (rd := false) (v3 := 0) (hd := 1) (sp := i) hN r0 hc hd0 hnn rfl
    obtain ⟨q2, e2, f2⟩ := isTurned_s (N := N) (L := L) (rd := false) (v3 := 0) (hd := -1) (sp := i) hN r0 hc hd0 hnn rfl
    obtain ⟨q3, e3, f3⟩ := isTurned_s (N := N) (L := L) (rd := true) (v3 := 1) (hd := 1) (sp := i) hN r0 hc hd0 hnn rfl
    obtain ⟨q4, e4, f4⟩ := isTurned_s (N := N) (L := L) (rd := true) (v3 := 1) (hd := -1) (sp := i) hN r0 hc hd0 hnn rfl
    obtain ⟨q, q1', q2'⟩ := ih k (i + 1) (by omega) (by omega)
    rw [F_X3_areLike_17, show (4 : Int32) = nI 4 from rfl, if_neg (nI_ge (by omega) (by omega)), e1, bI_s]
    cases q1 with
    | true =>
      rw [ifz_t rfl, gd_k1]
      exact ⟨true, rfl, fun _ => ⟨i, Nat.le_refl i, by omega, Or.inl (f1.mp rfl)⟩, fun _ => rfl⟩
    | false =>
      rw [ifz_f rfl, e2, bI_s]
      cases q2 with
      | true =>
        rw [ifz_t rfl, gd_k1]
        exact ⟨true, rfl, fun _ => ⟨i, Nat.le_refl i, by omega, Or.inr (Or.inl (f2.mp rfl))⟩, fun _ => rfl⟩
      | false =>
        rw [ifz_f rfl, e3, bI_s]
        cases q3 with
        | true =>
          rw [ifz_t rfl, gd_k1]
          exact ⟨true, rfl, fun _ => ⟨i, Nat.le_refl i, by omega, Or.inr (Or.inr (Or.inl (f3.mp rfl)))⟩, fun _ => rfl⟩
        | false =>
          rw [ifz_f rfl, e4, bI_s]
          cases q4 with
          | true =>
            rw [ifz_t rfl, gd_k1]
            exact ⟨true, rfl, fun _ => ⟨i, Nat.le_refl i, by omega, Or.inr (Or.inr (Or.inr (f4.mp rfl)))⟩, fun _ => rfl⟩
          | false =>
            rw [ifz_f rfl, nI_1]
            refine ⟨q, q1', q2'.trans ⟨fun ⟨sp, h1, h2, h3⟩ => ⟨sp, by omega, h2, h3⟩, fun ⟨sp, h1, h2, h3⟩ => ?_⟩⟩
            by_cases es : sp = i
            · exfalso
              rw [es] at h3
              rcases h3 with h3 | h3 | h3 | h3
              · cases f1.mpr h3
              · cases f2.mpr h3
              · cases f3.mpr h3
              · cases f4.mpr h3
            · exact ⟨sp, by omega, h2, h3⟩
def mal (n : Nat) (s : Nat → Nat) (rd ar : Bool) (tn sp k : Nat) : Int32 := bif ar then ((nI tn + nI sp * nI k) + (4 - nI (s (rdx n rd k)))) &&& 3 else ((nI tn + nI sp * nI k) + nI (s (rdx n rd k))) &&& 3
def Al (n : Nat) (s t : Nat → Nat) (rd ar : Bool) (tn sp : Nat) : Prop := ∀ k, k < n → mal n s rd ar tn sp k = nI (t k)
theorem turned12_s {k tn sp : Nat} {rd ar : Bool} (r0 : CSet I m n S) (hc : c < m) (hk : k < n c) : f_X12_turned N (nI c) (nI k) (nI tn) (nI sp) (bif rd then 1 else 0) (bif ar then 1 else 0) I L = some (some (.int (mal (n c) (S c) rd ar tn sp k)), I, L) := by
  obtain ⟨h1, h2, h3, h4⟩ := r0
  obtain ⟨g1, g2, g3, g4, g5⟩ := h4 c hc
  have hx := rdx_lt (rd := rd) hk
  have e27 : F_X12_turned_27 N (nI k) (nI tn) (nI sp) (bif ar then 1 else 0) (nI (rdx (n c) rd k)) (24 * nI c) I L = some (some (.int (mal (n c) (S c) rd ar tn sp k)), I, L) := by
    unfold F_X12_turned_27
    rw [show (24 : Int32) = nI 24 from rfl, pk_mul, nI_add, gd_in (by omega) (by omega), nI_clamp (by omega), (g5 _ hx).2.2, nmI_s]
    cases ar with
    | false => rw [ifz_f rfl]; rfl
    | true => rw [ifz_t rfl]; rfl
  unfold f_X12_turned
  cases rd with
  | false =>
    rw [ifz_f rfl]
    exact e27
  | true =>
    rw [ifz_t rfl, gd_in (by omega) (by omega), nI_clamp (by omega), g4, nsub1 (by omega), nsub (by omega)]
    exact e27
theorem alikeLp {h tn sp : Nat} (r0 : CSet I m n S) (hc : c < m) (hd0 : d < m) (hnn : n d = n c) (hh : h < 4) : ∀ (t k i : Nat), i + t = n c → t < k → ∃ q : Bool, F_X12_areAlike_3 N k (nI c) (nI d) (nI tn) (nI sp) (nI h) (nI i) I L = some (some (.int (bif q then 1 else 0)), I, L) ∧ (q = true ↔ ∀ a, i ≤ a → a < n c → mal (n c) (S c) (h.testBit 0) (h.testBit 1) tn sp a = nI (S d a)) := by
  have r' := r0
  obtain ⟨h1, h2, h3, h4⟩ := r'
  obtain ⟨g1, g2, g3, g4, g5⟩ := h4 c hc
  intro t
  induction t with
  | zero =>
    intro k i hi hk
    obtain ⟨k, rfl⟩ : ∃ q, k = q + 1 := ⟨k - 1, by omega⟩
    rw [F_X12_areAlike_3, gd_in (by omega) (by omega), nI_clamp (by omega), g4, if_pos (nI_le (by omega) (by omega)), gd_k1]
    exact ⟨true, rfl, fun _ a h2 h3 => by omega, fun _ => rfl⟩
  | succ t ih =>
    intro k i hi hk
    obtain ⟨k, rfl⟩ : ∃ q, k = q + 1 := ⟨k - 1, by omega⟩
    obtain ⟨q, q1, q2⟩ := ih k (i + 1) (by omega) (by omega)
    have b0 : f_X12_has N (nI h) 0 I L = _ := has12_s (k := 0) (by omega) (by omega)
    have b1 : f_X12_has N (nI h) 1 I L = _ := has12_s (k := 1) (by omega) (by omega)
    rw [F_X12_areAlike_3, gd_in (by omega) (by omega), nI_clamp (by omega), g4, if_neg (nI_ge (by omega) (by omega)), b0, bI_s, b1, bI_s, turned12_s r0 hc (by omega), bI_s, show (24 : Int32) = nI 24 from rfl, pk_mul, nI_add, gd_in (by omega) (by omega), nI_clamp (by omega), ((h4 d hd0).2.2.2.2 i (by omega)).2.2]
    by_cases hm : mal (n c) (S c) (h.testBit 0) (h.testBit 1) tn sp i = nI (S d i)
    · rw [if_pos hm, nI_1]
      refine ⟨q, q1, q2.trans ⟨fun g a h2 h3 => ?_, fun g a h2 h3 => g a (by omega) h3⟩⟩
      by_cases ea : a = i
      · rw [ea]; exact hm
      · exact g a (by omega) h3
    · rw [if_neg hm, gd_k0]
      exact ⟨false, rfl, fun g => (by cases g), fun g => absurd (g i (Nat.le_refl i) (by omega)) hm⟩
def Gl (n : Nat) (s t : Nat → Nat) (tn sp h : Nat) : Prop := Al n s t (h.testBit 0) (h.testBit 1) tn sp
theorem alike_s {h tn sp : Nat} (hN : 20000 ≤ N) (r0 : CSet I m n S) (hc : c < m) (hd0 : d < m) (hnn : n d = n c) (hh : h < 4) : ∃ q : Bool, f_X12_areAlike N (nI c) (nI d) (nI tn) (nI sp) (nI h) I L = some (some (.int (bif q then 1 else 0)), I, L) ∧ (q = true ↔ Gl (n c) (S c) (S d) tn sp h) := by
  have := (r0.2.2.2 c hc).2.1
  obtain ⟨q, q1, q2⟩ := alikeLp (N := N) (L := L) (tn := tn) (sp := sp) r0 hc hd0 hnn hh (n c) N 0 (by omega) (by omega)
  exact ⟨q, q1, q2.trans ⟨fun g k hk => g k (Nat.zero_le k) hk, fun g k _ hk => g k hk⟩⟩
theorem like52 {tn sp : Nat} {r20 : Int32 → Int32 → Int32 → PI → PL → RES} {r43 : Int32 → Int32 → Int32 → Int32 → PI → PL → RES} (hN : 20000 ≤ N) (r0 : CSet I m n S) (hc : c < m) (hd0 : d < m) (hnn : n d = n c) : ∀ (t k h : Nat), h + t = 4 → t < k → (F_X12_like_52 N r20 r43 k (nI c) (nI d) (nI tn) (nI sp) (nI h) I L = r43 (nI c) (nI d) (nI tn) (nI (sp + 1)) I L ∧ ∀ h', h ≤ h' → h' < 4 → ¬ Gl (n c) (S c) (S d) tn sp h') ∨ (F_X12_like_52 N r20 r43 k (nI c) (nI d) (nI tn) (nI sp) (nI h) I L = some (some (.int 1), I, L) ∧ ∃ h', h' < 4 ∧ Gl (n c) (S c) (S d) tn sp h') := by
  intro t
  induction t with
  | zero =>
    intro k h hi hk
    obtain ⟨k, rfl⟩ : ∃ q, k = q + 1 := ⟨k - 1, by omega⟩
    left
    rw [F_X12_like_52, show (4 : Int32) = nI 4 from rfl, if_pos (nI_le (by omega) (by omega)), nI_1]
    exact ⟨rfl, fun h' g1 g2 => by omega⟩
  | succ t ih =>
    intro k h hi hk
    obtain ⟨k, rfl⟩ : ∃ q, k = q + 1 := ⟨k - 1, by omega⟩
    obtain ⟨q, q1, q2⟩ := alike_s (N := N) (L := L) (tn := tn) (sp := sp) (h := h) hN r0 hc hd0 hnn (by omega)
    rw [F_X12_like_52, show (4 : Int32) = nI 4 from rfl, if_neg (nI_ge (by omega) (by omega)), q1, bI_s]
    cases q with
    | true =>
      rw [ifz_t rfl]
      exact Or.inr ⟨rfl, h, by omega, q2.mp rfl⟩
    | false =>
      rw [ifz_f rfl, nI_1]
      rcases ih k (h + 1) (by omega) (by omega) with ⟨e, g⟩ | ⟨e, g⟩
      · refine Or.inl ⟨e, fun h' g1 g2 g3 => ?_⟩
        by_cases eh : h' = h
        · rw [eh] at g3; cases q2.mpr g3
        · exact g h' (by omega) g2 g3
      · exact Or.inr ⟨e, g⟩
theorem like43 {tn : Nat} {r20 : Int32 → Int32 → Int32 → PI → PL → RES} (hN : 20000 ≤ N) (r0 : CSet I m n S) (hc : c < m) (hd0 : d < m) (hnn : n d = n c) : ∀ (t k sp : Nat), sp + t = 4 → t < k → (F_X12_like_43 N r20 k (nI c) (nI d) (nI tn) (nI sp) I L = r20 (nI c) (nI d) (nI (tn + 1)) I L ∧ ∀ s h', sp ≤ s → s < 4 → h' < 4 → ¬ Gl (n c) (S c) (S d) tn s h') ∨ (F_X12_like_43 N r20 k (nI c) (nI d) (nI tn) (nI sp) I L = some (some (.int 1), I, L) ∧ ∃ s h', s < 4 ∧ h' < 4 ∧ Gl (n c) (S c) (S d) tn s h') := by
  intro t
  induction t with
  | zero =>
    intro k sp hi hk
    obtain ⟨k, rfl⟩ : ∃ q, k = q + 1 := ⟨k - 1, by omega⟩
    left
    rw [F_X12_like_43, show (4 : Int32) = nI 4 from rfl, if_pos (nI_le (by omega) (by omega)), nI_1]
    exact ⟨rfl, fun s h' g1 g2 => by omega⟩
  | succ t ih =>
    intro k sp hi hk
    obtain ⟨k, rfl⟩ : ∃ q, k = q + 1 := ⟨k - 1, by omega⟩
    rw [F_X12_like_43, show (4 : Int32) = nI 4 from rfl, if_neg (nI_ge (by omega) (by omega))]
    rcases like52 (L := L) (tn := tn) (sp := sp) (r20 := r20) (r43 := F_X12_like_43 N r20 k) hN r0 hc hd0 hnn 4 N 0 (by omega) (by omega) with ⟨e, g⟩ | ⟨e, h', g1, g2⟩
    · have e' : F_X12_like_52 N r20 (F_X12_like_43 N r20 k) N (nI c) (nI d) (nI tn) (nI sp) 0 I L = _ := e
      rw [e']
      rcases ih k (sp + 1) (by omega) (by omega) with ⟨e2, g2⟩ | ⟨e2, g2⟩
      · refine Or.inl ⟨e2, fun s h' g3 g4 g5 => ?_⟩
        by_cases es : s = sp
        · rw [es]; exact g h' (Nat.zero_le _) g5
        · exact g2 s h' (by omega) g4 g5
      · exact Or.inr ⟨e2, g2⟩
    · have e' : F_X12_like_52 N r20 (F_X12_like_43 N r20 k) N (nI c) (nI d) (nI tn) (nI sp) 0 I L = _ := e
      rw [e']
      exact Or.inr ⟨rfl, sp, h', by omega, g1, g2⟩
theorem like20 (hN : 20000 ≤ N) (r0 : CSet I m n S) (hc : c < m) (hd0 : d < m) (hnn : n d = n c) : ∀ (t k tn : Nat), tn + t = 4 → t < k → ∃ q : Bool, F_X12_like_20 N k (nI c) (nI d) (nI tn) I L = some (some (.int (bif q then 1 else 0)), I, L) ∧ (q = true ↔ ∃ t' s h', tn ≤ t' ∧ t' < 4 ∧ s < 4 ∧ h' < 4 ∧ Gl (n c) (S c) (S d) t' s h') := by
  have r' := r0
  obtain ⟨h1, h2, h3, h4⟩ := r'
  intro t
  induction t with
  | zero =>
    intro k tn hi hk
    obtain ⟨k, rfl⟩ : ∃ q, k = q + 1 := ⟨k - 1, by omega⟩
    rw [F_X12_like_20, show (4 : Int32) = nI 4 from rfl, if_pos (nI_le (by omega) (by omega))]
    exact ⟨false, rfl, fun g => (by cases g), fun ⟨t', s, h', g1, g2, _⟩ => by omega⟩
  | succ t ih =>
    intro k tn hi hk
    obtain ⟨k, rfl⟩ : ∃ q, k = q + 1 := ⟨k - 1, by omega⟩
    rw [F_X12_like_20, show (4 : Int32) = nI 4 from rfl, if_neg (nI_ge (by omega) (by omega)), gd_in (by omega) (by omega), gd_in (by omega) (by omega), nI_clamp (by omega), nI_clamp (by omega), r0.l50 hc, r0.l50 hd0, if_pos (by rw [hnn])]
    obtain ⟨q, q1, q2⟩ := ih k (tn + 1) (by omega) (by omega)
    rcases like43 (L := L) (tn := tn) (r20 := F_X12_like_20 N k) hN r0 hc hd0 hnn 4 N 0 (by omega) (by omega) with ⟨e, g⟩ | ⟨e, s, h', g1, g2, g3⟩
    · have e' : F_X12_like_43 N (F_X12_like_20 N k) N (nI c) (nI d) (nI tn) 0 I L = _ := e
      rw [e']
      refine ⟨q, q1, q2.trans ⟨fun ⟨t', s, h', g1, g2⟩ => ⟨t', s, h', by omega, g2⟩, fun ⟨t', s, h', g1, g2, g3, g4, g5⟩ => ?_⟩⟩
      by_cases et : t' = tn
      · rw [et] at g5
        exact absurd g5 (g s h' (Nat.zero_le s) g3 g4)
      · exact ⟨t', s, h', by omega, g2, g3, g4, g5⟩
    · have e' : F_X12_like_43 N (F_X12_like_20 N k) N (nI c) (nI d) (nI tn) 0 I L = _ := e
      rw [e']
      exact ⟨true, rfl, fun _ => ⟨tn, s, h', Nat.le_refl _, by omega, g1, g2, g3⟩, fun _ => rfl⟩
theorem alk1 : ∀ t : Nat, t < 4 → ∀ sp : Nat, sp < 4 → ∀ s : Nat, s < 4 → ∀ b : Nat, b < 4 → ∀ k : Nat, k < 24 → (((nI t + nI sp * nI k) + nI s) &&& 3 = nI b ↔ ((nI b - 1 * nI s) - nI sp * nI k) &&& 3 = nI t) := by decide +kernel
theorem alk2 : ∀ t : Nat, t < 4 → ∀ sp : Nat, sp < 4 → ∀ s : Nat, s < 4 → ∀ b : Nat, b < 4 → ∀ k : Nat, k < 24 → (((nI t + nI sp * nI k) + (4 - nI s)) &&& 3 = nI b ↔ ((nI b - (-1) * nI s) - nI sp * nI k) &&& 3 = nI t) := by decide +kernel
theorem al_tn {n : Nat} {s t : Nat → Nat} {rd ar : Bool} {sp : Nat} (h1 : 1 ≤ n) (hn : n ≤ 24) (hs : ∀ k, k < n → s k < 4) (ht : ∀ k, k < n → t k < 4) (hp : sp < 4) : (∃ tn, tn < 4 ∧ Al n s t rd ar tn sp) ↔ Tn n s t rd (bif ar then -1 else 1) sp := by
  have key : ∀ tn, tn < 4 → ∀ k, k < n → (mal n s rd ar tn sp k = nI (t k) ↔ mor n s t rd (bif ar then -1 else 1) sp k = nI tn) := fun tn h4 k hk => by
    have q := rdx_lt (rd := rd) hk
    cases ar with
    | false => exact alk1 tn h4 sp hp _ (hs _ q) _ (ht _ hk) k (by omega)
    | true => exact alk2 tn h4 sp hp _ (hs _ q) _ (ht _ hk) k (by omega)
  constructor
  · rintro ⟨tn, h4, h⟩ a ha
    rw [(key tn h4 a ha).mp (h a ha), (key tn h4 0 (by omega)).mp (h 0 (by omega))]
  · intro h
    obtain ⟨j, j4, hj⟩ := pk_andE (((nI (t 0) - (bif ar then -1 else 1) * nI (s (rdx n rd 0))) - nI sp * nI 0)) (m := 3) 2 (by decide)
    have hj' : mor n s t rd (bif ar then -1 else 1) sp 0 = nI j := hj
    exact ⟨j, by omega, fun k hk => (key j (by omega) k hk).mpr ((h k hk).trans hj')⟩
end LIKE
theorem case_like {X : PI → Prop} {N : Nat} (hN : 20000 ≤ N) (a1 a2 : Int32) : CaseI (Inv X) (f_X11_like N a1 a2) (f_X12_like N a1 a2) := by
  intro I L hI
  have hI0 := hI
  obtain ⟨-, -, hC, -⟩ := hI
  obtain ⟨m, n, S, r⟩ := hC.set
  have r' := r
  obtain ⟨h1, h2, h3, h4⟩ := r'
  have eC := f_X11_like.eq_1 N a1 a2 I L
  have eM := f_X12_like.eq_1 N a1 a2 I L
  rw [r.has, bI_s] at eC
  rw [r.is, bI_s] at eM
  cases hq : hz a1 m with
  | false =>
    rw [ifz_f hq] at eC eM
    exact ⟨-1, I, L, I, L, eC, eM, hI0⟩
  | true =>
    rw [ifz_t hq, r.has, bI_s] at eC
    rw [ifz_t hq, r.is, bI_s] at eM
    cases hp : hz a2 m with
    | false =>
      rw [ifz_f hp] at eC eM
      exact ⟨-1, I, L, I, L, eC, eM, hI0⟩
    | true =>
      obtain ⟨c, hc, rfl⟩ := (hz_iff (by omega)).mp hq
      obtain ⟨d, hd, rfl⟩ := (hz_iff (by omega)).mp hp
      rw [ifz_t hp] at eC eM
      obtain ⟨g1, g2, g3, g4, g5⟩ := h4 c hc
      obtain ⟨f1, f2, f3, f4, f5⟩ := h4 d hd
      unfold f_X3_areLike at eC
      rw [r.len hc, bI_s, r.len hd, bI_s] at eC
      by_cases hn : n d = n c
      · obtain ⟨q, q1, q2⟩ := areLikeLp (N := N) (L := L) hN r hc hd hn 4 N 0 (by omega) (by omega)
        obtain ⟨p, p1, p2⟩ := like20 (N := N) (L := L) hN r hc hd hn 4 N 0 (by omega) (by omega)
        have q1' : F_X3_areLike_17 N N (nI c) (nI d) 0 I L = _ := q1
        have p1' : F_X12_like_20 N N (nI c) (nI d) 0 I L = _ := p1
        rw [if_pos (by rw [hn]), q1', bI_s] at eC
        rw [p1'] at eM
        have hs : ∀ k, k < n c → S c k < 4 := fun k hk => (g5 k hk).1
        have ht : ∀ k, k < n c → S d k < 4 := fun k hk => (f5 k (by omega)).1
        have e : q = p := by
          have hqp : q = true ↔ p = true := by
            rw [q2, p2]
            constructor
            · rintro ⟨sp, -, s4, h⟩
              rcases h with h | h | h | h
              · obtain ⟨tn, t4, ha⟩ := (al_tn (ar := false) g1 g2 hs ht s4).mpr h
                exact ⟨tn, sp, 0, Nat.zero_le _, t4, s4, by omega, ha⟩
              · obtain ⟨tn, t4, ha⟩ := (al_tn (ar := true) g1 g2 hs ht s4).mpr h
                exact ⟨tn, sp, 2, Nat.zero_le _, t4, s4, by omega, ha⟩
              · obtain ⟨tn, t4, ha⟩ := (al_tn (ar := false) g1 g2 hs ht s4).mpr h
                exact ⟨tn, sp, 1, Nat.zero_le _, t4, s4, by omega, ha⟩
              · obtain ⟨tn, t4, ha⟩ := (al_tn (ar := true) g1 g2 hs ht s4).mpr h
                exact ⟨tn, sp, 3, Nat.zero_le _, t4, s4, by omega, ha⟩
            · rintro ⟨tn, sp, h, -, t4, s4, h4, ha⟩
              have := (al_tn (rd := h.testBit 0) (ar := h.testBit 1) g1 g2 hs ht s4).mp ⟨tn, t4, ha⟩
              refine ⟨sp, Nat.zero_le _, s4, ?_⟩
              match h, h4 with
              | 0, _ => exact Or.inl this
              | 1, _ => exact Or.inr (Or.inr (Or.inl this))
              | 2, _ => exact Or.inr (Or.inl this)
              | 3, _ => exact Or.inr (Or.inr (Or.inr this))
          cases q with
          | false =>
            cases p with
            | false => rfl
            | true => exact absurd (hqp.mpr rfl) (by decide)
          | true => exact (hqp.mp rfl).symm
        refine ⟨_, I, L, I, L, ?_, eM, hI0⟩
        rw [eC, e]
        cases p with
        | false => rw [ifz_f rfl]; rfl
        | true => rw [ifz_t rfl]; rfl
      · rw [if_neg (fun q => hn ((nI_eq (by omega) (by omega)).mp q.symm)), gd_k0, bI_s, if_pos rfl] at eC
        obtain ⟨M, rfl⟩ : ∃ q, N = q + 1 := ⟨N - 1, by omega⟩
        rw [F_X12_like_20, if_neg (by decide), gd_in (by omega) (by omega), gd_in (by omega) (by omega), nI_clamp (by omega), nI_clamp (by omega), g4, f4, if_neg (fun q => hn ((nI_eq (by omega) (by omega)).mp q.symm))] at eM
        exact ⟨0, I, L, I, L, eC, eM, hI0⟩
