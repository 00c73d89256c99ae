/-! plan: which beams are done -/
theorem sumU_swap {g h : Nat → Nat} {i : Nat} : ∀ m, i < m → (∀ k, k < m → k ≠ i → g k = h k) → sumU g m + h i = sumU h m + g i := by
  intro m
  induction m with
  | zero => intro hi; omega
  | succ m ih =>
    intro hi h1
    rw [sumU_s, sumU_s]
    by_cases e : i = m
    · subst e
      rw [sumU_congr (fun k hk => h1 k (by omega) (by omega))]
      omega
    · have := ih (by omega) (fun k hk => h1 k (by omega))
      rw [h1 m (by omega) (fun q => e q.symm)]
      omega
theorem sumU_mono {f g : Nat → Nat} : ∀ n, (∀ k, k < n → f k ≤ g k) → sumU f n ≤ sumU g n := by
  intro n
  induction n with
  | zero => intro _; exact Nat.le_refl _
  | succ n ih =>
    intro h
    rw [sumU_s, sumU_s]
    have h1 := ih (fun k hk => h k (by omega))
    have h2 := h n (by omega)
    omega
theorem sumU_bd {f : Nat → Nat} {c : Nat} : ∀ n, (∀ k, k < n → f k ≤ c) → sumU f n ≤ c * n := by
  intro n
  induction n with
  | zero => intro _; exact Nat.le_refl _
  | succ n ih =>
    intro h
    rw [sumU_s, Nat.mul_succ]
    have h1 := ih (fun k hk => h k (by omega))
    have h2 := h n (by omega)
    omega
theorem perm_sum : ∀ (m : Nat) (d : Nat → Nat), (∀ i, i < m → d i < m) → (∀ i j, i < j → j < m → d i ≠ d j) → ∀ f : Nat → Nat, sumU (fun i => f (d i)) m = sumU f m := by
  intro m
  induction m with
  | zero => intro d _ _ f; rfl
  | succ m ih =>
    intro d h1 h2 f
    rw [sumU_s, sumU_s]
    by_cases hA : ∃ i, i < m ∧ d i = m
    · obtain ⟨i0, hi0, e0⟩ := hA
      have hx : d m < m := by
        have q1 := h1 m (by omega)
        have q2 := h2 i0 m hi0 (by omega)
        omega
      have e := ih (upM d i0 (d m)) (fun i hi => by
        by_cases e : i = i0
        · rw [e, upM_eq]; exact hx
        · rw [upM_ne e]
          have q1 := h1 i (by omega)
          rcases Nat.lt_or_gt_of_ne e with q | q
          · have := h2 i i0 q (by omega); omega
          · have := h2 i0 i q (by omega); omega) (fun i j hi hj => by
        by_cases e1 : i = i0
        · rw [e1, upM_eq, upM_ne (by omega)]
          exact fun q => h2 j m (by omega) (by omega) q.symm
        · by_cases e2 : j = i0
          · rw [e2, upM_eq, upM_ne e1]
            exact h2 i m (by omega) (by omega)
          · rw [upM_ne e1, upM_ne e2]
            exact h2 i j hi (by omega)) f
      have s := sumU_swap (g := fun i => f (upM d i0 (d m) i)) (h := fun i => f (d i)) (i := i0) m hi0 (fun k _ hk => by
        show f (upM d i0 (d m) k) = f (d k)
        rw [upM_ne hk])
      have s' : sumU (fun i => f (upM d i0 (d m) i)) m + f (d i0) = sumU (fun i => f (d i)) m + f (upM d i0 (d m) i0) := s
      rw [upM_eq, e0, e] at s'
      exact s'.symm
    · have hB : ∀ i, i < m → d i < m := fun i hi => by
        have q1 := h1 i (by omega)
        have q2 : d i ≠ m := fun q => hA ⟨i, hi, q⟩
        omega
      have hi := ih d hB (fun i j hi hj => h2 i j hi (by omega))
      by_cases hx : d m = m
      · rw [hi f, hx]
      · exfalso
        have q1 := h1 m (by omega)
        have e1 := hi (fun b => if b = d m then 1 else 0)
        have e2 : sumU (fun b => if b = d m then 1 else 0) m = 1 := sumU_one (x := d m) (c := 1) m (by omega) (if_pos rfl) (fun k hk => if_neg hk)
        have e3 : sumU (fun i => (fun b => if b = d m then 1 else 0) (d i)) m = 0 := sumU_0 m (fun k hk => if_neg (h2 k m hk (by omega)))
        exact absurd (e3.symm.trans (e1.trans e2)) (by decide)
def pre (S : Nat → Bool) (T d : Nat → Nat) (k : Nat) : Nat := sumU (fun i => bif S (d i) then T (d i) else 0) k
theorem pre_s {S : Nat → Bool} {T d : Nat → Nat} {k : Nat} : pre S T d (k + 1) = pre S T d k + (bif S (d k) then T (d k) else 0) := rfl
def dueS (S : Nat → Bool) (T D : Nat → Nat) (x m : Nat) : Nat := sumU (fun b => bif S b && decide (D b ≤ x) then T b else 0) m
theorem dueS_s {S : Nat → Bool} {T D : Nat → Nat} {x m : Nat} : dueS S T D x (m + 1) = dueS S T D x m + (bif S m && decide (D m ≤ x) then T m else 0) := rfl
theorem done_iff {S : Nat → Bool} {T D d : Nat → Nat} {m : Nat} (h7 : ∀ i, i < m → d i < m) (h8 : ∀ i j, i < j → j < m → d i ≠ d j) (h9 : ∀ i j, i < j → j < m → D (d i) ≤ D (d j)) : (∀ i, i < m → S (d i) = true → pre S T d (i + 1) ≤ D (d i)) ↔ ∀ b, b < m → S b = true → dueS S T D (D b) m ≤ D b := by
  constructor
  · intro h b hb hS
    unfold dueS
    rw [← perm_sum m d h7 h8]
    have : ∀ k, k ≤ m → sumU (fun i => bif S (d i) && decide (D (d i) ≤ D b) then T (d i) else 0) k ≤ D b := by
      intro k
      induction k with
      | zero => intro _; exact Nat.zero_le _
      | succ k ih =>
        intro hk
        cases hs : S (d k) with
        | false =>
          rw [sumU_s, hs, Bool.false_and, cond_false]
          exact ih (by omega)
        | true =>
          by_cases hd : D (d k) ≤ D b
          · have q1 := h k (by omega) hs
            have q2 : sumU (fun i => bif S (d i) && decide (D (d i) ≤ D b) then T (d i) else 0) (k + 1) ≤ pre S T d (k + 1) := sumU_mono (k + 1) (fun i _ => by
              cases S (d i) with
              | false => exact Nat.le_refl _
              | true =>
                rw [Bool.true_and, cond_true]
                cases decide (D (d i) ≤ D b) with
                | false => exact Nat.zero_le _
                | true => exact Nat.le_refl _)
            omega
          · rw [sumU_s, decide_eq_false hd, Bool.and_false, cond_false]
            exact ih (by omega)
    exact this m (Nat.le_refl m)
  · intro h i hi hS
    have q1 := h (d i) (h7 i hi) hS
    unfold dueS at q1
    rw [← perm_sum m d h7 h8] at q1
    have q2 : pre S T d (i + 1) = sumU (fun a => bif S (d a) && decide (D (d a) ≤ D (d i)) then T (d a) else 0) (i + 1) := sumU_congr (fun a ha => by
      have : D (d a) ≤ D (d i) := by
        by_cases e : a = i
        · rw [e]; exact Nat.le_refl _
        · exact h9 a i (by omega) hi
      rw [decide_eq_true this, Bool.and_true])
    have q3 : sumU (fun a => bif S (d a) && decide (D (d a) ≤ D (d i)) then T (d a) else 0) (i + 1) ≤ _ := sumU_le (m := m) (by omega)
    omega
section PLAN
variable {N : Nat} {L : PL} {I : PI} {m : Nat} {T D W d : Nat → Nat}
theorem BS.bnd (b : BS I m T D W d) (S : Nat → Bool) : (∀ k, k ≤ m → pre S T d k ≤ 160) ∧ (∀ x k, k ≤ m → dueS S T D x k ≤ 160) ∧ ∀ k, k ≤ m → sumU (fun b => bif S b then W b else 0) k ≤ 792 := by
  obtain ⟨b1, b2, b3, b4, b5, b6, b7, b8, b9⟩ := b
  refine ⟨fun k hk => ?_, fun x k hk => ?_, fun k hk => ?_⟩
  · have : pre S T d k ≤ 20 * k := sumU_bd k (fun i hi => by
      have := (b4 _ (b7 i (by omega)).2).2.2.2
      cases S (d i) with
      | false => exact Nat.zero_le _
      | true => exact this)
    omega
  · have : dueS S T D x k ≤ 20 * k := sumU_bd k (fun i hi => by
      have := (b4 i (by omega)).2.2.2
      cases S i && decide (D i ≤ x) with
      | false => exact Nat.zero_le _
      | true => exact this)
    omega
  · have : sumU (fun b => bif S b then W b else 0) k ≤ 99 * k := sumU_bd k (fun i hi => by
      have := (b6 i (by omega)).2.2
      cases S i with
      | false => exact Nat.zero_le _
      | true => exact this)
    omega
theorem doneLp0 {x : Nat} (hx : x < 256) (b : BS I m T D W d) : ∀ (t k i : Nat), i + t = m → t < k → ∃ q : Bool, F_X0_canBeDone_4 N k (nI x) (nI (pre x.testBit T d i)) (nI i) I L = some (some (.int (bif q then 1 else 0)), I, L) ∧ (q = true ↔ ∀ a, i ≤ a → a < m → x.testBit (d a) = true → pre x.testBit T d (a + 1) ≤ D (d a)) := by
  have hb := b.bnd x.testBit
  obtain ⟨b1, b2, b3, b4, b5, b6, b7, b8, b9⟩ := b
  intro t
  induction t with
  | zero =>
    intro k i hi hk
    obtain ⟨k, rfl⟩ : ∃ q, k = q + 1 := ⟨k - 1, by omega⟩
    refine ⟨true, ?_, fun _ a h1 h2 => by omega, fun _ => rfl⟩
    rw [F_X0_canBeDone_4, b2, if_pos (nI_le (by omega) (by omega)), gd_k1]
    rfl
  | succ t ih =>
    intro k i hi hk
    obtain ⟨k, rfl⟩ : ∃ q, k = q + 1 := ⟨k - 1, by omega⟩
    obtain ⟨e38, hd⟩ := b7 i (by omega)
    obtain ⟨q, q1, q2⟩ := ih k (i + 1) (by omega) (by omega)
    have hp := hb.1 (i + 1) (by omega)
    rw [F_X0_canBeDone_4, b2, if_neg (nI_ge (by omega) (by omega)), beamAt_s (m := m) b1 (by omega) hd b2 e38, bI_s, if_neg (nI_nl0 (by omega))]
    cases hs : x.testBit (d i) with
    | false =>
      have e : pre x.testBit T d (i + 1) = pre x.testBit T d i := by rw [pre_s, hs]; rfl
      rw [if_neg (fun h => by rw [(has_all x hx _ (by omega)).mp h] at hs; cases hs), nI_1, ← e]
      refine ⟨q, q1, q2.trans ⟨fun h a h1 h2 h3 => ?_, fun h a h1 h2 h3 => h a (by omega) h2 h3⟩⟩
      by_cases ea : a = i
      · rw [ea, hs] at h3; cases h3
      · exact h a (by omega) h2 h3
    | true =>
      have e : pre x.testBit T d (i + 1) = pre x.testBit T d i + T (d i) := by rw [pre_s, hs]; rfl
      rw [if_pos ((has_all x hx _ (by omega)).mpr hs), gd_in (by omega) (by omega), nI_clamp (by omega), (b4 _ hd).1, (b5 _ hd).1, nI_add, nmI_s, gd_in (by omega) (by omega), nI_1, ← e]
      by_cases hle : pre x.testBit T d (i + 1) ≤ D (d i)
      · have := (b5 _ hd).2.2.2
        rw [if_pos (nI_le hle (by omega))]
        refine ⟨q, q1, q2.trans ⟨fun h a h1 h2 h3 => ?_, fun h a h1 h2 h3 => h a (by omega) h2 h3⟩⟩
        by_cases ea : a = i
        · rw [ea]; exact hle
        · exact h a (by omega) h2 h3
      · rw [if_neg (nI_ge (by omega) (by omega)), gd_k0]
        refine ⟨false, rfl, fun h => (by cases h), fun h => absurd (h i (Nat.le_refl i) (by omega) hs) hle⟩
theorem worthLp0 {x : Nat} (hx : x < 256) (b : BS I m T D W d) : ∀ (t k i : Nat), i + t = m → t < k → F_X0_worthOf_4 N k (nI x) (nI (sumU (fun b => bif x.testBit b then W b else 0) i)) (nI i) I L = some (some (.int (nI (sumU (fun b => bif x.testBit b then W b else 0) m))), I, L) := by
  obtain ⟨b1, b2, b3, b4, b5, b6, b7, b8, b9⟩ := b
  intro t
  induction t with
  | zero =>
    intro k i hi hk
    obtain ⟨k, rfl⟩ : ∃ q, k = q + 1 := ⟨k - 1, by omega⟩
    rw [F_X0_worthOf_4, b2, if_pos (nI_le (by omega) (by omega)), show i = m by omega]
  | succ t ih =>
    intro k i hi hk
    obtain ⟨k, rfl⟩ : ∃ q, k = q + 1 := ⟨k - 1, by omega⟩
    have e := sumU_s (f := fun b => bif x.testBit b then W b else 0) (n := i)
    have q1 := ih k (i + 1) (by omega) (by omega)
    rw [F_X0_worthOf_4, b2, if_neg (nI_ge (by omega) (by omega)), nI_1]
    cases hs : x.testBit i with
    | false =>
      rw [hs, cond_false, Nat.add_zero (sumU (fun b => bif x.testBit b then W b else 0) i)] at e
      rw [if_neg (fun h => by rw [(has_all x hx _ (by omega)).mp h] at hs; cases hs), ← e]
      exact q1
    | true =>
      rw [hs, cond_true] at e
      rw [if_pos ((has_all x hx _ (by omega)).mpr hs), gd_in (by omega) (by omega), nI_clamp (by omega), (b6 i (by omega)).1, nI_add, nmI_s, ← e]
      exact q1
theorem isDueLp {x y : Nat} (hx : x < 256) (hy : y ≤ 99) (b : BS I m T D W d) : ∀ (t k i : Nat), i + t = m → t < k → ∃ q : Bool, F_X12_isDue_2 N k (nI x) (nI y) (nI i) I L = some (some (.int (bif q then 1 else 0)), I, L) ∧ (q = true ↔ ∃ a, i ≤ a ∧ a < m ∧ x.testBit a = true ∧ D a = y) := by
  obtain ⟨b1, b2, b3, b4, b5, b6, b7, b8, b9⟩ := b
  intro t
  induction t with
  | zero =>
    intro k i hi hk
    obtain ⟨k, rfl⟩ : ∃ q, k = q + 1 := ⟨k - 1, by omega⟩
    refine ⟨false, ?_, fun h => (by cases h), fun ⟨a, h1, h2, _⟩ => by omega⟩
    rw [F_X12_isDue_2, b3, if_pos (nI_le (by omega) (by omega)), gd_k0]
    rfl
  | succ t ih =>
    intro k i hi hk
    obtain ⟨k, rfl⟩ : ∃ q, k = q + 1 := ⟨k - 1, by omega⟩
    obtain ⟨q, q1, q2⟩ := ih k (i + 1) (by omega) (by omega)
    rw [F_X12_isDue_2, b3, if_neg (nI_ge (by omega) (by omega)), has12_s hx (by omega), bI_s, nI_1]
    have hq : (x.testBit i = true ∧ D i = y → False) → (q = true ↔ ∃ a, i ≤ a ∧ a < m ∧ x.testBit a = true ∧ D a = y) := fun hn => q2.trans ⟨fun ⟨a, h1, h2, h3⟩ => ⟨a, by omega, h2, h3⟩, fun ⟨a, h1, h2, h3⟩ => by
      by_cases ea : a = i
      · rw [ea] at h3; exact absurd h3 hn
      · exact ⟨a, by omega, h2, h3⟩⟩
    cases hs : x.testBit i with
    | false =>
      rw [ifz_f rfl]
      exact ⟨q, q1, hq (fun h => by rw [hs] at h; cases h.1)⟩
    | true =>
      have := (b5 i (by omega)).2.2.2
      rw [ifz_t rfl, gd_in (by omega) (by omega), nI_clamp (by omega), (b5 i (by omega)).2.1]
      by_cases he : D i = y
      · rw [if_pos (by rw [he]), gd_k1]
        exact ⟨true, rfl, fun _ => ⟨i, Nat.le_refl i, by omega, hs, he⟩, fun _ => rfl⟩
      · rw [if_neg (fun h => he ((nI_eq (by omega) (by omega)).mp h))]
        exact ⟨q, q1, hq (fun h => he h.2)⟩
theorem doneLp13 {x y : Nat} {r : Int32 → Int32 → PI → PL → RES} (hN : 20000 ≤ N) (hx : x < 256) (hy : y ≤ 99) (b : BS I m T D W d) : ∀ (t k i : Nat), i + t = m → t < k → F_X12_areDone_13 N r k (nI x) (nI y) (nI (dueS x.testBit T D y i)) (nI i) I L = r (nI x) (nI (y + 1)) I L ∧ (dueS x.testBit T D y m ≤ y ∨ ∀ a, a < m → x.testBit a = true → D a ≠ y) ∨ F_X12_areDone_13 N r k (nI x) (nI y) (nI (dueS x.testBit T D y i)) (nI i) I L = some (some (.int 0), I, L) ∧ y < dueS x.testBit T D y m ∧ ∃ a, a < m ∧ x.testBit a = true ∧ D a = y := by
  have b' := b
  have hb := b.bnd x.testBit
  obtain ⟨b1, b2, b3, b4, b5, b6, b7, b8, b9⟩ := b'
  intro t
  induction t with
  | zero =>
    intro k i hi hk
    obtain ⟨k, rfl⟩ : ∃ q, k = q + 1 := ⟨k - 1, by omega⟩
    obtain rfl : i = m := by omega
    have hd := hb.2.1 y i (Nat.le_refl i)
    rw [F_X12_areDone_13, b3, if_pos (nI_le (Nat.le_refl _) (by omega)), nI_1]
    by_cases hle : dueS x.testBit T D y i ≤ y
    · rw [if_pos (nI_le hle (by omega))]
      exact Or.inl ⟨rfl, Or.inl hle⟩
    · obtain ⟨q, q1, q2⟩ := isDueLp (N := N) (L := L) hx hy b i N 0 (by omega) (by omega)
      have q1' : f_X12_isDue N (nI x) (nI y) I L = _ := q1
      rw [if_neg (nI_ge (by omega) (by omega)), q1', bI_s]
      cases q with
      | false =>
        rw [ifz_f rfl]
        refine Or.inl ⟨rfl, Or.inr fun a h1 h2 h3 => ?_⟩
        have := q2.mpr ⟨a, Nat.zero_le _, h1, h2, h3⟩
        cases this
      | true =>
        rw [ifz_t rfl, gd_k0]
        obtain ⟨a, -, h⟩ := q2.mp rfl
        exact Or.inr ⟨rfl, by omega, a, h⟩
  | succ t ih =>
    intro k i hi hk
    obtain ⟨k, rfl⟩ : ∃ q, k = q + 1 := ⟨k - 1, by omega⟩
    have e := dueS_s (S := x.testBit) (T := T) (D := D) (x := y) (m := i)
    have h := ih k (i + 1) (by omega) (by omega)
    have f0 : F_X12_areDone_53 N r (F_X12_areDone_13 N r k) (nI x) (nI y) (nI i) (nI (dueS x.testBit T D y i)) I L = F_X12_areDone_13 N r k (nI x) (nI y) (nI (dueS x.testBit T D y i)) (nI (i + 1)) I L := by
      unfold F_X12_areDone_53
      rw [nmI_s, nI_1, Int32.add_zero]
    rw [F_X12_areDone_13, b3, if_neg (nI_ge (by omega) (by omega)), has12_s hx (by omega), bI_s]
    cases hs : x.testBit i with
    | false =>
      rw [hs, Bool.false_and, cond_false, Nat.add_zero (dueS x.testBit T D y i)] at e
      rw [ifz_f rfl, f0, ← e]
      exact h
    | true =>
      have := (b5 i (by omega)).2.2.2
      rw [ifz_t rfl, gd_in (by omega) (by omega), gd_in (by omega) (by omega), nI_clamp (by omega), (b5 i (by omega)).2.1, (b4 i (by omega)).2.1]
      by_cases hle : D i ≤ y
      · rw [hs, decide_eq_true hle] at e
        have e' : dueS x.testBit T D y (i + 1) = dueS x.testBit T D y i + T i := e
        rw [if_neg (nI_nlt hle (by omega)), nI_add, nmI_s, nI_1, ← e']
        exact h
      · rw [hs, decide_eq_false hle, Bool.and_false, cond_false, Nat.add_zero (dueS x.testBit T D y i)] at e
        rw [if_pos (nI_lt (by omega) (by omega)), f0, ← e]
        exact h
theorem doneLp12 {x : Nat} (hN : 20000 ≤ N) (hx : x < 256) (b : BS I m T D W d) : ∀ (t k y : Nat), y + t = 100 → 1 ≤ y → t < k → ∃ q : Bool, F_X12_areDone_2 N k (nI x) (nI y) I L = some (some (.int (bif q then 1 else 0)), I, L) ∧ (q = true ↔ ∀ a, a < m → x.testBit a = true → y ≤ D a → dueS x.testBit T D (D a) m ≤ D a) := by
  have b' := b
  obtain ⟨b1, b2, b3, b4, b5, b6, b7, b8, b9⟩ := b'
  intro t
  induction t with
  | zero =>
    intro k y hy h1 hk
    obtain ⟨k, rfl⟩ : ∃ q, k = q + 1 := ⟨k - 1, by omega⟩
    refine ⟨true, ?_, fun _ a h2 _ h3 => ?_, fun _ => rfl⟩
    · rw [F_X12_areDone_2, show (99 : Int32) = nI 99 from rfl, if_pos (nI_lt (by omega) (by omega)), gd_k1]
      rfl
    · have := (b5 a h2).2.2.2
      omega
  | succ t ih =>
    intro k y hy h1 hk
    obtain ⟨k, rfl⟩ : ∃ q, k = q + 1 := ⟨k - 1, by omega⟩
    obtain ⟨q, q1, q2⟩ := ih k (y + 1) (by omega) (by omega) (by omega)
    rw [F_X12_areDone_2, show (99 : Int32) = nI 99 from rfl, if_neg (nI_nlt (by omega) (by omega))]
    rcases doneLp13 (L := L) (r := F_X12_areDone_2 N k) hN hx (by omega : y ≤ 99) b m N 0 (by omega) (by omega) with ⟨h2, h3⟩ | ⟨h2, h3, a, h4, h5, h6⟩
    · have h2' : F_X12_areDone_13 N (F_X12_areDone_2 N k) N (nI x) (nI y) 0 0 I L = _ := h2
      rw [h2']
      refine ⟨q, q1, q2.trans ⟨fun h a g1 g2 g3 => ?_, fun h a g1 g2 g3 => h a g1 g2 (by omega)⟩⟩
      by_cases e : D a = y
      · rw [e]
        rcases h3 with h3 | h3
        · exact h3
        · exact absurd e (h3 a g1 g2)
      · exact h a g1 g2 (by omega)
    · have h2' : F_X12_areDone_13 N (F_X12_areDone_2 N k) N (nI x) (nI y) 0 0 I L = _ := h2
      rw [h2']
      refine ⟨false, rfl, fun h => (by cases h), fun h => ?_⟩
      have := h a h4 h5 (by omega)
      rw [h6] at this
      omega
theorem doneBoth {x : Nat} (hN : 20000 ≤ N) (hx : x < 256) (b : BS I m T D W d) : ∃ q : Bool, f_X0_canBeDone N (nI x) I L = some (some (.int (bif q then 1 else 0)), I, L) ∧ f_X12_areDone N (nI x) I L = some (some (.int (bif q then 1 else 0)), I, L) := by
  have b' := b
  obtain ⟨b1, b2, b3, b4, b5, b6, b7, b8, b9⟩ := b'
  obtain ⟨q, q1, q2⟩ := doneLp0 (N := N) (L := L) hx b m N 0 (by omega) (by omega)
  obtain ⟨z, z1, z2⟩ := doneLp12 (N := N) (L := L) hN hx b 99 N 1 (by omega) (by omega) (by omega)
  have e : q = z := by
    have hq : q = true ↔ z = true := by
      rw [q2, z2]
      have h := done_iff (S := x.testBit) (T := T) (D := D) (d := d) (fun i hi => (b7 i hi).2) b8 b9
      exact ⟨fun h1 a g1 g2 _ => h.mp (fun i hi => h1 i (Nat.zero_le _) hi) a g1 g2, fun h1 i _ hi => h.mpr (fun a g1 g2 => h1 a g1 g2 (b5 a g1).2.2.1) i hi⟩
    cases q with
    | false =>
      cases z with
      | false => rfl
      | true => exact absurd (hq.mpr rfl) (by decide)
    | true => exact (hq.mp rfl).symm
  refine ⟨q, q1, ?_⟩
  rw [e]
  exact z1
theorem worth0_s {x : Nat} (hN : 20000 ≤ N) (hx : x < 256) (b : BS I m T D W d) : f_X0_worthOf N (nI x) I L = some (some (.int (nI (sumU (fun b => bif x.testBit b then W b else 0) m))), I, L) := by
  have := b.1
  exact worthLp0 (N := N) hx b m N 0 (by omega) (by omega)
theorem planLp42 {x y w : Nat} {a1 : Int32} {r : Int32 → Int32 → Int32 → Int32 → PI → PL → RES} (hx : x < 256) (b : BS I m T D W d) : ∀ (t k i : Nat), i + t = m → t < k → F_X12_plan_42 N r k a1 (nI y) (nI w) (nI x) (nI (sumU (fun b => bif x.testBit b then W b else 0) i)) (nI i) I L = (if nI (sumU (fun b => bif x.testBit b then W b else 0) m) ≤ nI w then r a1 (nI y) (nI w) (nI (x + 1)) I L else bI (f_X12_areDone N (nI x) I L) (fun x4 I5 L6 => (if x4 = 0 then r a1 (nI y) (nI w) (nI (x + 1)) I5 L6 else r a1 (nI x) (nI (sumU (fun b => bif x.testBit b then W b else 0) m)) (nI (x + 1)) I5 L6))) := by
  obtain ⟨b1, b2, b3, b4, b5, b6, b7, b8, b9⟩ := b
  intro t
  induction t with
  | zero =>
    intro k i hi hk
    obtain ⟨k, rfl⟩ : ∃ q, k = q + 1 := ⟨k - 1, by omega⟩
    obtain rfl : i = m := by omega
    rw [F_X12_plan_42, b3, if_pos (nI_le (Nat.le_refl _) (by omega)), nI_1]
  | succ t ih =>
    intro k i hi hk
    obtain ⟨k, rfl⟩ : ∃ q, k = q + 1 := ⟨k - 1, by omega⟩
    have e := sumU_s (f := fun b => bif x.testBit b then W b else 0) (n := i)
    have h := ih k (i + 1) (by omega) (by omega)
    rw [F_X12_plan_42, b3, if_neg (nI_ge (by omega) (by omega)), has12_s hx (by omega), bI_s, nI_1]
    cases hs : x.testBit i with
    | false =>
      rw [hs, cond_false, Nat.add_zero (sumU (fun b => bif x.testBit b then W b else 0) i)] at e
      rw [ifz_f rfl, nmI_s, Int32.add_zero, ← e]
      exact h
    | true =>
      rw [hs, cond_true] at e
      rw [ifz_t rfl, gd_in (by omega) (by omega), nI_clamp (by omega), (b6 i (by omega)).2.1, nI_add, nmI_s, ← e]
      exact h
theorem planLp {a1 : Int32} (hN : 20000 ≤ N) (b : BS I m T D W d) : ∀ (t k l i y : Nat), i + t = 2 ^ m → t < k → t < l → y < 256 → ∃ z : Nat, z < 256 ∧ F_X0_bestSet_4 N k (nI y) (nI i) I L = some (some (.int (nI z)), I, L) ∧ F_X12_plan_25 N l a1 (nI y) (nI (sumU (fun b => bif y.testBit b then W b else 0) m)) (nI i) I L = some (some (.int (if a1 = 0 then nI (sumU (fun b => bif z.testBit b then W b else 0) m) else nI z)), I, L) := by
  have b' := b
  obtain ⟨b1, b2, b3, b4, b5, b6, b7, b8, b9⟩ := b'
  have e3 : 2 ^ m ≤ 256 := Nat.pow_le_pow_right (by decide) b1
  intro t
  induction t with
  | zero =>
    intro k l i y hi hk hl hy
    obtain ⟨k, rfl⟩ : ∃ q, k = q + 1 := ⟨k - 1, by omega⟩
    obtain ⟨l, rfl⟩ : ∃ q, l = q + 1 := ⟨l - 1, by omega⟩
    refine ⟨y, hy, ?_, ?_⟩
    · rw [F_X0_bestSet_4, b2, shl_n m (by omega), if_pos (nI_le (by omega) (by omega))]
    · rw [F_X12_plan_25, b3, shl_n m (by omega), if_pos (nI_le (by omega) (by omega))]
      by_cases h0 : a1 = 0
      · rw [if_pos h0, if_pos h0]
      · rw [if_neg h0, if_neg h0]
  | succ t ih =>
    intro k l i y hi hk hl hy
    obtain ⟨k, rfl⟩ : ∃ q, k = q + 1 := ⟨k - 1, by omega⟩
    obtain ⟨l, rfl⟩ : ∃ q, l = q + 1 := ⟨l - 1, by omega⟩
    have hx : i < 256 := by omega
    have w1 := (b.bnd i.testBit).2.2 m (Nat.le_refl m)
    have w2 := (b.bnd y.testBit).2.2 m (Nat.le_refl m)
    obtain ⟨q, q1, q2⟩ := doneBoth (L := L) hN hx b
    have p42 := planLp42 (N := N) (L := L) (a1 := a1) (y := y) (w := sumU (fun b => bif y.testBit b then W b else 0) m) (r := F_X12_plan_25 N l) hx b m N 0 (by omega) (by omega)
    have p42' : F_X12_plan_42 N (F_X12_plan_25 N l) N a1 (nI y) (nI (sumU (fun b => bif y.testBit b then W b else 0) m)) (nI i) 0 0 I L = _ := p42
    rw [F_X12_plan_25, b3, shl_n m (by omega), if_neg (nI_ge (by omega) (by omega)), p42', q2]
    rw [F_X0_bestSet_4, b2, shl_n m (by omega), if_neg (nI_ge (by omega) (by omega)), worth0_s hN hx b, bI_s, worth0_s hN hy b, bI_s, q1, nI_1]
    by_cases hle : sumU (fun b => bif i.testBit b then W b else 0) m ≤ sumU (fun b => bif y.testBit b then W b else 0) m
    · rw [if_pos (nI_le hle (by omega)), if_pos (nI_le hle (by omega))]
      exact ih k l (i + 1) y (by omega) (by omega) (by omega) hy
    · rw [if_neg (nI_ge (by omega) (by omega)), if_neg (nI_ge (by omega) (by omega)), bI_s, bI_s]
      cases q with
      | false =>
        rw [ifz_f rfl, ifz_f rfl]
        exact ih k l (i + 1) y (by omega) (by omega) (by omega) hy
      | true =>
        rw [ifz_t rfl, ifz_t rfl]
        exact ih k l (i + 1) i (by omega) (by omega) (by omega) hx
end PLAN
theorem case_plan {X : PI → Prop} {N : Nat} (hN : 20000 ≤ N) (a1 : Int32) : CaseI (Inv X) (f_X11_plan N a1) (f_X12_plan N a1) := by
  intro I L hI
  have hI0 := hI
  obtain ⟨-, -, -, -, -, hE, -, -⟩ := hI
  obtain ⟨m, T, D, W, d, b⟩ := hE.bs
  have b' := b
  obtain ⟨b1, b2, b3, b4, b5, b6, b7, b8, b9⟩ := b'
  have e3 : 2 ^ m ≤ 256 := Nat.pow_le_pow_right (by decide) b1
  have e4 : 1 ≤ 2 ^ m := Nat.one_le_two_pow
  have eC := f_X11_plan.eq_1 N a1 I L
  have eM := f_X12_plan.eq_1 N a1 I L
  by_cases hm : m = 0
  · rw [b2, if_pos (by rw [hm]; rfl)] at eC
    rw [b3, if_pos (by rw [hm]; rfl)] at eM
    exact ⟨-1, I, L, I, L, eC, eM, hI0⟩
  · rw [b2, if_neg (nI_ne0 (by omega) (by omega)), within_s, bI_s] at eC
    rw [b3, if_neg (nI_ne0 (by omega) (by omega)), in_s, bI_s] at eM
    cases hw : wi a1 0 1 with
    | false =>
      rw [ifz_f hw] at eC eM
      exact ⟨-1, I, L, I, L, eC, eM, hI0⟩
    | true =>
      rw [ifz_t hw] at eC eM
      obtain ⟨z, z1, z2, z3⟩ := planLp (L := L) (a1 := a1) hN b (2 ^ m - 1) N N 1 0 (by omega) (by omega) (by omega) (by omega)
      have z2' : f_X0_bestSet N I L = _ := z2
      have e0 : sumU (fun b => bif (0 : Nat).testBit b then W b else 0) m = 0 := sumU_0 m (fun k _ => by rw [Nat.zero_testBit]; rfl)
      rw [e0] at z3
      rw [z2', bI_s, worth0_s hN z1 b, bI_s] at eC
      refine ⟨_, I, L, I, L, ?_, eM.trans z3, hI0⟩
      rw [eC]
      by_cases h0 : a1 = 0
      · rw [if_pos h0, if_pos h0]
      · rw [if_neg h0, if_neg h0]
