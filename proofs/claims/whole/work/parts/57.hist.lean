/-! choice: counted by masks, or one by one -/
def sumU (f : Nat → Nat) : Nat → Nat
  | 0 => 0
  | n + 1 => sumU f n + f n
theorem sumU_s {f : Nat → Nat} {n : Nat} : sumU f (n + 1) = sumU f n + f n := rfl
theorem sumU_congr {f g : Nat → Nat} : ∀ {n : Nat}, (∀ k, k < n → f k = g k) → sumU f n = sumU g n := by
  intro n
  induction n with
  | zero => intro _; rfl
  | succ n ih =>
    intro h
    rw [sumU_s, sumU_s, ih (fun k hk => h k (by omega)), h n (by omega)]
theorem sumU_add {f g : Nat → Nat} : ∀ n : Nat, sumU (fun k => f k + g k) n = sumU f n + sumU g n := by
  intro n
  induction n with
  | zero => rfl
  | succ n ih =>
    rw [sumU_s, sumU_s, sumU_s, ih]
    omega
theorem sumU_0 {f : Nat → Nat} : ∀ n : Nat, (∀ k, k < n → f k = 0) → sumU f n = 0 := by
  intro n
  induction n with
  | zero => intro _; rfl
  | succ n ih =>
    intro h
    rw [sumU_s, ih (fun k hk => h k (by omega)), h n (by omega)]
theorem sumU_one {f : Nat → Nat} {x c : Nat} : ∀ n : Nat, x < n → f x = c → (∀ k, k ≠ x → f k = 0) → sumU f n = c := by
  intro n
  induction n with
  | zero => intro h _ _; omega
  | succ n ih =>
    intro h1 h2 h3
    rw [sumU_s]
    by_cases hx : x = n
    · subst hx
      rw [sumU_0 x (fun k hk => h3 k (by omega)), h2, Nat.zero_add]
    · rw [ih (by omega) h2 h3, h3 n (fun q => hx q.symm), Nat.add_zero]
def hist (M : Nat → Nat) (a w : Nat) : Nat := cnt (fun v => decide (M (v + 1) = w)) a
theorem hist_sum {M : Nat → Nat} {Q : Nat → Bool} {W : Nat} : ∀ a : Nat, (∀ v, v < a → M (v + 1) < W) → sumU (fun w => bif Q w then hist M a w else 0) W = cnt (fun v => Q (M (v + 1))) a := by
  intro a
  induction a with
  | zero =>
    intro _
    refine sumU_0 W (fun k _ => ?_)
    cases Q k <;> rfl
  | succ a ih =>
    intro h
    have e : ∀ w, (bif Q w then hist M (a + 1) w else 0) = (bif Q w then hist M a w else 0) + (bif Q w && decide (M (a + 1) = w) then 1 else 0) := by
      intro w
      have e1 : hist M (a + 1) w = hist M a w + (bif decide (M (a + 1) = w) then 1 else 0) := rfl
      rw [e1]
      cases Q w with
      | false => rfl
      | true =>
        rw [cond_true, cond_true, Bool.true_and]
    rw [sumU_congr (fun k _ => e k), sumU_add, ih (fun v hv => h v (by omega)), cnt_s]
    congr 1
    refine sumU_one W (h a (by omega)) ?_ (fun k hk => ?_)
    · rw [decide_eq_true rfl, Bool.and_true]
    · rw [decide_eq_false (fun q => hk q.symm), Bool.and_false]; rfl
