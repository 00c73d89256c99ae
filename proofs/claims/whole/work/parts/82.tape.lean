/-! the tape, as both read it -/
def TP (I : PI) (n : Nat) (T : Nat → Nat) : Prop := n ≤ 120 ∧ I 10 1 = nI n ∧ I 12 2 = nI n ∧ ∀ k, k < n → I 14 k = nI (T k) ∧ I 39 k = nI (T k) ∧ 1 ≤ T k ∧ T k ≤ 255
theorem RT.tp {I : PI} (r : RT I) : ∃ (n : Nat) (T : Nat → Nat), TP I n T := by
  obtain ⟨n, h1, h2, h3, h4⟩ := r
  refine ⟨n, fun k => (I 14 k).toNatClampNeg, h1, h2, h3, fun k hk => ?_⟩
  obtain ⟨q1, b, q2, q3, q4⟩ := h4 k hk
  show I 14 k = nI (I 14 k).toNatClampNeg ∧ I 39 k = nI (I 14 k).toNatClampNeg ∧ 1 ≤ (I 14 k).toNatClampNeg ∧ (I 14 k).toNatClampNeg ≤ 255
  rw [← q1, q4, nI_clamp (by omega)]
  exact ⟨rfl, rfl, q2, q3⟩
theorem TP.cong {I J : PI} {n : Nat} {T : Nat → Nat} (h : ∀ a k, dT a k → J a k = I a k) (t : TP I n T) : TP J n T := by
  obtain ⟨h1, h2, h3, h4⟩ := t
  refine ⟨h1, (h 10 1 (by unfold dT; omega)).trans h2, (h 12 2 (by unfold dT; omega)).trans h3, fun k hk => ?_⟩
  rw [h 14 k (by unfold dT; omega), h 39 k (by unfold dT; omega)]
  exact h4 k hk
/-- the tape as the model has it: the class's own size may have changed -/
def TM (I : PI) (n : Nat) (T : Nat → Nat) : Prop := n ≤ 120 ∧ True ∧ I 12 2 = nI n ∧ ∀ k, k < n → I 14 k = nI (T k) ∧ I 39 k = nI (T k) ∧ 1 ≤ T k ∧ T k ≤ 255
theorem TP.tm {I : PI} {n : Nat} {T : Nat → Nat} (t : TP I n T) : TM I n T := ⟨t.1, trivial, t.2.2⟩
theorem TM.cong0 {I J : PI} {n : Nat} {T : Nat → Nat} (h2 : J 12 2 = I 12 2) (h14 : ∀ k, J 14 k = I 14 k) (h39 : ∀ k, J 39 k = I 39 k) (t : TM I n T) : TM J n T := by
  obtain ⟨t1, t2, t3, t4⟩ := t
  refine ⟨t1, trivial, h2.trans t3, fun k hk => ?_⟩
  rw [h14, h39]
  exact t4 k hk
theorem TM.cong {I J : PI} {n : Nat} {T : Nat → Nat} (h : ∀ a k, dT a k → J a k = I a k) (t : TM I n T) : TM J n T := t.cong0 (h 12 2 (by unfold dT; omega)) (fun k => h 14 k (by unfold dT; omega)) (fun k => h 39 k (by unfold dT; omega))
def skF (T : Nat → Nat) (n : Nat) : Nat → Nat → Nat
  | 0, p => p
  | f + 1, p => if p < n ∧ T p = 32 then skF T n f (p + 1) else p
/-- the next place that is no blank -/
def skp (T : Nat → Nat) (n p : Nat) : Nat := skF T n (n - p) p
section TAPE
variable {N n p : Nat} {T : Nat → Nat} {L : PL}
theorem skp_b (h : p < n) (h2 : T p = 32) : skp T n p = skp T n (p + 1) := by
  unfold skp
  rw [show n - p = (n - (p + 1)) + 1 by omega]
  show (if p < n ∧ T p = 32 then skF T n (n - (p + 1)) (p + 1) else p) = _
  rw [if_pos ⟨h, h2⟩]
theorem skp_n (h : ¬ (p < n ∧ T p = 32)) : skp T n p = p := by
  unfold skp
  cases hf : n - p with
  | zero => rfl
  | succ f =>
    show (if p < n ∧ T p = 32 then skF T n f (p + 1) else p) = p
    rw [if_neg h]
theorem skp_ok : ∀ (t p : Nat), p + t = n → p ≤ skp T n p ∧ skp T n p ≤ n ∧ ¬ (skp T n p < n ∧ T (skp T n p) = 32) := by
  intro t
  induction t with
  | zero =>
    intro p hp
    rw [skp_n (by omega)]
    omega
  | succ t ih =>
    intro p hp
    by_cases h : p < n ∧ T p = 32
    · rw [skp_b h.1 h.2]
      have := ih (p + 1) (by omega)
      omega
    · rw [skp_n h]
      omega
theorem skp_le (h : p ≤ n) : p ≤ skp T n p ∧ skp T n p ≤ n := by
  have := skp_ok (T := T) (n := n) (n - p) p (by omega)
  omega
theorem skp_id (h : p ≤ n) : skp T n (skp T n p) = skp T n p := skp_n (skp_ok (T := T) (n := n) (n - p) p (by omega)).2.2
def cpC (T : Nat → Nat) (n p : Nat) : Int32 := if p < n then nI (T p) else 0
def cpM (T : Nat → Nat) (n p : Nat) : Int32 := if p < n then nI (T p) else -1
def d10 (a k : Nat) : Prop := a = 10 ∧ k = 2
def d12 (a k : Nat) : Prop := a = 12 ∧ k = 3
theorem d10_dT {I J : PI} (h : Kp d10 I J) : ∀ a k, dT a k → J a k = I a k := fun a k hc => h a k (fun q => by unfold d10 at q; unfold dT at hc; omega)
theorem d12_dT {I J : PI} (h : Kp d12 I J) : ∀ a k, dT a k → J a k = I a k := fun a k hc => h a k (fun q => by unfold d12 at q; unfold dT at hc; omega)
theorem here10 {I : PI} (t : TP I n T) (hp : p ≤ n) (h : I 10 2 = nI p) : f_X10_here N I L = some (some (.int (cpC T n p)), I, L) := by
  obtain ⟨t1, t2, t3, t4⟩ := t
  unfold f_X10_here cpC
  rw [h, t2, if_neg (nI_pos (by omega))]
  by_cases h2 : p < n
  · rw [if_neg (nI_ge h2 (by omega)), gd_in (by omega) (by omega), nI_clamp (by omega), (t4 p h2).1, if_pos h2]
  · rw [if_pos (nI_le (by omega) (by omega)), if_neg h2]
theorem here12 {I : PI} (t : TM I n T) (hp : p ≤ n) (h : I 12 3 = nI p) : f_X12_here N I L = some (some (.int (cpM T n p)), I, L) := by
  obtain ⟨t1, t2, t3, t4⟩ := t
  unfold f_X12_here cpM
  rw [h, t3]
  by_cases h2 : p < n
  · rw [if_neg (nI_ge h2 (by omega)), gd_in (by omega) (by omega), nI_clamp (by omega), (t4 p h2).2.1, if_pos h2]
  · rw [if_pos (nI_le (by omega) (by omega)), if_neg h2]
theorem next10Lp : ∀ (t k p : Nat) (I : PI), p + t = n → t < k → TP I n T → I 10 2 = nI p → ∃ J, F_X10_next_0 N k I L = some (some (.int (cpC T n (skp T n p))), J, L) ∧ Kp d10 I J ∧ J 10 2 = nI (skp T n p) := by
  intro t
  induction t with
  | zero =>
    intro k p I hp hk t h
    obtain ⟨k, rfl⟩ : ∃ q, k = q + 1 := ⟨k - 1, by omega⟩
    have hn := t.1
    rw [F_X10_next_0, h, t.2.1, if_pos (nI_le (by omega) (by omega)), skp_n (by omega)]
    unfold F_X10_next_33
    rw [here10 t (by omega) h, bI_s]
    exact ⟨I, rfl, Kp.rf, h⟩
  | succ t ih =>
    intro k p I hp hk tp h
    obtain ⟨k, rfl⟩ : ∃ q, k = q + 1 := ⟨k - 1, by omega⟩
    have hn := tp.1
    have hb := (tp.2.2.2 p (by omega)).2.2
    rw [F_X10_next_0, h, tp.2.1, if_neg (nI_ge (by omega) (by omega)), here10 tp (by omega) h, bI_s]
    have ec : cpC T n p = nI (T p) := if_pos (by omega)
    by_cases h32 : T p = 32
    · rw [ec, if_pos (show nI (T p) = (32 : Int32) by rw [h32]; rfl), h, nI_1, nmW_s, skp_b (by omega) h32]
      have kU : Kp d10 I (uI I 10 2 (nI (p + 1))) := Kp.rf.up ⟨rfl, rfl⟩
      obtain ⟨J, g1, g2, g3⟩ := ih k (p + 1) _ (by omega) (by omega) (tp.cong (d10_dT kU)) uI_eq
      exact ⟨J, g1, kU.tr g2, g3⟩
    · rw [ec, if_neg (show ¬ nI (T p) = (32 : Int32) from fun q => h32 ((nI_eq (b := 32) (by omega) (by omega)).mp q)), skp_n (fun q => h32 q.2)]
      unfold F_X10_next_33
      rw [here10 tp (by omega) h, bI_s]
      exact ⟨I, rfl, Kp.rf, h⟩
theorem next10 {I : PI} (hN : 20000 ≤ N) (t : TP I n T) (hp : p ≤ n) (h : I 10 2 = nI p) : ∃ J, f_X10_next N I L = some (some (.int (cpC T n (skp T n p))), J, L) ∧ Kp d10 I J ∧ J 10 2 = nI (skp T n p) := by
  have := t.1
  exact next10Lp (N := N) (n - p) N p I (by omega) (by omega) t h
theorem look12Lp : ∀ (t k p : Nat) (I : PI), p + t = n → t < k → TM I n T → I 12 3 = nI p → ∃ J, F_X12_look_0 N k I L = some (some (.int (cpM T n (skp T n p))), J, L) ∧ Kp d12 I J ∧ J 12 3 = nI (skp T n p) := by
  intro t
  induction t with
  | zero =>
    intro k p I hp hk t h
    obtain ⟨k, rfl⟩ : ∃ q, k = q + 1 := ⟨k - 1, by omega⟩
    have hn := t.1
    have ec : cpM T n p = -1 := if_neg (by omega)
    rw [F_X12_look_0, here12 t (by omega) h, bI_s, ec, if_neg (show ¬ (-1 : Int32) = 32 by decide), here12 t (by omega) h, bI_s, skp_n (by omega)]
    exact ⟨I, rfl, Kp.rf, h⟩
  | succ t ih =>
    intro k p I hp hk tp h
    obtain ⟨k, rfl⟩ : ∃ q, k = q + 1 := ⟨k - 1, by omega⟩
    have hn := tp.1
    have hb := (tp.2.2.2 p (by omega)).2.2
    have ec : cpM T n p = nI (T p) := if_pos (by omega)
    rw [F_X12_look_0, here12 tp (by omega) h, bI_s]
    by_cases h32 : T p = 32
    · rw [ec, if_pos (show nI (T p) = (32 : Int32) by rw [h32]; rfl), h, nI_1, nmW_s, skp_b (by omega) h32]
      have kU : Kp d12 I (uI I 12 3 (nI (p + 1))) := Kp.rf.up ⟨rfl, rfl⟩
      obtain ⟨J, g1, g2, g3⟩ := ih k (p + 1) _ (by omega) (by omega) (tp.cong (d12_dT kU)) uI_eq
      exact ⟨J, g1, kU.tr g2, g3⟩
    · rw [ec, if_neg (show ¬ nI (T p) = (32 : Int32) from fun q => h32 ((nI_eq (b := 32) (by omega) (by omega)).mp q)), here12 tp (by omega) h, bI_s, skp_n (fun q => h32 q.2), ec]
      exact ⟨I, rfl, Kp.rf, h⟩
theorem look12 {I : PI} (hN : 20000 ≤ N) (t : TM I n T) (hp : p ≤ n) (h : I 12 3 = nI p) : ∃ J, f_X12_look N I L = some (some (.int (cpM T n (skp T n p))), J, L) ∧ Kp d12 I J ∧ J 12 3 = nI (skp T n p) := by
  have := t.1
  exact look12Lp (N := N) (n - p) N p I (by omega) (by omega) t h
theorem step10 {I : PI} (t : TP I n T) (hp : p < n) (h : I 10 2 = nI p) : f_X10_step N I L = some (none, uI I 10 2 (nI (p + 1)), L) := by
  have := t.1
  unfold f_X10_step
  rw [h, t.2.1, if_neg (nI_ge hp (by omega)), nI_1, nmW_s]
/-- the sign at a place: there, and that -/
def isCh (T : Nat → Nat) (n p c : Nat) : Bool := decide (p < n ∧ T p = c)
theorem chC_eq {I : PI} {c : Nat} (t : TP I n T) (hc : 1 ≤ c) (hc2 : c < 2 ^ 31) : (cpC T n p = nI c) ↔ isCh T n p c = true := by
  unfold cpC isCh
  rw [decide_eq_true_eq]
  by_cases h : p < n
  · have := (t.2.2.2 p h).2.2
    rw [if_pos h, nI_eq (by omega) hc2]
    exact ⟨fun q => ⟨h, q⟩, fun q => q.2⟩
  · rw [if_neg h]
    exact ⟨fun q => absurd q.symm (nI_ne0 hc hc2), fun q => absurd q.1 h⟩
theorem chM_eq {I : PI} {c : Nat} (t : TM I n T) (hc2 : c < 2 ^ 31) : (cpM T n p = nI c) ↔ isCh T n p c = true := by
  unfold cpM isCh
  rw [decide_eq_true_eq]
  by_cases h : p < n
  · have := (t.2.2.2 p h).2.2
    rw [if_pos h, nI_eq (by omega) hc2]
    exact ⟨fun q => ⟨h, q⟩, fun q => q.2⟩
  · rw [if_neg h]
    exact ⟨fun q => absurd q.symm (m_ne' hc2), fun q => absurd q.1 h⟩
theorem isCh_n {c : Nat} (h : isCh T n p c = true) : p < n := (of_decide_eq_true h).1
theorem take10 {I : PI} {c : Nat} {x : Int32} (hN : 20000 ≤ N) (t : TP I n T) (hp : p ≤ n) (h : I 10 2 = nI p) (hx : x = nI c) (hc : 1 ≤ c) (hc2 : c < 2 ^ 31) : ∃ J, f_X10_take N x I L = some (some (.int (bif isCh T n (skp T n p) c then 1 else 0)), J, L) ∧ Kp d10 I J ∧ J 10 2 = nI (bif isCh T n (skp T n p) c then skp T n p + 1 else skp T n p) := by
  obtain ⟨J, e, k, q⟩ := next10 (N := N) (L := L) hN t hp h
  have tJ := t.cong (d10_dT k)
  unfold f_X10_take
  rw [e, bI_s, hx]
  cases hc3 : isCh T n (skp T n p) c with
  | true =>
    rw [if_pos ((chC_eq t hc hc2).mpr hc3), step10 tJ (isCh_n hc3) q, bV_s, gd_k1]
    exact ⟨_, rfl, k.up ⟨rfl, rfl⟩, uI_eq⟩
  | false =>
    rw [if_neg (fun g => by rw [(chC_eq t hc hc2).mp g] at hc3; cases hc3), gd_k0]
    exact ⟨J, rfl, k, q⟩
/-- a digit at a place -/
def isDg (T : Nat → Nat) (n p : Nat) : Bool := decide (p < n ∧ 48 ≤ T p ∧ T p ≤ 57)
theorem isDg_t (h : isDg T n p = true) : p < n ∧ 48 ≤ T p ∧ T p ≤ 57 := of_decide_eq_true h
theorem isDg_f (h : isDg T n p = false) : ¬ (p < n ∧ 48 ≤ T p ∧ T p ≤ 57) := of_decide_eq_false h
theorem dg10 {I : PI} (t : TP I n T) (hp : p ≤ n) (h : I 10 2 = nI p) : f_X10_digit N I L = some (some (.int (if isDg T n p = true then nI (T p - 48) else -1)), I, L) := by
  unfold f_X10_digit
  rw [here10 t hp h, bI_s]
  unfold cpC
  by_cases h2 : p < n
  · have hb := (t.2.2.2 p h2).2.2
    rw [if_pos h2, show (48 : Int32) = nI 48 from rfl, show (57 : Int32) = nI 57 from rfl]
    by_cases h3 : T p < 48
    · rw [if_pos (nI_lt h3 (by omega)), if_neg (fun q => by have := isDg_t q; omega)]
    · rw [if_neg (nI_nlt (by omega) (by omega))]
      by_cases h4 : 57 < T p
      · rw [if_pos (nI_lt h4 (by omega)), if_neg (fun q => by have := isDg_t q; omega)]
      · rw [if_neg (nI_nlt (by omega) (by omega)), if_pos (show isDg T n p = true from decide_eq_true ⟨h2, by omega, by omega⟩), nsub (by omega)]
  · rw [if_neg h2, if_pos (show (0 : Int32) < 48 by decide), if_neg (fun q => h2 (isDg_t q).1)]
theorem dg12 {I : PI} : TM I n T → f_X12_isDigit N (cpM T n p) I L = some (some (.int (bif isDg T n p then 1 else 0)), I, L) := by
  intro t
  unfold f_X12_isDigit cpM
  rw [gd_k0, gd_k1]
  by_cases h2 : p < n
  · have hb := (t.2.2.2 p h2).2.2
    rw [if_pos h2, show (48 : Int32) = nI 48 from rfl, show (57 : Int32) = nI 57 from rfl]
    by_cases h3 : T p < 48
    · rw [if_pos (nI_lt h3 (by omega)), show isDg T n p = false from decide_eq_false (by omega)]; rfl
    · rw [if_neg (nI_nlt (by omega) (by omega))]
      by_cases h4 : 57 < T p
      · rw [if_pos (nI_lt h4 (by omega)), show isDg T n p = false from decide_eq_false (by omega)]; rfl
      · rw [if_neg (nI_nlt (by omega) (by omega)), show isDg T n p = true from decide_eq_true ⟨h2, by omega, by omega⟩]; rfl
  · rw [if_neg h2, if_pos (show (-1 : Int32) < 48 by decide), show isDg T n p = false from decide_eq_false (by omega)]; rfl
theorem bad12 {I : PI} (h : I 12 3 = nI p) (hw : I 12 4 = -1) : f_X12_bad N I L = some (none, uI I 12 4 (nI p), L) := by
  unfold f_X12_bad
  rw [if_pos hw, h, nmW_s]
theorem bad12' {I : PI} (hw : I 12 4 ≠ -1) : f_X12_bad N I L = some (none, uI I 12 4 (I 12 4), L) := by
  unfold f_X12_bad
  rw [if_neg hw, nmW_s]
theorem skp_dg (h : isDg T n p = true) : skp T n p = p := skp_n (fun q => by have := isDg_t h; omega)
/-- at the end of a text -/
def dW12 (a k : Nat) : Prop := a = 12 ∧ (k = 3 ∨ k = 4)
theorem atEnd12 {I : PI} (hN : 20000 ≤ N) (t : TM I n T) (hp : p ≤ n) (h : I 12 3 = nI p) (hw : I 12 4 = -1) : ∃ J, f_X12_atEnd N I L = some (some (.int (if skp T n p < n then nI (skp T n p) else -1)), J, L) ∧ Kp dW12 I J := by
  obtain ⟨J, e, k, q⟩ := look12 (N := N) (L := L) hN t hp h
  have k' : Kp dW12 I J := k.mono (fun a k q => by unfold d12 at q; unfold dW12; omega)
  have hs := skp_le (T := T) hp
  have hJ : J 12 4 = -1 := (k 12 4 (by unfold d12; omega)).trans hw
  have hn := t.1
  unfold f_X12_atEnd
  rw [if_pos hw, e, bI_s]
  unfold cpM
  by_cases h2 : skp T n p < n
  · have hb := (t.2.2.2 _ h2).2.2
    rw [if_pos h2, if_pos h2, if_neg (m_ne' (by omega)), bad12 q hJ, bV_s, uI_eq]
    exact ⟨_, rfl, k'.up (by unfold dW12; omega)⟩
  · rw [if_neg h2, if_neg h2, if_pos rfl, hJ]
    exact ⟨J, rfl, k'⟩
theorem atEnd12' {I : PI} (hw : I 12 4 ≠ -1) : f_X12_atEnd N I L = some (some (.int (I 12 4)), I, L) := by
  unfold f_X12_atEnd
  rw [if_neg hw]
end TAPE
