/-! rests read, in both -/
section RESTS
variable {N n m s : Nat} {T : Nat → Nat} {L : PL}
def dRC (a k : Nat) : Prop := (a = 10 ∧ k = 2) ∨ a = 25 ∨ a = 26
def dRM (a k : Nat) : Prop := (a = 12 ∧ (k = 3 ∨ k = 4)) ∨ a = 51 ∨ a = 52
/-- how a number of one or two digits ends: its value, the place behind it -/
def nmV (T : Nat → Nat) (n p : Nat) : Nat := if isDg T n (p + 1) = true then 10 * (T p - 48) + (T (p + 1) - 48) else T p - 48
def nmE (T : Nat → Nat) (n p : Nat) : Nat := if isDg T n (p + 1) = true then p + 2 else p + 1
theorem dT_RM {I J : PI} (h : Kp dRM I J) : ∀ a k, dT a k → J a k = I a k := fun a k hc => h a k (fun q => by unfold dRM at q; unfold dT at hc; omega)
theorem dT_RC {I J : PI} (h : Kp dRC I J) : ∀ a k, dT a k → J a k = I a k := fun a k hc => h a k (fun q => by unfold dRC at q; unfold dT at hc; omega)
/-- the model's number: read well, or the fault's place -/
theorem num12 {p : Nat} {K : PI} (hN : 20000 ≤ N) (t : TM K n T) (hp : p ≤ n) (h3 : K 12 3 = nI p) (h4 : K 12 4 = -1) : ∃ (J : PI) (x : Int32), f_X12_number N K L = some (some (.int x), J, L) ∧ Kp dW12 K J ∧ ((isDg T n (skp T n p) = false ∧ J 12 4 = nI (skp T n p)) ∨ (isDg T n (skp T n p) = true ∧ nmV T n (skp T n p) < 2 ∧ J 12 4 = nI (nmE T n (skp T n p) - 1)) ∨ (isDg T n (skp T n p) = true ∧ 2 ≤ nmV T n (skp T n p) ∧ isDg T n (nmE T n (skp T n p)) = true ∧ J 12 4 = nI (nmE T n (skp T n p))) ∨ (isDg T n (skp T n p) = true ∧ 2 ≤ nmV T n (skp T n p) ∧ isDg T n (nmE T n (skp T n p)) = false ∧ x = nI (nmV T n (skp T n p)) ∧ J 12 4 = -1 ∧ J 12 3 = nI (nmE T n (skp T n p)))) := by
  obtain ⟨J1, e1, k1, q1⟩ := look12 (N := N) (L := L) hN t hp h3
  have t1 := t.cong (d12_dT k1)
  have hw1 : J1 12 4 = -1 := (k1 12 4 (by unfold d12; omega)).trans h4
  have k1' : Kp dW12 K J1 := k1.mono (fun a k q => by unfold d12 at q; unfold dW12; omega)
  have hs := skp_le (T := T) hp
  have hn := t.1
  obtain ⟨p', hp'⟩ : ∃ p', p' = skp T n p := ⟨_, rfl⟩
  rw [← hp'] at e1 q1 hs ⊢
  unfold f_X12_number
  rw [e1, bI_s, dg12 t1, bI_s]
  cases hd : isDg T n p' with
  | false =>
    rw [ifz_f rfl, bad12 q1 hw1, bV_s]
    exact ⟨_, _, rfl, k1'.up (by unfold dW12; omega), Or.inl ⟨rfl, uI_eq⟩⟩
  | true =>
    obtain ⟨d1, d2, d3⟩ := isDg_t hd
    have c1 : cpM T n p' = nI (T p') := if_pos d1
    rw [ifz_t rfl, here12 t1 (by omega) q1, bI_s, c1, show (48 : Int32) = nI 48 from rfl, nsub d2, nmI_s, q1, nI_1, nmW_s]
    obtain ⟨J2, hJ2⟩ : ∃ J : PI, J = uI J1 12 3 (nI (p' + 1)) := ⟨_, rfl⟩
    have k2 : Kp d12 J1 J2 := hJ2 ▸ Kp.rf.up ⟨rfl, rfl⟩
    have t2 := t1.cong (d12_dT k2)
    have q2 : J2 12 3 = nI (p' + 1) := by rw [hJ2, uI_eq]
    have hw2 : J2 12 4 = -1 := (k2 12 4 (by unfold d12; omega)).trans hw1
    have k2' : Kp dW12 K J2 := k1'.tr (k2.mono (fun a k q => by unfold d12 at q; unfold dW12; omega))
    rw [← hJ2, here12 t2 (by omega) q2, bI_s, dg12 t2, bI_s]
    -- the tail, from a state at place e with value v
    have tail : ∀ (J3 : PI) (e v : Nat) (y : Int32), TM J3 n T → e ≤ n → 1 ≤ e → v < 100 → J3 12 3 = nI e → J3 12 4 = -1 → Kp dW12 K J3 → (isDg T n e = true → v ≥ 2 → ¬ y = 0) → (∃ (J : PI) (x : Int32), F_X12_number_69 N (nI v) y J3 L = some (some (.int x), J, L) ∧ Kp dW12 K J ∧ ((v < 2 ∧ J 12 4 = nI (e - 1)) ∨ (2 ≤ v ∧ isDg T n e = true ∧ J 12 4 = nI e) ∨ (2 ≤ v ∧ isDg T n e = false ∧ x = nI v ∧ J 12 4 = -1 ∧ J 12 3 = nI e))) ∨ (isDg T n e = true ∧ v < 2 ∧ y = 0) := by
      intro J3 e v y t3 he he1 hv q3 hw3 k3 hy
      have e95 : v < 2 → ∃ (J : PI) (x : Int32), F_X12_number_95 N (nI v) J3 L = some (some (.int x), J, L) ∧ Kp dW12 K J ∧ J 12 4 = nI (e - 1) := fun hv2 => by
        unfold F_X12_number_95
        rw [show (2 : Int32) = nI 2 from rfl, if_neg (nI_ge hv2 (by omega)), q3, nsub1 he1, nmW_s, bad12 (p := e - 1) uI_eq (by rw [uI_ne (by omega)]; exact hw3), bV_s]
        exact ⟨_, _, rfl, (k3.up (by unfold dW12; omega)).up (by unfold dW12; omega), uI_eq⟩
      unfold F_X12_number_69
      rw [here12 t3 he q3, bI_s, dg12 t3, bI_s]
      by_cases hv2 : v < 2
      · obtain ⟨J, x, g1, g2, g3⟩ := e95 hv2
        cases hde : isDg T n e with
        | false =>
          rw [ifz_f rfl]
          exact Or.inl ⟨J, x, g1, g2, Or.inl ⟨hv2, g3⟩⟩
        | true =>
          rw [ifz_t rfl]
          by_cases hy0 : y = 0
          · exact Or.inr ⟨rfl, hv2, hy0⟩
          · rw [if_neg hy0, show (2 : Int32) = nI 2 from rfl, if_pos (nI_lt hv2 (by omega))]
            exact Or.inl ⟨J, x, g1, g2, Or.inl ⟨hv2, g3⟩⟩
      · left
        cases hde : isDg T n e with
        | false =>
          rw [ifz_f rfl]
          unfold F_X12_number_95
          rw [show (2 : Int32) = nI 2 from rfl, if_pos (nI_le (by omega) (by omega))]
          exact ⟨J3, _, rfl, k3, Or.inr (Or.inr ⟨by omega, rfl, rfl, hw3, q3⟩)⟩
        | true =>
          rw [ifz_t rfl, if_neg (hy hde (by omega)), show (2 : Int32) = nI 2 from rfl, if_neg (nI_nlt (by omega) (by omega))]
          unfold F_X12_number_88
          rw [bad12 q3 hw3, bV_s]
          exact ⟨_, _, rfl, k3.up (by unfold dW12; omega), Or.inr (Or.inl ⟨by omega, rfl, uI_eq⟩)⟩
    cases hd2 : isDg T n (p' + 1) with
    | false =>
      have eV : nmV T n p' = T p' - 48 := if_neg (by rw [hd2]; decide)
      have eE : nmE T n p' = p' + 1 := if_neg (by rw [hd2]; decide)
      rw [ifz_f rfl, eV, eE]
      rcases tail J2 (p' + 1) (T p' - 48) 0 t2 (by omega) (by omega) (by omega) q2 hw2 k2' (fun q _ => by rw [hd2] at q; cases q) with ⟨J, x, g1, g2, g3⟩ | ⟨q, -⟩
      · refine ⟨J, x, g1, g2, ?_⟩
        rcases g3 with ⟨g3, g4⟩ | ⟨g3, g4, g5⟩ | ⟨g3, g4, g5⟩
        · exact Or.inr (Or.inl ⟨rfl, g3, g4⟩)
        · exact Or.inr (Or.inr (Or.inl ⟨rfl, g3, (by rw [hd2] at g4; cases g4), g5⟩))
        · exact Or.inr (Or.inr (Or.inr ⟨rfl, g3, hd2, g5⟩))
      · rw [hd2] at q; cases q
    | true =>
      obtain ⟨f1, f2, f3⟩ := isDg_t hd2
      have eV : nmV T n p' = 10 * (T p' - 48) + (T (p' + 1) - 48) := if_pos hd2
      have eE : nmE T n p' = p' + 2 := if_pos hd2
      have c2 : cpM T n (p' + 1) = nI (T (p' + 1)) := if_pos f1
      rw [ifz_t rfl, here12 t2 (by omega) q2, bI_s, c2, show (10 : Int32) = nI 10 from rfl, pk_mul, nI_add, nsub (by omega), nmI_s, q2, nI_1, nmW_s, show 10 * (T p' - 48) + T (p' + 1) - 48 = 10 * (T p' - 48) + (T (p' + 1) - 48) by omega, eV, eE]
      have k3 : Kp d12 J2 (uI J2 12 3 (nI (p' + 1 + 1))) := Kp.rf.up ⟨rfl, rfl⟩
      rcases tail (uI J2 12 3 (nI (p' + 1 + 1))) (p' + 2) (10 * (T p' - 48) + (T (p' + 1) - 48)) 1 (t2.cong (d12_dT k3)) (by omega) (by omega) (by omega) uI_eq ((k3 12 4 (by unfold d12; omega)).trans hw2) (k2'.tr (k3.mono (fun a k q => by unfold d12 at q; unfold dW12; omega))) (fun _ _ => ne_10) with ⟨J, x, g1, g2, g3⟩ | ⟨-, -, q⟩
      · refine ⟨J, x, g1, g2, ?_⟩
        rcases g3 with ⟨g3, g4⟩ | ⟨g3, g4, g5⟩ | ⟨g3, g4, g5⟩
        · exact Or.inr (Or.inl ⟨rfl, g3, g4⟩)
        · exact Or.inr (Or.inr (Or.inl ⟨rfl, g3, g4, g5⟩))
        · exact Or.inr (Or.inr (Or.inr ⟨rfl, g3, g4, g5⟩))
      · exact absurd q ne_10
theorem putLast_s {i v : Nat} {I : PI} (hm : m ≤ 6) (hi : i < 8) (h : I 8 6 = nI m) : f_X8_putLast N (nI i) (nI v) I L = some (none, uI (uI I 25 (8 * m + i) (nI v)) 26 m (nI (i + 1)), L) := by
  unfold f_X8_putLast
  rw [if_neg (nI_pos (by omega)), show (8 : Int32) = nI 8 from rfl, if_neg (nI_ge hi (by omega)), h, show (7 : Int32) = nI 7 from rfl, if_neg (nI_ge (by omega) (by omega)), pk_mul, nI_add, Nat.mul_comm m 8, gd_in (by omega) (by omega), nI_clamp (by omega), nmW_s, uI_ne (by omega), h, gd_in (by omega) (by omega), nI_clamp (by omega), nI_1, nmW_s]
/-- rows read so far, alike -/
def rowE (I K : PI) (m s i : Nat) : Prop := ∀ j, j < i → ∃ q : Nat, 2 ≤ q ∧ q ≤ 99 ∧ I 25 (8 * m + j) = nI q ∧ K 51 (8 * s + j) = nI q
theorem restsLp (hN : 20000 ≤ N) (hm : m ≤ 6) (hs : s ≤ 6) : ∀ (t k l i p : Nat) (I K : PI), i + t = 8 → 1 ≤ t → t < k → t < l → TP I n T → TM K n T → p ≤ n → I 10 2 = nI p → K 12 3 = nI p → K 12 4 = -1 → I 8 6 = nI m → K 52 s = nI i → rowE I K m s i → ∃ (x : Int32) (J K' : PI), F_X8_readFrom_6 N k (nI i) I L = some (some (.int x), J, L) ∧ F_X12_readRests_19 N l (nI s) 1 K L = some (some (.int x), K', L) ∧ Kp dRC I J ∧ Kp dRM K K' ∧ (∀ a k, a = 25 → k < 8 * m → J a k = I a k) ∧ (∀ k, k ≠ m → J 26 k = I 26 k) ∧ (∀ k, k < 8 * s → K' 51 k = K 51 k) ∧ (∀ k, k ≠ s → K' 52 k = K 52 k) ∧ (x = -1 → ∃ c, 1 ≤ c ∧ c ≤ 8 ∧ J 26 m = nI c ∧ K' 52 s = nI c ∧ rowE J K' m s c) := by
  intro t
  induction t with
  | zero => intro k l i p I K _ h; omega
  | succ t ih =>
    intro k l i p I K hi h1 hk hl tI tK hp hI hK hw h8 h52 hr
    obtain ⟨k, rfl⟩ : ∃ q, k = q + 1 := ⟨k - 1, by omega⟩
    obtain ⟨l, rfl⟩ : ∃ q, l = q + 1 := ⟨l - 1, by omega⟩
    have hn := tI.1
    -- the class's number
    obtain ⟨I1, e1, k1, q1⟩ := next10 (N := N) (L := L) hN tI hp hI
    have t1 := tI.cong (d10_dT k1)
    have hsk := skp_le (T := T) hp
    obtain ⟨p', hp'⟩ : ∃ p', p' = skp T n p := ⟨_, rfl⟩
    obtain ⟨K1, v12, m1, km, mm⟩ := num12 (N := N) (L := L) hN tK hp hK hw
    rw [← hp'] at e1 q1 hsk mm
    have kmR : Kp dRM K K1 := km.mono (fun a k q => by unfold dW12 at q; unfold dRM; omega)
    have k1R : Kp dRC I I1 := k1.mono (fun a k q => by unfold d10 at q; unfold dRC; omega)
    have g52 : K1 52 s = nI i := (km 52 s (by unfold dW12; omega)).trans h52
    -- the model, behind its number
    have eM0 : F_X12_readRests_19 N (l + 1) (nI s) 1 K L = (if (uI (uI K1 51 (8 * s + i) v12) 52 s (nI (i + 1))) 12 4 = -1 then bI (f_X12_look N (uI (uI K1 51 (8 * s + i) v12) 52 s (nI (i + 1))) L) (fun x14 I15 L16 => (if x14 = 44 then gd (inb (nI s) 7) ((if 8 ≤ (I15 52 (Int32.toNatClampNeg (nI s))) then F_X12_readRests_93 N (F_X12_readRests_19 N l) (nI s) I15 L16 else F_X12_readRests_94 N (F_X12_readRests_19 N l) (nI s) 1 I15 L16)) else F_X12_readRests_93 N (F_X12_readRests_19 N l) (nI s) I15 L16)) else F_X12_readRests_93 N (F_X12_readRests_19 N l) (nI s) (uI (uI K1 51 (8 * s + i) v12) 52 s (nI (i + 1))) L) := by
      rw [F_X12_readRests_19, if_neg ne_10, hw, if_pos rfl, gd_in (by omega) (by omega), m1, bI_s, nI_clamp (n := s) (by omega), h52, show (8 : Int32) = nI 8 from rfl, pk_mul, nI_add, gd_in (by omega) (by omega), nI_clamp (by omega), nmW_s, gd_in (by omega) (by omega), gd_in (by omega) (by omega), uI_ne (by omega), g52, nI_1, nmW_s]
    -- the model's loop's end
    have end19 : ∀ (q : Nat) (K2 : PI), F_X12_readRests_19 N (q + 1) (nI s) 0 K2 L = F_X12_readRests_116 N K2 L := fun q K2 => by
      rw [F_X12_readRests_19, if_pos rfl]
    obtain ⟨l', hl'⟩ : ∃ q, l = q + 1 := ⟨l - 1, by omega⟩
    have e93 : ∀ K2 : PI, F_X12_readRests_93 N (F_X12_readRests_19 N l) (nI s) K2 L = F_X12_readRests_116 N (uI K2 12 3 (K2 12 3)) L := fun K2 => by
      unfold F_X12_readRests_93 F_X12_readRests_94
      rw [if_pos rfl, Int32.add_zero, nmW_s, hl', end19]
    -- the model where its number is bad
    have hbad : ∀ w : Nat, w < 2 ^ 31 → K1 12 4 = nI w → ∃ K', F_X12_readRests_19 N (l + 1) (nI s) 1 K L = some (some (.int (nI w)), K', L) ∧ Kp dRM K K' ∧ (∀ k, k < 8 * s → K' 51 k = K 51 k) ∧ (∀ k, k ≠ s → K' 52 k = K 52 k) := fun w hw2 hb => by
      have hne : ¬ nI w = -1 := m_ne' hw2
      have g4 : (uI (uI K1 51 (8 * s + i) v12) 52 s (nI (i + 1))) 12 4 = nI w := by rw [uI_ne (by omega), uI_ne (by omega)]; exact hb
      have g5 : (uI (uI (uI K1 51 (8 * s + i) v12) 52 s (nI (i + 1))) 12 3 ((uI (uI K1 51 (8 * s + i) v12) 52 s (nI (i + 1))) 12 3)) 12 4 = nI w := by rw [uI_ne (by omega)]; exact g4
      refine ⟨uI (uI (uI K1 51 (8 * s + i) v12) 52 s (nI (i + 1))) 12 3 ((uI (uI K1 51 (8 * s + i) v12) 52 s (nI (i + 1))) 12 3), ?_, ((kmR.up (by unfold dRM; omega)).up (by unfold dRM; omega)).up (by unfold dRM; omega), fun k hk => ?_, fun k hk => ?_⟩
      · rw [eM0, g4, if_neg hne, e93]
        unfold F_X12_readRests_116
        rw [atEnd12' (by rw [g5]; exact hne), bI_s, g5]
      · rw [uI_ne (by omega), uI_ne (by omega), uI_ne (by omega), km 51 _ (by unfold dW12; omega)]
      · rw [uI_ne (by omega), uI_ne (by omega), uI_ne (by omega), km 52 _ (by unfold dW12; omega)]
    rw [F_X8_readFrom_6, show (8 : Int32) = nI 8 from rfl, if_neg (nI_ge (by omega) (by omega)), e1, bI_s, dg10 t1 (by omega) q1, bI_s]
    rcases mm with ⟨hd, hb⟩ | ⟨hd, hv, hb⟩ | ⟨hd, hv, hd3, hb⟩ | ⟨hd, hv, hd3, hx, hok, hat⟩
    · obtain ⟨K', g1, g2, g3, g4⟩ := hbad p' (by omega) hb
      rw [if_neg (show ¬ isDg T n p' = true by rw [hd]; decide), if_pos rfl, q1]
      exact ⟨_, I1, K', rfl, g1, k1R, g2, fun a k ha _ => k1 a k (by unfold d10; omega), fun k _ => k1 26 k (by unfold d10; omega), g3, g4, fun q => absurd q (m_ne' (by omega))⟩
    all_goals
      obtain ⟨d1, d2, d3⟩ := isDg_t hd
      have s1 := step10 (N := N) (L := L) t1 d1 q1
      obtain ⟨I2, hI2⟩ : ∃ J : PI, J = uI I1 10 2 (nI (p' + 1)) := ⟨_, rfl⟩
      have k2 : Kp d10 I1 I2 := hI2 ▸ Kp.rf.up ⟨rfl, rfl⟩
      have t2 := t1.cong (d10_dT k2)
      have q2 : I2 10 2 = nI (p' + 1) := by rw [hI2, uI_eq]
      rw [← hI2] at s1
      -- the class behind its number
      have eC : ∃ I3 : PI, Kp d10 I I3 ∧ I3 10 2 = nI (nmE T n p') ∧ nmE T n p' ≤ n ∧ nmV T n p' < 100 ∧ (if (if isDg T n p' = true then nI (T p' - 48) else -1) = (-1 : Int32) then some (some (Value.int (I1 10 2)), I1, L) else bV (f_X10_step N I1 L) (fun I11 L12 => bI (f_X10_digit N I11 L12) (fun x13 I14 L15 => (if x13 = (-1 : Int32) then F_X8_readFrom_58 N (F_X8_readFrom_6 N k) (nI i) (if isDg T n p' = true then nI (T p' - 48) else -1) I14 L15 else bI (f_X10_digit N I14 L15) (fun x25 I26 L27 => nmI (((if isDg T n p' = true then nI (T p' - 48) else -1) * 10) + x25) (fun x28 => bV (f_X10_step N I26 L27) (fun I30 L31 => F_X8_readFrom_58 N (F_X8_readFrom_6 N k) (nI i) x28 I30 L31))))))) = F_X8_readFrom_58 N (F_X8_readFrom_6 N k) (nI i) (nI (nmV T n p')) I3 L := by
        rw [if_pos hd, if_neg (m_ne' (by omega)), s1, bV_s, dg10 t2 (by omega) q2, bI_s]
        cases hd2 : isDg T n (p' + 1) with
        | false =>
          have eV : nmV T n p' = T p' - 48 := if_neg (by rw [hd2]; decide)
          have eE : nmE T n p' = p' + 1 := if_neg (by rw [hd2]; decide)
          rw [if_neg (show ¬ (false = true) by decide), if_pos rfl, eV, eE]
          exact ⟨I2, k1.tr k2, q2, by omega, by omega, rfl⟩
        | true =>
          obtain ⟨f1, f2, f3⟩ := isDg_t hd2
          have eV : nmV T n p' = 10 * (T p' - 48) + (T (p' + 1) - 48) := if_pos hd2
          have eE : nmE T n p' = p' + 2 := if_pos hd2
          rw [if_pos rfl, if_neg (m_ne' (by omega)), dg10 t2 (by omega) q2, bI_s, if_pos hd2, show (10 : Int32) = nI 10 from rfl, pk_mul, nI_add, nmI_s, step10 t2 f1 q2, bV_s, eV, eE, Nat.mul_comm (T p' - 48) 10]
          exact ⟨_, (k1.tr k2).up ⟨rfl, rfl⟩, uI_eq, by omega, by omega, rfl⟩
      obtain ⟨I3, k3, q3, hE, hV, eC'⟩ := eC
      rw [eC']
      have t3 := tI.cong (d10_dT k3)
      have k3R : Kp dRC I I3 := k3.mono (fun a k q => by unfold d10 at q; unfold dRC; omega)
      have hE1 : 1 ≤ nmE T n p' := by
        unfold nmE
        by_cases hq : isDg T n (p' + 1) = true
        · rw [if_pos hq]; omega
        · rw [if_neg hq]; omega
      have h83 : I3 8 6 = nI m := (k3 8 6 (by unfold d10; omega)).trans h8
      unfold F_X8_readFrom_58
      rw [show (2 : Int32) = nI 2 from rfl]
    · -- too small
      obtain ⟨K', g1, g2, g3, g4⟩ := hbad (nmE T n p' - 1) (by omega) hb
      rw [if_neg (nI_ge hv (by omega)), q3, nsub1 hE1]
      exact ⟨_, I3, K', rfl, g1, k3R, g2, fun a k ha _ => k3 a k (by unfold d10; omega), fun k _ => k3 26 k (by unfold d10; omega), g3, g4, fun q => absurd q (m_ne' (by omega))⟩
    all_goals
      rw [if_pos (nI_le hv (by omega)), putLast_s hm (by omega) h83, bV_s]
      obtain ⟨I4, hI4⟩ : ∃ J : PI, J = uI (uI I3 25 (8 * m + i) (nI (nmV T n p'))) 26 m (nI (i + 1)) := ⟨_, rfl⟩
      have k4 : Kp dRC I I4 := hI4 ▸ (k3R.up (by unfold dRC; omega)).up (by unfold dRC; omega)
      have t4 := tI.cong (dT_RC k4)
      have q4 : I4 10 2 = nI (nmE T n p') := by rw [hI4, uI_ne (by omega), uI_ne (by omega)]; exact q3
      have o25 : ∀ a k, a = 25 → k ≠ 8 * m + i → I4 a k = I a k := fun a k ha hk => by rw [hI4, uI_ne (by omega), uI_ne (by omega), k3 a k (by unfold d10; omega)]
      have o26 : ∀ k, k ≠ m → I4 26 k = I 26 k := fun k hk => by rw [hI4, uI_ne (by omega), uI_ne (by omega), k3 26 k (by unfold d10; omega)]
      obtain ⟨I5, e5, k5, q5⟩ := next10 (N := N) (L := L) hN t4 hE q4
      have t5 := t4.cong (d10_dT k5)
      have k5R : Kp dRC I I5 := k4.tr (k5.mono (fun a k q => by unfold d10 at q; unfold dRC; omega))
      have hsE := skp_le (T := T) hE
      rw [← hI4, e5, bI_s]
    · -- a third digit
      obtain ⟨K', g1, g2, g3, g4⟩ := hbad (nmE T n p') (by omega) hb
      obtain ⟨r1, r2, r3⟩ := isDg_t hd3
      rw [skp_dg hd3] at q5 ⊢
      have hc0 : ¬ cpC T n (nmE T n p') = 0 := by
        unfold cpC
        rw [if_pos r1]
        exact nI_ne0 (by omega) (by omega)
      rw [if_neg hc0]
      by_cases h7 : i = 7
      · rw [if_pos (show nI i = (7 : Int32) by rw [h7]; rfl), q5]
        exact ⟨_, I5, K', rfl, g1, k5R, g2, fun a k ha hk => (k5 a k (by unfold d10; omega)).trans (o25 a k ha (by omega)), fun k hk => (k5 26 k (by unfold d10; omega)).trans (o26 k hk), g3, g4, fun q => absurd q (m_ne' (by omega))⟩
      · obtain ⟨I6, e6, k6, q6⟩ := take10 (N := N) (L := L) (c := 44) (x := 44) hN t5 hE q5 rfl (by omega) (by omega)
        have hn44 : isCh T n (skp T n (nmE T n p')) 44 = false := by
          rw [skp_dg hd3]
          exact decide_eq_false (by omega)
        rw [hn44] at e6 q6
        rw [if_neg (show ¬ nI i = (7 : Int32) from fun q => h7 ((nI_eq (b := 7) (by omega) (by omega)).mp q)), e6, bI_s, ifz_f rfl, q6]
        refine ⟨_, I6, K', ?_, g1, k5R.tr (k6.mono (fun a k q => by unfold d10 at q; unfold dRC; omega)), g2, fun a k ha hk => (k6 a k (by unfold d10; omega)).trans ((k5 a k (by unfold d10; omega)).trans (o25 a k ha (by omega))), fun k hk => (k6 26 k (by unfold d10; omega)).trans ((k5 26 k (by unfold d10; omega)).trans (o26 k hk)), g3, g4, fun q => absurd q (m_ne' (by omega))⟩
        rw [cond_false, skp_dg hd3]
    · -- well read
      obtain ⟨K4, hK4⟩ : ∃ J : PI, J = uI (uI K1 51 (8 * s + i) v12) 52 s (nI (i + 1)) := ⟨_, rfl⟩
      have kK4 : Kp dRM K K4 := hK4 ▸ (kmR.up (by unfold dRM; omega)).up (by unfold dRM; omega)
      have tK4 := tK.cong (dT_RM kK4)
      have w4 : K4 12 4 = -1 := by rw [hK4, uI_ne (by omega), uI_ne (by omega)]; exact hok
      have a4 : K4 12 3 = nI (nmE T n p') := by rw [hK4, uI_ne (by omega), uI_ne (by omega)]; exact hat
      have o51 : ∀ k, k ≠ 8 * s + i → K4 51 k = K 51 k := fun k hk => by rw [hK4, uI_ne (by omega), uI_ne (by omega), km 51 k (by unfold dW12; omega)]
      have o52 : ∀ k, k ≠ s → K4 52 k = K 52 k := fun k hk => by rw [hK4, uI_ne (by omega), uI_ne (by omega), km 52 k (by unfold dW12; omega)]
      have n52 : K4 52 s = nI (i + 1) := by rw [hK4, uI_eq]
      have r4 : rowE I4 K4 m s (i + 1) := fun j hj => by
        by_cases ej : j = i
        · refine ⟨nmV T n p', hv, by omega, ?_, ?_⟩
          · rw [ej, hI4, uI_ne (by omega), uI_eq]
          · rw [ej, hK4, uI_ne (by omega), uI_eq, hx]
        · obtain ⟨q, z1, z2, z3, z4⟩ := hr j (by omega)
          exact ⟨q, z1, z2, (o25 25 _ rfl (by omega)).trans z3, (o51 _ (by omega)).trans z4⟩
      rw [← hK4, w4, if_pos rfl] at eM0
      obtain ⟨K5, f5, kk5, a5⟩ := look12 (N := N) (L := L) hN tK4 hE a4
      have tK5 := tK4.cong (d12_dT kk5)
      rw [f5, bI_s] at eM0
      obtain ⟨e', he'⟩ : ∃ e', e' = skp T n (nmE T n p') := ⟨_, rfl⟩
      have hid : skp T n e' = e' := by rw [he']; exact skp_id hE
      rw [← he'] at e5 q5 hsE eM0 a5 f5 ⊢
      have w5 : K5 12 4 = -1 := (kk5 12 4 (by unfold d12; omega)).trans w4
      have n525 : K5 52 s = nI (i + 1) := (kk5 52 s (by unfold d12; omega)).trans n52
      have kK5 : Kp dRM K K5 := kK4.tr (kk5.mono (fun a k q => by unfold d12 at q; unfold dRM; omega))
      -- the model ends here
      have mend : ∃ K', F_X12_readRests_93 N (F_X12_readRests_19 N l) (nI s) K5 L = some (some (.int (if e' < n then nI e' else -1)), K', L) ∧ Kp dW12 K5 K' := by
        have kU : Kp dW12 K5 (uI K5 12 3 (K5 12 3)) := Kp.rf.up (by unfold dW12; omega)
        have tU := tK5.cong (d12_dT (Kp.rf.up ⟨rfl, rfl⟩ : Kp d12 K5 (uI K5 12 3 (K5 12 3))))
        obtain ⟨K', g1, g2⟩ := atEnd12 (N := N) (L := L) (p := e') hN tU (by omega) (by rw [uI_eq]; exact a5) (by rw [uI_ne (by omega)]; exact w5)
        rw [hid] at g1
        refine ⟨K', ?_, kU.tr g2⟩
        rw [e93]
        unfold F_X12_readRests_116
        rw [g1, bI_s]
      obtain ⟨Ke, me1, me2⟩ := mend
      have kKe : Kp dRM K Ke := kK5.tr (me2.mono (fun a k q => by unfold dW12 at q; unfold dRM; omega))
      have oe51 : ∀ k, k ≠ 8 * s + i → Ke 51 k = K 51 k := fun k hk => (me2 51 k (by unfold dW12; omega)).trans ((kk5 51 k (by unfold d12; omega)).trans (o51 k hk))
      have oe52 : ∀ k, k ≠ s → Ke 52 k = K 52 k := fun k hk => (me2 52 k (by unfold dW12; omega)).trans ((kk5 52 k (by unfold d12; omega)).trans (o52 k hk))
      have rowMv : ∀ I' K' : PI, (∀ k, I' 25 k = I4 25 k) → (∀ k, K' 51 k = K4 51 k) → rowE I' K' m s (i + 1) := fun I' K' h1 h2 j hj => by
        obtain ⟨q, z1, z2, z3, z4⟩ := r4 j hj
        exact ⟨q, z1, z2, (h1 _).trans z3, (h2 _).trans z4⟩
      have c26 : I4 26 m = nI (i + 1) := by rw [hI4, uI_eq]
      by_cases hen : e' < n
      · have hb := (tI.2.2.2 e' hen).2.2
        have hc0 : ¬ cpC T n e' = 0 := by
          unfold cpC
          rw [if_pos hen]
          exact nI_ne0 (by omega) (by omega)
        rw [if_pos hen] at me1
        rw [if_neg hc0]
        have hM44 : (cpM T n e' = 44) ↔ isCh T n e' 44 = true := chM_eq (c := 44) tI.tm (by omega)
        by_cases h7 : i = 7
        · rw [if_pos (show nI i = (7 : Int32) by rw [h7]; rfl), q5]
          refine ⟨_, I5, Ke, rfl, ?_, k5R, kKe, fun a k ha hk => (k5 a k (by unfold d10; omega)).trans (o25 a k ha (by omega)), fun k hk => (k5 26 k (by unfold d10; omega)).trans (o26 k hk), fun k hk => oe51 k (by omega), oe52, fun q => absurd q (m_ne' (by omega))⟩
          rw [eM0, gd_in (by omega) (by omega), nI_clamp (by omega), n525, if_pos (show (8 : Int32) ≤ nI (i + 1) by rw [h7]; decide)]
          by_cases h44 : cpM T n e' = 44
          · rw [if_pos h44]; exact me1
          · rw [if_neg h44]; exact me1
        · rw [if_neg (show ¬ nI i = (7 : Int32) from fun q => h7 ((nI_eq (b := 7) (by omega) (by omega)).mp q))]
          obtain ⟨I6, e6, k6, q6⟩ := take10 (N := N) (L := L) (c := 44) (x := 44) hN t5 (by omega) q5 rfl (by omega) (by omega)
          rw [hid] at e6 q6
          have k6R : Kp dRC I I6 := k5R.tr (k6.mono (fun a k q => by unfold d10 at q; unfold dRC; omega))
          rw [e6, bI_s]
          cases h44 : isCh T n e' 44 with
          | false =>
            rw [h44] at q6
            rw [ifz_f rfl, q6, cond_false]
            refine ⟨_, I6, Ke, rfl, ?_, k6R, kKe, fun a k ha hk => (k6 a k (by unfold d10; omega)).trans ((k5 a k (by unfold d10; omega)).trans (o25 a k ha (by omega))), fun k hk => (k6 26 k (by unfold d10; omega)).trans ((k5 26 k (by unfold d10; omega)).trans (o26 k hk)), fun k hk => oe51 k (by omega), oe52, fun q => absurd q (m_ne' (by omega))⟩
            rw [eM0, if_neg (fun q => by rw [hM44.mp q] at h44; cases h44)]
            exact me1
          | true =>
            rw [h44] at q6
            have q6' : I6 10 2 = nI (e' + 1) := q6
            rw [ifz_t rfl, nI_1]
            have kU : Kp d12 K5 (uI K5 12 3 (nI (e' + 1))) := Kp.rf.up ⟨rfl, rfl⟩
            obtain ⟨x, J, K', g1, g2, g3, g4, g5, g6, g7, g8, g9⟩ := ih k l (i + 1) (e' + 1) I6 (uI K5 12 3 (nI (e' + 1))) (by omega) (by omega) (by omega) (by omega) (t5.cong (d10_dT k6)) (tK5.cong (d12_dT kU)) (by omega) q6' uI_eq ((kU 12 4 (by unfold d12; omega)).trans w5) ((k6R 8 6 (by unfold dRC; omega)).trans h8) ((kU 52 s (by unfold d12; omega)).trans n525) (rowMv _ _ (fun k => (k6 25 k (by unfold d10; omega)).trans (k5 25 k (by unfold d10; omega))) (fun k => (kU 51 k (by unfold d12; omega)).trans (kk5 51 k (by unfold d12; omega))))
            refine ⟨x, J, K', g1, ?_, k6R.tr g3, (kK5.tr (kU.mono (fun a k q => by unfold d12 at q; unfold dRM; omega))).tr g4, fun a k ha hk => (g5 a k ha hk).trans ((k6 a k (by unfold d10; omega)).trans ((k5 a k (by unfold d10; omega)).trans (o25 a k ha (by omega)))), fun k hk => (g6 k hk).trans ((k6 26 k (by unfold d10; omega)).trans ((k5 26 k (by unfold d10; omega)).trans (o26 k hk))), fun k hk => (g7 k hk).trans ((kU 51 k (by unfold d12; omega)).trans ((kk5 51 k (by unfold d12; omega)).trans (o51 k (by omega)))), fun k hk => (g8 k hk).trans ((kU 52 k (by unfold d12; omega)).trans ((kk5 52 k (by unfold d12; omega)).trans (o52 k hk))), g9⟩
            rw [eM0, if_pos (hM44.mpr h44), gd_in (by omega) (by omega), nI_clamp (by omega), n525, show (8 : Int32) = nI 8 from rfl, if_neg (nI_ge (by omega) (by omega))]
            unfold F_X12_readRests_94
            rw [if_neg ne_10, a5, nI_1, nmW_s]
            exact g2
      · have hc0 : cpC T n e' = 0 := if_neg hen
        have hcM : cpM T n e' = -1 := if_neg hen
        rw [if_neg hen] at me1
        rw [if_pos hc0]
        refine ⟨-1, I5, Ke, rfl, ?_, k5R, kKe, fun a k ha hk => (k5 a k (by unfold d10; omega)).trans (o25 a k ha (by omega)), fun k hk => (k5 26 k (by unfold d10; omega)).trans (o26 k hk), fun k hk => oe51 k (by omega), oe52, fun _ => ⟨i + 1, by omega, by omega, (k5 26 m (by unfold d10; omega)).trans c26, (me2 52 s (by unfold dW12; omega)).trans n525, rowMv _ _ (fun k => k5 25 k (by unfold d10; omega)) (fun k => (me2 51 k (by unfold dW12; omega)).trans (kk5 51 k (by unfold d12; omega)))⟩⟩
        rw [eM0, hcM, if_neg (show ¬ (-1 : Int32) = 44 by decide)]
        exact me1
end RESTS
