/-! codes read, in both -/
section RCODE
variable {N n m s : Nat} {T : Nat → Nat} {L : PL}
def dCC (a k : Nat) : Prop := (a = 10 ∧ k = 2) ∨ a = 15 ∨ a = 16
def dCM (a k : Nat) : Prop := (a = 12 ∧ (k = 3 ∨ k = 4)) ∨ a = 49 ∨ a = 50
theorem dT_CM {I J : PI} (h : Kp dCM I J) : ∀ a k, dT a k → J a k = I a k := fun a k hc => h a k (fun q => by unfold dCM at q; unfold dT at hc; omega)
theorem dT_CC {I J : PI} (h : Kp dCC I J) : ∀ a k, dT a k → J a k = I a k := fun a k hc => h a k (fun q => by unfold dCC at q; unfold dT at hc; omega)
theorem d10_CC {I J : PI} (h : Kp d10 I J) : Kp dCC I J := h.mono (fun a k q => by unfold d10 at q; unfold dCC; omega)
theorem d12_CM {I J : PI} (h : Kp d12 I J) : Kp dCM I J := h.mono (fun a k q => by unfold d12 at q; unfold dCM; omega)
theorem dW12_CM {I J : PI} (h : Kp dW12 I J) : Kp dCM I J := h.mono (fun a k q => by unfold dW12 at q; unfold dCM; omega)
/-- the turn that a sign tells -/
def tOf (c : Nat) : Int32 := if c = 43 then 0 else if c = 105 then 1 else if c = 45 then 2 else if c = 106 then 3 else -1
theorem turn3_s {c : Nat} {I : PI} (hc : c < 256) : f_X3_turnOf N (nI c) I L = some (some (.int (tOf c)), I, L) := by
  have h : ∀ c : Nat, c < 256 → (if 43 = (nI c).toInt then (0 : Int32) else if 45 = (nI c).toInt then 2 else if 105 = (nI c).toInt then 1 else if 106 = (nI c).toInt then 3 else -1) = tOf c := by decide +kernel
  rw [← h c hc]
  unfold f_X3_turnOf
  simp only [swL]
  by_cases h1 : 43 = (nI c).toInt
  · rw [if_pos h1, if_pos h1]
  · rw [if_neg h1, if_neg h1]
    by_cases h2 : 45 = (nI c).toInt
    · rw [if_pos h2, if_pos h2]
    · rw [if_neg h2, if_neg h2]
      by_cases h3 : 105 = (nI c).toInt
      · rw [if_pos h3, if_pos h3]
      · rw [if_neg h3, if_neg h3]
        by_cases h4 : 106 = (nI c).toInt
        · rw [if_pos h4, if_pos h4]
        · rw [if_neg h4, if_neg h4]
theorem turn12_s {x : Int32} {I : PI} : f_X12_turnOf N x I L = some (some (.int (if x = 43 then 0 else if x = 105 then 1 else if x = 45 then 2 else if x = 106 then 3 else -1)), I, L) := by
  unfold f_X12_turnOf
  by_cases h1 : x = 43
  · rw [if_pos h1, if_pos h1]
  · rw [if_neg h1, if_neg h1]
    by_cases h2 : x = 105
    · rw [if_pos h2, if_pos h2]
    · rw [if_neg h2, if_neg h2]
      by_cases h3 : x = 45
      · rw [if_pos h3, if_pos h3]
      · rw [if_neg h3, if_neg h3]
        by_cases h4 : x = 106
        · rw [if_pos h4, if_pos h4]
        · rw [if_neg h4, if_neg h4]
theorem turn12_n {c : Nat} {I : PI} (hc : c < 256) : f_X12_turnOf N (nI c) I L = some (some (.int (tOf c)), I, L) := by
  have h : ∀ c : Nat, c < 256 → (if nI c = 43 then (0 : Int32) else if nI c = 105 then 1 else if nI c = 45 then 2 else if nI c = 106 then 3 else -1) = tOf c := by decide +kernel
  rw [turn12_s, h c hc]
theorem turn12_m {I : PI} : f_X12_turnOf N (-1) I L = some (some (.int (-1)), I, L) := rfl
theorem tOf_n : ∀ c : Nat, c < 256 → tOf c = -1 ∨ ∃ u : Nat, u < 4 ∧ tOf c = nI u := by
  have h : ∀ c : Nat, c < 256 → tOf c = -1 ∨ tOf c = nI 0 ∨ tOf c = nI 1 ∨ tOf c = nI 2 ∨ tOf c = nI 3 := by decide +kernel
  intro c hc
  rcases h c hc with e | e | e | e | e
  · exact Or.inl e
  · exact Or.inr ⟨0, by omega, e⟩
  · exact Or.inr ⟨1, by omega, e⟩
  · exact Or.inr ⟨2, by omega, e⟩
  · exact Or.inr ⟨3, by omega, e⟩
theorem tOf_dg : ∀ c : Nat, 48 ≤ c → c ≤ 57 → tOf c = -1 := by
  intro c h1 h2
  unfold tOf
  rw [if_neg (by omega), if_neg (by omega), if_neg (by omega), if_neg (by omega)]
def rowC (I K : PI) (m s i : Nat) : Prop := ∀ j, j < i → ∃ u : Nat, u < 4 ∧ I 15 (24 * m + j) = nI u ∧ K 49 (24 * s + j) = nI u
theorem runLp {u e : Nat} (hm : m ≤ 8) (he : e ≤ 24) : ∀ (t k j : Nat) (I : PI), j + t = e → t < k → I 3 2 = nI m → ∃ J : PI, F_X3_putRun_13 N k (nI u) (nI e) (nI j) I L = some (some (.int (nI e)), J, L) ∧ Kp (fun a k => a = 15) I J ∧ (∀ k, (k < 24 * m + j ∨ 24 * m + e ≤ k) → J 15 k = I 15 k) ∧ ∀ q, j ≤ q → q < e → J 15 (24 * m + q) = nI u := by
  intro t
  induction t with
  | zero =>
    intro k j I hj hk h
    obtain ⟨k, rfl⟩ : ∃ q, k = q + 1 := ⟨k - 1, by omega⟩
    rw [F_X3_putRun_13, if_pos (nI_le (by omega) (by omega))]
    exact ⟨I, rfl, Kp.rf, fun _ _ => rfl, fun q h1 h2 => by omega⟩
  | succ t ih =>
    intro k j I hj hk h
    obtain ⟨k, rfl⟩ : ∃ q, k = q + 1 := ⟨k - 1, by omega⟩
    obtain ⟨J, g1, g2, g3, g4⟩ := ih k (j + 1) (uI I 15 (24 * m + j) (nI u)) (by omega) (by omega) (by rw [uI_ne (by omega)]; exact h)
    refine ⟨J, ?_, (Kp.rf.up (F := fun a k => a = 15) rfl).tr g2, fun q hq => ?_, fun q h1 h2 => ?_⟩
    · rw [F_X3_putRun_13, if_neg (nI_ge (by omega) (by omega)), h, show (24 : Int32) = nI 24 from rfl, pk_mul, nI_add, Nat.mul_comm m 24, nmI_s, if_neg (nI_pos (by omega)), show (216 : Int32) = nI 216 from rfl, if_neg (nI_ge (by omega) (by omega)), gd_in (by omega) (by omega), nI_clamp (by omega), nmW_s, nI_1]
      exact g1
    · rw [g3 q (by omega), uI_ne (by omega)]
    · by_cases eq : q = j
      · rw [eq, g3 _ (by omega), uI_eq]
      · exact g4 q (by omega) h2
theorem runM {u d i : Nat} {r : Int32 → PI → PL → RES} (hs : s ≤ 8) (hd : i + d ≤ 24) : ∀ (t k j : Nat) (K : PI), j + t = d → t < k → K 50 s = nI (i + j) → ∃ J : PI, F_X12_readCode_150 N r k (nI s) (nI u) (nI d) (nI j) K L = r (nI s) J L ∧ Kp (fun a k => a = 49 ∨ (a = 50 ∧ k = s)) K J ∧ J 50 s = nI (i + d) ∧ (∀ k, (k < 24 * s + i + j ∨ 24 * s + i + d ≤ k) → J 49 k = K 49 k) ∧ ∀ q, i + j ≤ q → q < i + d → J 49 (24 * s + q) = nI u := by
  intro t
  induction t with
  | zero =>
    intro k j K hj hk h
    obtain ⟨k, rfl⟩ : ∃ q, k = q + 1 := ⟨k - 1, by omega⟩
    rw [F_X12_readCode_150, if_pos (nI_le (by omega) (by omega))]
    exact ⟨K, rfl, Kp.rf, by rw [h, show j = d by omega], fun _ _ => rfl, fun q h1 h2 => by omega⟩
  | succ t ih =>
    intro k j K hj hk h
    obtain ⟨k, rfl⟩ : ∃ q, k = q + 1 := ⟨k - 1, by omega⟩
    obtain ⟨J, g1, g2, g5, g3, g4⟩ := ih k (j + 1) (uI (uI K 49 (24 * s + (i + j)) (nI u)) 50 s (nI (i + j + 1))) (by omega) (by omega) uI_eq
    refine ⟨J, ?_, (((Kp.rf (F := fun a k => a = 49 ∨ (a = 50 ∧ k = s))).up (Or.inl rfl)).up (Or.inr ⟨rfl, rfl⟩)).tr g2, g5, fun q hq => ?_, fun q h1 h2 => ?_⟩
    · rw [F_X12_readCode_150, if_neg (nI_ge (by omega) (by omega)), gd_in (by omega) (by omega), nI_clamp (n := s) (by omega), h, show (24 : Int32) = nI 24 from rfl, pk_mul, nI_add, gd_in (by omega) (by omega), nI_clamp (by omega), nmW_s, gd_in (by omega) (by omega), gd_in (by omega) (by omega), uI_ne (by omega), h, nI_1, nI_1, nmW_s]
      exact g1
    · rw [g3 q (by omega), uI_ne (by omega), uI_ne (by omega)]
    · by_cases eq : q = i + j
      · rw [eq, g3 _ (by omega), uI_ne (by omega), uI_eq]
      · exact g4 q (by omega) h2
theorem in19 {p : Nat} {I : PI} (t : TM I n T) : wi (cpM T n p - 49) 0 8 = (isDg T n p && decide (T p ≠ 48)) := by
  unfold cpM
  by_cases h : p < n
  · have hb := (t.2.2.2 p h).2.2
    rw [if_pos h, show (49 : Int32) = nI 49 from rfl]
    by_cases h1 : T p < 48
    · rw [show isDg T n p = false from decide_eq_false (by omega), Bool.false_and]
      have h2 := pk_sneg (a := T p) (b := 49) (by omega) (by omega)
      unfold wi
      rw [decide_eq_false (i32_nle.mpr h2)]; rfl
    · by_cases h2 : T p = 48
      · rw [h2, decide_eq_false (fun q => q rfl), Bool.and_false]
        decide +kernel
      · rw [nsub (by omega), decide_eq_true h2, Bool.and_true]
        by_cases h3 : T p ≤ 57
        · rw [show isDg T n p = true from decide_eq_true ⟨h, by omega, h3⟩]
          exact wi_in (a := 0) (b := 8) (by omega) (by omega) (by omega)
        · rw [show isDg T n p = false from decide_eq_false (by omega)]
          exact wi_hi (a := 0) (b := 8) (by omega) (by omega)
  · rw [if_neg h, show isDg T n p = false from decide_eq_false (by omega), Bool.false_and]
    decide +kernel
theorem codesLp (hN : 20000 ≤ N) (hm : m ≤ 8) (hs : s ≤ 8) : ∀ (t k l i p q : Nat) (I K : PI), 25 ≤ i + t → i ≤ 24 → t < k → t + 1 < l → q ≤ i → TP I n T → TM K n T → p ≤ n → I 10 2 = nI p → K 12 3 = nI p → K 12 4 = -1 → I 3 2 = nI m → K 50 s = nI i → rowC I K m s i → (i = 0 → skp T n p < n ∧ tOf (T (skp T n p)) ≠ -1) → ∃ (x : Int32) (J K' : PI), F_X3_readFrom_8 N k (nI i) (nI q) I L = some (some (.int x), J, L) ∧ F_X12_readCode_32 N l (nI s) K L = some (some (.int x), K', L) ∧ Kp dCC I J ∧ Kp dCM K K' ∧ (∀ k, k < 24 * m → J 15 k = I 15 k) ∧ (∀ k, k ≠ m → J 16 k = I 16 k) ∧ (∀ k, k < 24 * s → K' 49 k = K 49 k) ∧ (∀ k, k ≠ s → K' 50 k = K 50 k) ∧ (x = -1 → ∃ c, 1 ≤ c ∧ c ≤ 24 ∧ J 16 m = nI c ∧ K' 50 s = nI c ∧ rowC J K' m s c) := by
  intro t
  induction t with
  | zero => intro k l i p q I K h1 h2; omega
  | succ t ih =>
    intro k l i p q I K hi h1 hk hl hqi tI tK hp hI hK hw h3 h50 hr hfirst
    obtain ⟨k, rfl⟩ : ∃ q, k = q + 1 := ⟨k - 1, by omega⟩
    obtain ⟨l, rfl⟩ : ∃ q, l = q + 1 := ⟨l - 1, by omega⟩
    have hn := tI.1
    obtain ⟨I1, e1, k1, q1⟩ := next10 (N := N) (L := L) hN tI hp hI
    obtain ⟨K1, f1, m1, r1⟩ := look12 (N := N) (L := L) hN tK hp hK
    have t1 := tI.cong (d10_dT k1)
    have u1 := tK.cong (d12_dT m1)
    have hsk := skp_le (T := T) hp
    have hid := skp_id (T := T) hp
    obtain ⟨p', hp'⟩ : ∃ p', p' = skp T n p := ⟨_, rfl⟩
    rw [← hp'] at e1 q1 f1 r1 hsk hid hfirst
    have w1 : K1 12 4 = -1 := (m1 12 4 (by unfold d12; omega)).trans hw
    have c50 : K1 50 s = nI i := (m1 50 s (by unfold d12; omega)).trans h50
    have o15 : ∀ k, I1 15 k = I 15 k := fun k => k1 15 k (by unfold d10; omega)
    have o16 : ∀ k, I1 16 k = I 16 k := fun k => k1 16 k (by unfold d10; omega)
    have o49 : ∀ k, K1 49 k = K 49 k := fun k => m1 49 k (by unfold d12; omega)
    have o50 : ∀ k, K1 50 k = K 50 k := fun k => m1 50 k (by unfold d12; omega)
    have h31 : I1 3 2 = nI m := (k1 3 2 (by unfold d10; omega)).trans h3
    -- the model's end
    have mend : ∃ K', F_X12_readCode_192 N K1 L = some (some (.int (if p' < n then nI p' else -1)), K', L) ∧ Kp dW12 K1 K' := by
      obtain ⟨K', g1, g2⟩ := atEnd12 (N := N) (L := L) hN u1 hsk.2 r1 w1
      rw [hid] at g1
      refine ⟨K', ?_, g2⟩
      unfold F_X12_readCode_192
      rw [g1, bI_s]
    obtain ⟨Ke, me1, me2⟩ := mend
    have kKe : Kp dCM K Ke := (d12_CM m1).tr (dW12_CM me2)
    have oe49 : ∀ k, Ke 49 k = K 49 k := fun k => (me2 49 k (by unfold dW12; omega)).trans (o49 k)
    have oe50 : ∀ k, Ke 50 k = K 50 k := fun k => (me2 50 k (by unfold dW12; omega)).trans (o50 k)
    rw [F_X3_readFrom_8, show (24 : Int32) = nI 24 from rfl, if_neg (nI_nlt (by omega) (by omega)), e1, bI_s, F_X12_readCode_32, hw, if_pos rfl, f1, bI_s, show (24 : Int32) = nI 24 from rfl]
    by_cases hen : p' < n
    · have hb := (tI.2.2.2 p' hen).2.2
      have cC : cpC T n p' = nI (T p') := if_pos hen
      have cM : cpM T n p' = nI (T p') := if_pos hen
      rw [if_pos hen] at me1
      obtain ⟨I2, e2, k2, q2⟩ := next10 (N := N) (L := L) hN t1 hsk.2 q1
      rw [hid] at e2 q2
      have t2 := t1.cong (d10_dT k2)
      have k12 := k1.tr k2
      have o215 : ∀ k, I2 15 k = I 15 k := fun k => k12 15 k (by unfold d10; omega)
      have o216 : ∀ k, I2 16 k = I 16 k := fun k => k12 16 k (by unfold d10; omega)
      rw [cC, if_neg (nI_ne0 (by omega) (by omega)), e2, bI_s, cC, turn3_s (by omega), bI_s, cM, turn12_n (by omega), bI_s]
      rcases tOf_n (T p') (by omega) with hu | ⟨u, u4, hu⟩
      · rw [hu, if_pos rfl, if_pos rfl, q2]
        exact ⟨_, I2, Ke, rfl, me1, d10_CC k12, kKe, fun k _ => o215 k, fun k _ => o216 k, fun k _ => oe49 k, fun k _ => oe50 k, fun z => absurd z (m_ne' (by omega))⟩
      · rw [hu, if_neg (m_ne' (by omega)), if_neg (m_ne' (by omega)), here12 u1 hsk.2 r1, bI_s, cM, turn12_n (by omega), bI_s, hu, gd_in (by omega) (by omega), nI_clamp (by omega), c50]
        by_cases h24 : i = 24
        · rw [if_neg (nI_nlt (by omega) (by omega)), if_pos (show nI i = nI 24 by rw [h24]), q2, bad12 r1 w1, bV_s, uI_eq]
          refine ⟨_, I2, _, rfl, rfl, d10_CC k12, (d12_CM m1).up (by unfold dCM; omega), fun k _ => o215 k, fun k _ => o216 k, fun k _ => ?_, fun k _ => ?_, fun z => absurd z (m_ne' (by omega))⟩
          · rw [uI_ne (by omega)]; exact o49 k
          · rw [uI_ne (by omega)]; exact o50 k
        · rw [if_pos (nI_lt (by omega) (by omega)), if_neg (fun z => h24 ((nI_eq (by omega) (by omega)).mp z)), step10 t2 hen q2, bV_s, r1, nI_1, nmW_s]
          obtain ⟨I3, hI3⟩ : ∃ J : PI, J = uI I2 10 2 (nI (p' + 1)) := ⟨_, rfl⟩
          have k3 : Kp d10 I I3 := hI3 ▸ k12.up ⟨rfl, rfl⟩
          have t3 := tI.cong (d10_dT k3)
          have q3 : I3 10 2 = nI (p' + 1) := by rw [hI3, uI_eq]
          obtain ⟨K3, hK3⟩ : ∃ J : PI, J = uI K1 12 3 (nI (p' + 1)) := ⟨_, rfl⟩
          have m3 : Kp d12 K K3 := hK3 ▸ m1.up ⟨rfl, rfl⟩
          have u3 := tK.cong (d12_dT m3)
          have r3 : K3 12 3 = nI (p' + 1) := by rw [hK3, uI_eq]
          rw [← hI3, ← hK3]
          obtain ⟨I4, e4, k4, q4⟩ := next10 (N := N) (L := L) hN t3 (by omega) q3
          obtain ⟨K4, f4, m4, r4⟩ := look12 (N := N) (L := L) hN u3 (by omega) r3
          have hsk2 := skp_le (T := T) (n := n) (p := p' + 1) (by omega)
          have hid2 := skp_id (T := T) (n := n) (p := p' + 1) (by omega)
          obtain ⟨p2, hp2⟩ : ∃ y, y = skp T n (p' + 1) := ⟨_, rfl⟩
          rw [← hp2] at e4 q4 f4 r4 hsk2 hid2
          have k4' : Kp d10 I I4 := k3.tr k4
          have m4' : Kp d12 K K4 := m3.tr m4
          have t4 := tI.cong (d10_dT k4')
          have u4' := tK.cong (d12_dT m4')
          have w4 : K4 12 4 = -1 := (m4' 12 4 (by unfold d12; omega)).trans hw
          have c504 : K4 50 s = nI i := (m4' 50 s (by unfold d12; omega)).trans h50
          have h34 : I4 3 2 = nI m := (k4' 3 2 (by unfold d10; omega)).trans h3
          rw [e4, bI_s, f4, bI_s, in_s, bI_s, dg10 t4 hsk2.2 q4, bI_s]
          have p415 : ∀ k, I4 15 k = I 15 k := fun k => k4' 15 k (by unfold d10; omega)
          have p416 : ∀ k, I4 16 k = I 16 k := fun k => k4' 16 k (by unfold d10; omega)
          have p449 : ∀ k, K4 49 k = K 49 k := fun k => m4' 49 k (by unfold d12; omega)
          have p450 : ∀ k, K4 50 k = K 50 k := fun k => m4' 50 k (by unfold d12; omega)
          -- a run put in both, then on
          have go : ∀ (d pz : Nat) (y : Int32) (Ia Ka : PI), jmax y 1 = nI d → 1 ≤ d → i + d ≤ 24 → pz ≤ n → Kp d10 I4 Ia → Kp d12 K4 Ka → Ia 10 2 = nI pz → Ka 12 3 = nI pz → ∃ (x : Int32) (J K' : PI), F_X3_readFrom_90 N (F_X3_readFrom_8 N k) (nI i) (nI q) (nI u) y Ia L = some (some (.int x), J, L) ∧ F_X12_readCode_150 N (F_X12_readCode_32 N l) N (nI s) (nI u) (nI d) 0 Ka L = some (some (.int x), K', L) ∧ Kp dCC I J ∧ Kp dCM K K' ∧ (∀ k, k < 24 * m → J 15 k = I 15 k) ∧ (∀ k, k ≠ m → J 16 k = I 16 k) ∧ (∀ k, k < 24 * s → K' 49 k = K 49 k) ∧ (∀ k, k ≠ s → K' 50 k = K 50 k) ∧ (x = -1 → ∃ c, 1 ≤ c ∧ c ≤ 24 ∧ J 16 m = nI c ∧ K' 50 s = nI c ∧ rowC J K' m s c) := by
            intro d pz y Ia Ka hy hd1 hd2 hpz ka kb qa ra
            have a32 : Ia 3 2 = nI m := (ka 3 2 (by unfold d10; omega)).trans h34
            have b50 : Ka 50 s = nI (i + 0) := (kb 50 s (by unfold d12; omega)).trans c504
            obtain ⟨J1, g1, g2, g3, g4⟩ := runLp (N := N) (L := L) (u := u) (e := i + d) hm hd2 d N i Ia (by omega) (by omega) a32
            obtain ⟨J2, h1', h2', h5', h3', h4'⟩ := runM (N := N) (L := L) (u := u) (d := d) (i := i) (r := F_X12_readCode_32 N l) hs hd2 d N 0 Ka (by omega) (by omega) b50
            have kJ1 : Kp dCC I J1 := (d10_CC (k4'.tr ka)).tr (g2.mono (fun a k q => by unfold dCC; omega))
            have kJ2 : Kp dCM K J2 := (d12_CM (m4'.tr kb)).tr (h2'.mono (fun a k q => by unfold dCM; omega))
            have v15 : ∀ k, (k < 24 * m + i) → J1 15 k = I 15 k := fun k hk => (g3 k (Or.inl hk)).trans ((ka 15 k (by unfold d10; omega)).trans (p415 k))
            have v49 : ∀ k, (k < 24 * s + i) → J2 49 k = K 49 k := fun k hk => (h3' k (Or.inl (by omega))).trans ((kb 49 k (by unfold d12; omega)).trans (p449 k))
            have v16 : ∀ k, J1 16 k = I 16 k := fun k => (g2 16 k (by omega)).trans ((ka 16 k (by unfold d10; omega)).trans (p416 k))
            have v50 : ∀ k, k ≠ s → J2 50 k = K 50 k := fun k hk => (h2' 50 k (by omega)).trans ((kb 50 k (by unfold d12; omega)).trans (p450 k))
            obtain ⟨x, J, K', z1, z2, z3, z4, z5, z6, z7, z8, z9⟩ := ih k l (i + d) pz (q + 1) J1 J2 (by omega) hd2 (by omega) (by omega) (by omega) (tI.cong (dT_CC kJ1)) (tK.cong (dT_CM kJ2)) hpz ((g2 10 2 (by omega)).trans qa) ((h2' 12 3 (by omega)).trans ra) ((h2' 12 4 (by omega)).trans ((kb 12 4 (by unfold d12; omega)).trans w4)) ((g2 3 2 (by omega)).trans a32) h5' (fun j hj => by
              by_cases hji : j < i
              · obtain ⟨w, y1, y2, y3⟩ := hr j hji
                exact ⟨w, y1, (v15 _ (by omega)).trans y2, (v49 _ (by omega)).trans y3⟩
              · exact ⟨u, u4, g4 j (by omega) (by omega), h4' j (by omega) (by omega)⟩) (fun h => by omega)
            refine ⟨x, J, K', ?_, h1'.trans z2, kJ1.tr z3, kJ2.tr z4, fun k hk => (z5 k hk).trans (v15 k (by omega)), fun k hk => (z6 k hk).trans (v16 k), fun k hk => (z7 k hk).trans (v49 k (by omega)), fun k hk => (z8 k hk).trans (v50 k hk), z9⟩
            unfold F_X3_readFrom_90 f_X3_putRun
            rw [hy, nI_add, show (24 : Int32) = nI 24 from rfl, jmin_n (by omega) (by omega), Nat.min_eq_left hd2, nmI_s, g1, bI_s, nI_1]
            exact z1
          cases hd : isDg T n p2 with
          | false =>
            have hwi : wi (cpM T n p2 - 49) 0 8 = false := by rw [in19 u4', hd]; rfl
            obtain ⟨x, J, K', g1, g2, g3⟩ := go 1 p2 (-1) I4 K4 (by decide) (by omega) (by omega) hsk2.2 Kp.rf Kp.rf q4 r4
            refine ⟨x, J, K', ?_, ?_, g3⟩
            · rw [if_neg (show ¬ (false = true) by decide), if_neg (show ¬ (-1 : Int32) = 0 by decide), if_pos (show nI i + (-1) ≤ nI 24 by
                rw [zm1, zI_n i, zI_add, zI_n 24]
                exact (zI_le (by omega) (by omega) (by omega) (by omega)).mpr (by omega)), if_pos (show (-1 : Int32) ≤ 0 by decide)]
              exact g1
            · rw [ifz_f hwi]
              exact g2
          | true =>
            obtain ⟨d1, d2, d3⟩ := isDg_t hd
            have cM2 : cpM T n p2 = nI (T p2) := if_pos d1
            by_cases h48 : T p2 = 48
            · have hwi : wi (cpM T n p2 - 49) 0 8 = false := by rw [in19 u4', hd, decide_eq_false (fun z => z h48)]; rfl
              rw [if_pos rfl, if_pos (show nI (T p2 - 48) = (0 : Int32) by rw [h48]; rfl), q4, ifz_f hwi]
              obtain ⟨J2, h1', h2', h5', h3', h4'⟩ := runM (N := N) (L := L) (u := u) (d := 1) (i := i) (r := F_X12_readCode_32 N l) hs (by omega) 1 N 0 K4 (by omega) (by omega) c504
              obtain ⟨l', hl'⟩ : ∃ z, l = z + 1 := ⟨l - 1, by omega⟩
              have tJ2 : TM J2 n T := u4'.cong (dT_CM (h2'.mono (fun a k q => by unfold dCM; omega)))
              obtain ⟨K6, x1, x2, x3⟩ := look12 (N := N) (L := L) hN tJ2 hsk2.2 ((h2' 12 3 (by omega)).trans r4)
              rw [hid2] at x1 x3
              have w6 : K6 12 4 = -1 := (x2 12 4 (by unfold d12; omega)).trans ((h2' 12 4 (by omega)).trans w4)
              obtain ⟨K7, y1, y2⟩ := atEnd12 (N := N) (L := L) hN (tJ2.cong (d12_dT x2)) hsk2.2 x3 w6
              rw [hid2, if_pos d1] at y1
              have e32 : F_X12_readCode_32 N l (nI s) J2 L = some (some (.int (nI p2)), K7, L) := by
                rw [hl', F_X12_readCode_32, show J2 12 4 = -1 from (h2' 12 4 (by omega)).trans w4, if_pos rfl, x1, bI_s, cM2, turn12_n (by omega), bI_s, tOf_dg _ d2 d3, if_pos rfl]
                unfold F_X12_readCode_192
                rw [y1, bI_s]
              have kAll : Kp dCM K K7 := (((d12_CM m4').tr (h2'.mono (fun a k q => by unfold dCM; omega))).tr (d12_CM x2)).tr (dW12_CM y2)
              refine ⟨_, I4, K7, rfl, h1'.trans e32, d10_CC k4', kAll, fun k _ => p415 k, fun k _ => p416 k, fun k hk => ?_, fun k hk => ?_, fun z => absurd z (m_ne' (by omega))⟩
              · rw [y2 49 k (by unfold dW12; omega), x2 49 k (by unfold d12; omega), h3' k (Or.inl (by omega))]; exact p449 k
              · rw [y2 50 k (by unfold dW12; omega), x2 50 k (by unfold d12; omega), h2' 50 k (by omega)]; exact p450 k
            · have hwi : wi (cpM T n p2 - 49) 0 8 = true := by rw [in19 u4', hd, decide_eq_true h48]; rfl
              rw [if_pos rfl, if_neg (nI_ne0 (by omega) (by omega)), nI_add, ifz_t hwi, here12 u4' hsk2.2 r4, bI_s, cM2, show (48 : Int32) = nI 48 from rfl, nsub d2, nmI_s, gd_in (by omega) (by omega), c504, nI_add]
              by_cases hfit : i + (T p2 - 48) ≤ 24
              · rw [if_pos (nI_le hfit (by omega)), if_neg (nI_nle (by omega) (by omega)), step10 t4 d1 q4, bV_s, if_pos (nI_le hfit (by omega)), r4, nI_1, nmW_s]
                exact go (T p2 - 48) (p2 + 1) (nI (T p2 - 48)) (uI I4 10 2 (nI (p2 + 1))) (uI K4 12 3 (nI (p2 + 1))) (by rw [show (1 : Int32) = nI 1 from rfl, jmax_n (by omega) (by omega), Nat.max_eq_left (by omega)]) (by omega) hfit (by omega) (Kp.rf.up ⟨rfl, rfl⟩) (Kp.rf.up ⟨rfl, rfl⟩) uI_eq uI_eq
              · rw [if_neg (nI_ge (by omega) (by omega)), if_neg (nI_ge (by omega) (by omega)), q4, bad12 r4 w4, bV_s, uI_eq]
                refine ⟨_, I4, _, rfl, rfl, d10_CC k4', (d12_CM m4').up (by unfold dCM; omega), fun k _ => p415 k, fun k _ => p416 k, fun k _ => ?_, fun k _ => ?_, fun z => absurd z (m_ne' (by omega))⟩
                · rw [uI_ne (by omega)]; exact p449 k
                · rw [uI_ne (by omega)]; exact p450 k
    · have i0 : i ≠ 0 := fun z => hen (hfirst z).1
      have cC : cpC T n p' = 0 := if_neg hen
      have cM : cpM T n p' = -1 := if_neg hen
      rw [if_neg hen] at me1
      rw [cC, if_pos rfl, cM, turn12_m, bI_s, if_pos rfl]
      unfold F_X3_readFrom_110 F_X3_readFrom_132
      rw [h31, show (9 : Int32) = nI 9 from rfl, if_neg (nI_ge (by omega) (by omega)), gd_in (by omega) (by omega), nI_clamp (by omega), nmW_s, if_neg (nI_ne0 (by omega) (by omega))]
      refine ⟨_, _, Ke, rfl, me1, (d10_CC k1).up (by unfold dCC; omega), kKe, fun k _ => ?_, fun k hk => ?_, fun k _ => oe49 k, fun k _ => oe50 k, fun _ => ⟨i, by omega, h1, uI_eq, (oe50 s).trans h50, fun j hj => ?_⟩⟩
      · rw [uI_ne (by omega)]; exact o15 k
      · rw [uI_ne (by omega)]; exact o16 k
      · obtain ⟨w, y1, y2, y3⟩ := hr j hj
        exact ⟨w, y1, (by rw [uI_ne (by omega), o15]; exact y2), (oe49 _).trans y3⟩
end RCODE
