section BOTHC
variable {N n : Nat} {T : Nat → Nat} {L : PL}
theorem codesAll {m s : Nat} {I : PI} (hN : 20000 ≤ N) (hm : m ≤ 8) (hs : s ≤ 8) (tI : TP I n T) (h3 : I 3 2 = nI m) : ∃ (x : Int32) (J : PI), f_X3_readFrom N I L = some (some (.int x), J, L) ∧ Kp dCC I J ∧ (∀ k, k < 24 * m → J 15 k = I 15 k) ∧ (∀ k, k ≠ m → J 16 k = I 16 k) ∧ ∀ K : PI, TM K n T → ∃ K' : PI, f_X12_readCode N (nI s) K L = some (some (.int x), K', L) ∧ Kp dCM K K' ∧ (∀ k, k < 24 * s → K' 49 k = K 49 k) ∧ (∀ k, k ≠ s → K' 50 k = K 50 k) ∧ (x = -1 → ∃ c, 1 ≤ c ∧ c ≤ 24 ∧ J 16 m = nI c ∧ K' 50 s = nI c ∧ rowC J K' m s c) := by
  have kI : Kp dCC I (uI I 10 2 0) := Kp.rf.up (by unfold dCC; omega)
  have hn := tI.1
  have one : ∀ K : PI, TM K n T → ∃ (x : Int32) (J K' : PI), f_X3_readFrom N I L = some (some (.int x), J, L) ∧ f_X12_readCode N (nI s) K L = some (some (.int x), K', L) ∧ Kp dCC I J ∧ Kp dCM K K' ∧ (∀ k, k < 24 * m → J 15 k = I 15 k) ∧ (∀ k, k ≠ m → J 16 k = I 16 k) ∧ (∀ k, k < 24 * s → K' 49 k = K 49 k) ∧ (∀ k, k ≠ s → K' 50 k = K 50 k) ∧ (x = -1 → ∃ c, 1 ≤ c ∧ c ≤ 24 ∧ J 16 m = nI c ∧ K' 50 s = nI c ∧ rowC J K' m s c) := by
    intro K tK
    obtain ⟨K2, hK2⟩ : ∃ Q : PI, Q = uI (uI (uI K 12 3 0) 12 4 (-1)) 50 s 0 := ⟨_, rfl⟩
    have k2 : Kp dCM K K2 := hK2 ▸ ((Kp.rf.up (by unfold dCM; omega)).up (by unfold dCM; omega)).up (by unfold dCM; omega)
    have o49 : ∀ k, K2 49 k = K 49 k := fun k => by rw [hK2, uI_ne (by omega), uI_ne (by omega), uI_ne (by omega)]
    have o50 : ∀ k, k ≠ s → K2 50 k = K 50 k := fun k hk => by rw [hK2, uI_ne (by omega), uI_ne (by omega), uI_ne (by omega)]
    have t2 := tK.cong (dT_CM k2)
    have tI0 := tI.cong (dT_CC kI)
    have a3 : K2 12 3 = nI 0 := by rw [hK2, uI_ne (by omega), uI_ne (by omega), uI_eq]; rfl
    have a4 : K2 12 4 = -1 := by rw [hK2, uI_ne (by omega), uI_eq]
    obtain ⟨K3, f1, m1, r1⟩ := look12 (N := N) (L := L) hN t2 (Nat.zero_le n) a3
    have hsk := skp_le (T := T) (n := n) (p := 0) (Nat.zero_le n)
    have hid := skp_id (T := T) (n := n) (p := 0) (Nat.zero_le n)
    obtain ⟨q, hq⟩ : ∃ q, q = skp T n 0 := ⟨_, rfl⟩
    rw [← hq] at f1 r1 hsk hid
    have t3 := t2.cong (d12_dT m1)
    have b4 : K3 12 4 = -1 := (m1 12 4 (by unfold d12; omega)).trans a4
    have eM : f_X12_readCode N (nI s) K L = bI (f_X12_turnOf N (cpM T n q) K3 L) (fun x7 I8 L9 => (if x7 = (-1 : Int32) then bV (f_X12_bad N I8 L9) (fun I46 L47 => F_X12_readCode_32 N N (nI s) I46 L47) else F_X12_readCode_32 N N (nI s) I8 L9)) := by
      unfold f_X12_readCode
      rw [nmW_s, nmW_s, gd_in (by omega) (by omega), nI_clamp (by omega), nmW_s, ← hK2, f1, bI_s]
    have eC : f_X3_readFrom N I L = F_X3_readFrom_8 N N 0 0 (uI I 10 2 0) L := by
      unfold f_X3_readFrom f_X10_start
      rw [nmW_s, bV_s]
    by_cases hA : q < n ∧ tOf (T q) ≠ -1
    · have hl : f_X12_look N K3 L = some (some (.int (cpM T n q)), K3, L) := by
        obtain ⟨K4, f2, m2, r2⟩ := look12 (N := N) (L := L) hN t3 hsk.2 r1
        rw [hid] at f2 r2
        have e : K4 = K3 := funext fun a => funext fun k => by
          by_cases h : a = 12 ∧ k = 3
          · rw [h.1, h.2, r2, r1]
          · exact m2 a k h
        rw [e] at f2
        exact f2
      have e32 : F_X12_readCode_32 N N (nI s) K3 L = F_X12_readCode_32 N N (nI s) K2 L := by
        obtain ⟨M, hM⟩ : ∃ M, N = M + 1 := ⟨N - 1, by omega⟩
        have st : ∀ K0 : PI, K0 12 4 = -1 → f_X12_look N K0 L = some (some (.int (cpM T n q)), K3, L) → F_X12_readCode_32 N (M + 1) (nI s) K0 L = F_X12_readCode_32 N (M + 1) (nI s) K3 L := fun K0 h0 h1 => by
          rw [F_X12_readCode_32, F_X12_readCode_32, if_pos h0, if_pos b4, h1, hl]
        have := st K2 a4 f1
        rw [← hM] at this
        exact this.symm
      obtain ⟨x, J, K', g1, g2, g3, g4, g5, g6, g7, g8, g9⟩ := codesLp (N := N) (L := L) hN hm hs 25 N N 0 0 0 (uI I 10 2 0) K2 (by omega) (by omega) (by omega) (by omega) (Nat.le_refl _) tI0 t2 (Nat.zero_le n) uI_eq a3 a4 ((uI_ne (by omega)).trans h3) (by rw [hK2, uI_eq]; rfl) (fun j hj => by omega) (fun _ => by rw [← hq]; exact hA)
      have hb := (t3.2.2.2 q hA.1).2.2
      have ec : cpM T n q = nI (T q) := if_pos hA.1
      refine ⟨x, J, K', eC.trans g1, ?_, kI.tr g3, k2.tr g4, fun k hk => (g5 k hk).trans (uI_ne (by omega)), fun k hk => (g6 k hk).trans (uI_ne (by omega)), fun k hk => (g7 k hk).trans (o49 k), fun k hk => (g8 k hk).trans (o50 k hk), g9⟩
      rw [eM, ec, turn12_n (by omega), bI_s, if_neg hA.2, e32]
      exact g2
    · have m1C : Kp dCM K K3 := k2.tr (d12_CM m1)
      have hne : nI q ≠ -1 := m_ne' (by omega)
      have mod : f_X12_readCode N (nI s) K L = some (some (.int (nI q)), uI K3 12 4 (nI q), L) := by
        have htn : f_X12_turnOf N (cpM T n q) K3 L = some (some (.int (-1)), K3, L) := by
          by_cases h : q < n
          · have hb := (t3.2.2.2 q h).2.2
            rw [show cpM T n q = nI (T q) from if_pos h, turn12_n (by omega)]
            have : tOf (T q) = -1 := by
              by_cases z : tOf (T q) = -1
              · exact z
              · exact absurd ⟨h, z⟩ hA
            rw [this]
          · rw [show cpM T n q = -1 from if_neg h, turn12_m]
        obtain ⟨M, hM⟩ : ∃ M, N = M + 1 := ⟨N - 1, by omega⟩
        have e32 : F_X12_readCode_32 N (M + 1) (nI s) (uI K3 12 4 (nI q)) L = some (some (.int (nI q)), uI K3 12 4 (nI q), L) := by
          rw [F_X12_readCode_32, uI_eq, if_neg hne]
          unfold F_X12_readCode_192
          rw [atEnd12' (by rw [uI_eq]; exact hne), bI_s, uI_eq]
        rw [← hM] at e32
        rw [eM, htn, bI_s, if_pos rfl, bad12 r1 b4, bV_s, e32]
      obtain ⟨I1, e1, c1, q1⟩ := next10 (N := N) (L := L) hN tI0 (Nat.zero_le n) (show (uI I 10 2 0) 10 2 = nI 0 from uI_eq)
      rw [← hq] at e1 q1
      have c1C : Kp dCC I I1 := kI.tr (d10_CC c1)
      have tI1 := tI0.cong (d10_dT c1)
      have i3 : I1 3 2 = nI m := (c1 3 2 (by unfold d10; omega)).trans ((uI_ne (by omega)).trans h3)
      have i15 : ∀ k, I1 15 k = I 15 k := fun k => (c1 15 k (by unfold d10; omega)).trans (uI_ne (by omega))
      have i16 : ∀ k, I1 16 k = I 16 k := fun k => (c1 16 k (by unfold d10; omega)).trans (uI_ne (by omega))
      have kM4 : Kp dCM K (uI K3 12 4 (nI q)) := m1C.up (by unfold dCM; omega)
      have o49' : ∀ k, k < 24 * s → (uI K3 12 4 (nI q)) 49 k = K 49 k := fun k _ => by rw [uI_ne (by omega), m1 49 k (by unfold d12; omega), o49]
      have o50' : ∀ k, k ≠ s → (uI K3 12 4 (nI q)) 50 k = K 50 k := fun k hk => by rw [uI_ne (by omega), m1 50 k (by unfold d12; omega), o50 k hk]
      obtain ⟨M, hM⟩ : ∃ M, N = M + 1 := ⟨N - 1, by omega⟩
      by_cases h : q < n
      · have hb := tI1.2.2.2 q h
        have ec : cpC T n q = nI (T q) := if_pos h
        have htq : tOf (T q) = -1 := by
          by_cases z : tOf (T q) = -1
          · exact z
          · exact absurd ⟨h, z⟩ hA
        obtain ⟨I2, e2, c2, q2⟩ := next10 (N := N) (L := L) hN tI1 hsk.2 q1
        rw [hid] at e2 q2
        have cls : F_X3_readFrom_8 N (M + 1) 0 0 (uI I 10 2 0) L = some (some (.int (nI q)), I2, L) := by
          rw [F_X3_readFrom_8, if_neg (by decide), e1, bI_s, ec, if_neg (fun z => by have := (nI_eq (b := 0) (by omega) (by omega)).mp z; omega), e2, bI_s, ec, turn3_s (by omega), bI_s, htq, if_pos rfl, q2]
        rw [← hM] at cls
        exact ⟨nI q, I2, _, eC.trans cls, mod, c1C.tr (d10_CC c2), kM4, fun k _ => (c2 15 k (by unfold d10; omega)).trans (i15 k), fun k _ => (c2 16 k (by unfold d10; omega)).trans (i16 k), o49', o50', fun z => absurd z hne⟩
      · have ec : cpC T n q = 0 := if_neg h
        have cls : F_X3_readFrom_8 N (M + 1) 0 0 (uI I 10 2 0) L = some (some (.int (nI q)), uI I1 16 m 0, L) := by
          rw [F_X3_readFrom_8, if_neg (by decide), e1, bI_s, ec, if_pos rfl]
          unfold F_X3_readFrom_110 F_X3_readFrom_132
          rw [i3, show (9 : Int32) = nI 9 from rfl, if_neg (nI_ge (by omega) (by omega)), gd_in (by omega) (by omega), nI_clamp (by omega), nmW_s, if_pos rfl, uI_ne (by omega), q1]
        rw [← hM] at cls
        exact ⟨nI q, _, _, eC.trans cls, mod, c1C.up (by unfold dCC; omega), kM4, fun k _ => (uI_ne (by omega)).trans (i15 k), fun k hk => (uI_ne (by omega)).trans (i16 k), o49', o50', fun z => absurd z hne⟩
  obtain ⟨x, J, K, a1, -, a3, -, a5, a6, -⟩ := one I tI.tm
  refine ⟨x, J, a1, a3, a5, a6, fun K tK => ?_⟩
  obtain ⟨x', J', K', b1, b2, -, b4, -, -, b7⟩ := one K tK
  obtain ⟨e1, e2⟩ := res_inj a1 b1
  subst e1 e2
  exact ⟨K', b2, b4, b7⟩
theorem codesBoth {m s : Nat} {I : PI} (hN : 20000 ≤ N) (hm : m ≤ 8) (hs : s ≤ 8) (tI : TP I n T) (h3 : I 3 2 = nI m) : ∃ (x : Int32) (J K' : PI), f_X3_readFrom N I L = some (some (.int x), J, L) ∧ f_X12_readCode N (nI s) J L = some (some (.int x), K', L) ∧ Kp dCC I J ∧ Kp dCM J K' ∧ (∀ k, k < 24 * m → J 15 k = I 15 k) ∧ (∀ k, k ≠ m → J 16 k = I 16 k) ∧ (∀ k, k < 24 * s → K' 49 k = J 49 k) ∧ (∀ k, k ≠ s → K' 50 k = J 50 k) ∧ (x = -1 → ∃ c, 1 ≤ c ∧ c ≤ 24 ∧ J 16 m = nI c ∧ K' 50 s = nI c ∧ rowC J K' m s c) := by
  obtain ⟨x, J, a1, a3, a5, a6, h⟩ := codesAll (N := N) (L := L) hN hm hs tI h3
  obtain ⟨K', b1, b2, b3⟩ := h J (tI.cong (dT_CC a3)).tm
  exact ⟨x, J, K', a1, b1, a3, b2, a5, a6, b3⟩
end BOTHC
