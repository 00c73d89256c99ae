theorem gd_t {o : RES} : gd true o = o := rfl
theorem gd_f {o : RES} : gd false o = none := rfl
theorem bI_s {x : Int32} {I : PI} {L : PL} {K : Int32 → PI → PL → RES} : bI (some (some (.int x), I, L)) K = K x I L := rfl
theorem bJ_s {x : Int64} {I : PI} {L : PL} {K : Int64 → PI → PL → RES} : bJ (some (some (.long x), I, L)) K = K x I L := rfl
theorem bV_s {I : PI} {L : PL} {K : PI → PL → RES} : bV (some (none, I, L)) K = K I L := rfl
theorem nmI_s {x : Int32} {K : Int32 → RES} : nmI x K = K x := rfl
theorem nmJ_s {x : Int64} {K : Int64 → RES} : nmJ x K = K x := rfl
theorem nmW_s {I : PI} {K : PI → RES} : nmW I K = K I := rfl
theorem nmY_s {L : PL} {K : PL → RES} : nmY L K = K L := rfl
theorem inb_nI {n N : Nat} (h : n < N) (hN : N < 2 ^ 31) : inb (nI n) N = true := by
  unfold inb
  have h1 : ¬ nI n < 0 := nI_pos (by omega)
  rw [decide_eq_false h1, nI_clamp (by omega), decide_eq_true h]
  rfl
/-- both answer alike, and what ties their cells stays -/
def CaseI (Inv : PI → PL → Prop) (fC fM : PI → PL → RES) : Prop := ∀ (I : PI) (L : PL), Inv I L → ∃ (x : Int32) (I1 : PI) (L1 : PL) (I2 : PI) (L2 : PL), fC I L = some (some (.int x), I1, L1) ∧ fM I1 L1 = some (some (.int x), I2, L2) ∧ Inv I2 L2
def CaseJ (Inv : PI → PL → Prop) (fC fM : PI → PL → RES) : Prop := ∀ (I : PI) (L : PL), Inv I L → ∃ (x : Int64) (I1 : PI) (L1 : PL) (I2 : PI) (L2 : PL), fC I L = some (some (.long x), I1, L1) ∧ fM I1 L1 = some (some (.long x), I2, L2) ∧ Inv I2 L2
/-- sign: the class throws just where the model says so; else one answer -/
def CaseS (Inv : PI → PL → Prop) (fC fM : PI → PL → RES) : Prop := ∀ (I : PI) (L : PL), Inv I L → ∃ (v : Value) (y : Int32) (I1 : PI) (I2 : PI) (L2 : PL), fC I L = some (some v, I1, L) ∧ ((v = .null ∧ I2 12 0 = 1) ∨ (v = .int y ∧ I2 12 0 = 0)) ∧ (∀ L1 : PL, (∀ c, c ≠ 63 → L1 c = L c) → fM I1 L1 = some (some (.int y), I2, L1) ∧ Inv I2 L1)
def Good (o : RES) : Prop := ∃ (I' : PI) (L' : PL), o = some (some (.int 1), I', L')
theorem swT_good {lo : Int} {os : List RES} {od : RES} {x : Int32} (h : ∀ o ∈ os, Good o) (hd : Good od) : Good (swT lo os od x) := by
  unfold swT
  by_cases h1 : x.toInt < lo
  · rw [if_pos h1]; exact hd
  · rw [if_neg h1]
    cases hj : os[(x.toInt - lo).toNat]? with
    | none => exact hd
    | some o => exact h o (List.mem_of_getElem? hj)
theorem cmp_refl (x : Int64) : lg_cmp x x = 0 := by
  unfold lg_cmp
  have h : ¬ x > x := by
    intro h
    rw [gt_iff_lt, Int64.lt_iff_toInt_lt] at h
    omega
  rw [if_neg h, if_pos rfl]
theorem step7 (j : Nat) : nI (7 * j) + 7 = nI (7 * (j + 1)) := by
  rw [show (7 : Int32) = nI 7 from rfl, nI_add]
  rfl
theorem stepk (j k : Nat) (y : Int32) (h : nI k = y) : nI (7 * j) + y = nI (7 * j + k) := by rw [← h, nI_add]
theorem last7 {l9 j : Nat} (hl : l9 ≤ 3584) (hj : 7 * j ≤ 4000) : (Int32.ofNat l9 - 7 < nI (7 * j)) ↔ l9 < 7 * j + 7 := by
  have h1 : Int32.ofNat l9 = nI l9 := rfl
  have h2 : (7 : Int32) = nI 7 := rfl
  rw [h1, h2, Int32.lt_iff_toInt_lt, pk_sub_toInt (by omega) (by omega), nI_toInt (by omega)]
  omega
set_option maxRecDepth 100000 in
set_option maxHeartbeats 16000000 in
theorem law_pure_open {Inv : PI → PL → Prop} {N : Nat} (h_feed : ∀ (a1 : Int32) (a2 : Int32) (a3 : Int32) (a4 : Int32) (a5 : Int32), CaseI Inv (f_X11_feed N a1 a2 a3 a4 a5) (f_X12_feed N a1 a2 a3 a4 a5)) (h_end : ∀ (a1 : Int32), CaseI Inv (f_X11_end N a1) (f_X12_end N a1)) (h_fault : ∀ (a1 : Int32), CaseI Inv (f_X11_fault N a1) (f_X12_fault N a1)) (h_text : ∀ (a1 : Int32), CaseI Inv (f_X11_text N a1) (f_X12_text N a1)) (h_sign : ∀ (a1 a2 : Int32), CaseS Inv (f_X11_sign N a1 a2) (f_X12_sign N a1 a2)) (h_rest : ∀ (a1 : Int32) (a2 : Int32), CaseI Inv (f_X11_rest N a1 a2) (f_X12_rest N a1 a2)) (h_weight : ∀ (a1 : Int32) (a2 : Int32) (a3 : Int32), CaseI Inv (f_X11_weight N a1 a2 a3) (f_X12_weight N a1 a2 a3)) (h_comes : ∀ (a1 : Int32) (a2 : Int32) (a3 : Int32) (a4 : Int32) (a5 : Int32) (a6 : Int32), CaseI Inv (f_X11_comes N a1 a2 a3 a4 a5 a6) (f_X12_comes N a1 a2 a3 a4 a5 a6)) (h_lobes : ∀ (a1 : Int32) (a2 : Int32) (a3 : Int32), CaseI Inv (f_X11_lobes N a1 a2 a3) (f_X12_lobes N a1 a2 a3)) (h_hinder : ∀ (a1 : Int32) (a2 : Int32), CaseI Inv (f_X11_hinder N a1 a2) (f_X12_hinder N a1 a2)) (h_friends : ∀ (a1 : Int32), CaseI Inv (f_X11_friends N a1) (f_X12_friends N a1)) (h_best : ∀ (a1 : Int32) (a2 : Int32), CaseI Inv (f_X11_best N a1 a2) (f_X12_best N a1 a2)) (h_filter : ∀ (a1 : Int32) (a2 : Int32), CaseI Inv (f_X11_filter N a1 a2) (f_X12_filter N a1 a2)) (h_set : ∀ (a1 : Int32) (a2 : Int32), CaseI Inv (f_X11_set N a1 a2) (f_X12_set N a1 a2)) (h_seen : ∀ (a1 : Int32) (a2 : Int32), CaseI Inv (f_X11_seen N a1 a2) (f_X12_seen N a1 a2)) (h_map : ∀ (a1 : Int32) (a2 : Int32) (a3 : Int32), CaseI Inv (f_X11_map N a1 a2 a3) (f_X12_map N a1 a2 a3)) (h_choice : ∀ (a1 : Int32) (a2 : Int32) (a3 : Int32) (a4 : Int32), CaseI Inv (f_X11_choice N a1 a2 a3 a4) (f_X12_choice N a1 a2 a3 a4)) (h_read : ∀ (a1 : Int32) (a2 : Int32), CaseI Inv (f_X11_read N a1 a2) (f_X12_read N a1 a2)) (h_unfold : ∀ (a1 : Int32) (a2 : Int32) (a3 : Int32) (a4 : Int32) (a5 : Int32), CaseI Inv (f_X11_unfold N a1 a2 a3 a4 a5) (f_X12_unfold N a1 a2 a3 a4 a5)) (h_ghosts : ∀ (a1 : Int32) (a2 : Int32) (a3 : Int32) (a4 : Int32), CaseI Inv (f_X11_ghosts N a1 a2 a3 a4) (f_X12_ghosts N a1 a2 a3 a4)) (h_cell : ∀ (a1 : Int32), CaseI Inv (f_X11_cell N a1) (f_X12_cell N a1)) (h_change : ∀ (a1 : Int32) (a2 : Int32), CaseI Inv (f_X11_change N a1 a2) (f_X12_change N a1 a2)) (h_draw : ∀ (a1 : Int32) (a2 : Int32) (a3 : Int64), CaseI Inv (f_X11_draw N a1 a2 a3) (f_X12_draw N a1 a2 a3)) (h_at : ∀ (a1 : Int32), CaseI Inv (f_X11_at N a1) (f_X12_at N a1)) (h_undo : ∀ (a1 : Int32), a1 = 0 ∨ a1 = 1 → CaseI Inv (f_X11_undo N a1) (f_X12_undo N a1)) (h_found : ∀ (a1 : Int32), CaseI Inv (f_X11_found N a1) (f_X12_found N a1)) (h_alarms : CaseI Inv (f_X11_alarms N) (f_X12_alarms N)) (h_share : ∀ (a1 : Int32) (a2 : Int32) (a3 : Int32) (a4 : Int32) (a5 : Int32), CaseJ Inv (f_X11_share N a1 a2 a3 a4 a5) (f_X12_share N a1 a2 a3 a4 a5)) (h_beam : ∀ (a1 : Int32) (a2 : Int32) (a3 : Int32), CaseI Inv (f_X11_beam N a1 a2 a3) (f_X12_beam N a1 a2 a3)) (h_plan : ∀ (a1 : Int32), CaseI Inv (f_X11_plan N a1) (f_X12_plan N a1)) (h_like : ∀ (a1 : Int32) (a2 : Int32), CaseI Inv (f_X11_like N a1 a2) (f_X12_like N a1 a2)) (h_partners : ∀ (a1 : Int32) (a2 : Int32), CaseI Inv (f_X11_partners N a1 a2) (f_X12_partners N a1 a2)) (h_cancel : ∀ (a1 : Int32) (a2 : Int32), CaseI Inv (f_X11_cancel N a1 a2) (f_X12_cancel N a1 a2)) (h_stagger : ∀ (a1 : Int32) (a2 : Int32) (a3 : Int32) (a4 : Int32) (a5 : Int32), CaseI Inv (f_X11_stagger N a1 a2 a3 a4 a5) (f_X12_stagger N a1 a2 a3 a4 a5)) (h_factor : ∀ (a1 : Int32) (a2 : Int32) (a3 : Int32) (a4 : Int32), CaseI Inv (f_X11_factor N a1 a2 a3 a4) (f_X12_factor N a1 a2 a3 a4)) (h_heaps : ∀ (a1 : Int32), CaseI Inv (f_X11_heaps N a1) (f_X12_heaps N a1)) (h_image : CaseI Inv (f_X11_image N) (f_X12_image N)) (h_back : CaseI Inv (f_X11_back N) (f_X12_back N)) (h_count : ∀ (a1 : Int32), CaseI Inv (f_X11_count N a1) (f_X12_count N a1)) (l9 : Nat) (xs : Nat → Int32) : ∀ (n j : Nat) (I : PI) (L : PL) (v4 : Int32), v4 = nI (7 * j) → 7 * j ≤ l9 ∧ 520 ≤ n + j → l9 ≤ 3584 → Inv I L → Good (F_L_law_23 N l9 xs n v4 I L) := by
  intro n
  induction n with
  | zero =>
    intro j I L v4 ev hn hl hI
    exfalso
    omega
  | succ n ih0 =>
    intro j I L v4 ev hn hl hI
    rw [F_L_law_23]
    by_cases hend : Int32.ofNat l9 - 7 < v4
    · rw [if_pos hend]
      exact ⟨I, L, rfl⟩
    rw [if_neg hend]
    have hlt : 7 * j + 7 ≤ l9 := by
      rw [ev, last7 hl (by omega)] at hend
      omega
    have ih : ∀ (j' : Nat) (I : PI) (L : PL), v4 + 7 = nI (7 * j') → j' = j + 1 → l9 ≤ 3584 → Inv I L → Good (F_L_law_23 N l9 xs n (v4 + 7) I L) := fun j' I L h1 h2 h3 h4 => ih0 j' I L (v4 + 7) h1 ⟨by omega, by omega⟩ h3 h4
    have e0 : inb v4 l9 = true := by rw [ev]; exact inb_nI (by omega) (by omega)
    have e1 : inb (v4 + 1) l9 = true := by rw [ev, stepk j 1 1 rfl]; exact inb_nI (by omega) (by omega)
    have e2 : inb (v4 + 2) l9 = true := by rw [ev, stepk j 2 2 rfl]; exact inb_nI (by omega) (by omega)
    have e3 : inb (v4 + 3) l9 = true := by rw [ev, stepk j 3 3 rfl]; exact inb_nI (by omega) (by omega)
    have e4 : inb (v4 + 4) l9 = true := by rw [ev, stepk j 4 4 rfl]; exact inb_nI (by omega) (by omega)
    have e5 : inb (v4 + 5) l9 = true := by rw [ev, stepk j 5 5 rfl]; exact inb_nI (by omega) (by omega)
    have e6 : inb (v4 + 6) l9 = true := by rw [ev, stepk j 6 6 rfl]; exact inb_nI (by omega) (by omega)
    rw [e0, gd_t]
    refine swT_good (List.forall_mem_cons.mpr ⟨?_, List.forall_mem_cons.mpr ⟨?_, List.forall_mem_cons.mpr ⟨?_, List.forall_mem_cons.mpr ⟨?_, List.forall_mem_cons.mpr ⟨?_, List.forall_mem_cons.mpr ⟨?_, List.forall_mem_cons.mpr ⟨?_, List.forall_mem_cons.mpr ⟨?_, List.forall_mem_cons.mpr ⟨?_, List.forall_mem_cons.mpr ⟨?_, List.forall_mem_cons.mpr ⟨?_, List.forall_mem_cons.mpr ⟨?_, List.forall_mem_cons.mpr ⟨?_, List.forall_mem_cons.mpr ⟨?_, List.forall_mem_cons.mpr ⟨?_, List.forall_mem_cons.mpr ⟨?_, List.forall_mem_cons.mpr ⟨?_, List.forall_mem_cons.mpr ⟨?_, List.forall_mem_cons.mpr ⟨?_, List.forall_mem_cons.mpr ⟨?_, List.forall_mem_cons.mpr ⟨?_, List.forall_mem_cons.mpr ⟨?_, List.forall_mem_cons.mpr ⟨?_, List.forall_mem_cons.mpr ⟨?_, List.forall_mem_cons.mpr ⟨?_, List.forall_mem_cons.mpr ⟨?_, List.forall_mem_cons.mpr ⟨?_, List.forall_mem_cons.mpr ⟨?_, List.forall_mem_cons.mpr ⟨?_, List.forall_mem_cons.mpr ⟨?_, List.forall_mem_cons.mpr ⟨?_, List.forall_mem_cons.mpr ⟨?_, List.forall_mem_cons.mpr ⟨?_, List.forall_mem_cons.mpr ⟨?_, List.forall_mem_cons.mpr ⟨?_, List.forall_mem_cons.mpr ⟨?_, List.forall_mem_cons.mpr ⟨?_, List.forall_mem_cons.mpr ⟨?_, List.forall_mem_cons.mpr ⟨?_, fun _ h => absurd h List.not_mem_nil⟩⟩⟩⟩⟩⟩⟩⟩⟩⟩⟩⟩⟩⟩⟩⟩⟩⟩⟩⟩⟩⟩⟩⟩⟩⟩⟩⟩⟩⟩⟩⟩⟩⟩⟩⟩⟩⟩⟩) ?_
    · -- feed
      obtain ⟨x, J1, M1, J2, M2, q1, q2, q3⟩ := h_feed (xs (v4 + 1).toNatClampNeg) (xs (v4 + 2).toNatClampNeg) (xs (v4 + 3).toNatClampNeg) (xs (v4 + 4).toNatClampNeg) (xs (v4 + 5).toNatClampNeg) I L hI
      simp only [e1, e2, e3, e4, e5, gd_t, q1, bI_s, q2, if_true]
      exact ih (j + 1) J2 M2 (by rw [ev]; exact step7 j) (by omega) hl q3
    · -- end
      obtain ⟨x, J1, M1, J2, M2, q1, q2, q3⟩ := h_end (xs (v4 + 1).toNatClampNeg) I L hI
      simp only [e1, gd_t, q1, bI_s, q2, if_true]
      exact ih (j + 1) J2 M2 (by rw [ev]; exact step7 j) (by omega) hl q3
    · -- fault
      obtain ⟨x, J1, M1, J2, M2, q1, q2, q3⟩ := h_fault (xs (v4 + 1).toNatClampNeg) I L hI
      simp only [e1, gd_t, q1, bI_s, q2, if_true]
      exact ih (j + 1) J2 M2 (by rw [ev]; exact step7 j) (by omega) hl q3
    · -- text
      obtain ⟨x, J1, M1, J2, M2, q1, q2, q3⟩ := h_text (xs (v4 + 1).toNatClampNeg) I L hI
      simp only [e1, gd_t, q1, bI_s, q2, if_true]
      exact ih (j + 1) J2 M2 (by rw [ev]; exact step7 j) (by omega) hl q3
    · -- sign
      obtain ⟨v, y, J1, J2, M2, q1, q2, q3⟩ := h_sign (xs (v4 + 1).toNatClampNeg) (xs (v4 + 2).toNatClampNeg) I L hI
      rcases q2 with ⟨rfl, q2⟩ | ⟨rfl, q2⟩
      · obtain ⟨q4, q5⟩ := q3 L (fun _ _ => rfl)
        have q6 : f_sign N (xs (v4 + 1).toNatClampNeg) (xs (v4 + 2).toNatClampNeg) I L = some (some (.int 1), J1, L) := by unfold f_sign; rw [q1]
        have q7 : f_X12_thrown N J2 L = some (some (.int 1), J2, L) := by unfold f_X12_thrown; rw [q2]
        simp only [e1, e2, gd_t, q6, bI_s, q4, q7, if_true]
        rw [if_neg (by decide)]
        unfold F_L_law_425
        exact ih (j + 1) J2 L (by rw [ev]; exact step7 j) (by omega) hl q5
      · obtain ⟨q4, q5⟩ := q3 (uL L 63 0 y.toInt64) (fun c hc => uL_o hc)
        have q6 : f_sign N (xs (v4 + 1).toNatClampNeg) (xs (v4 + 2).toNatClampNeg) I L = some (some (.int 0), J1, uL L 63 0 y.toInt64) := by unfold f_sign; rw [q1]
        have q7 : f_X12_thrown N J2 (uL L 63 0 y.toInt64) = some (some (.int 0), J2, uL L 63 0 y.toInt64) := by unfold f_X12_thrown; rw [q2]
        have q8 : inb 0 1 = true := by decide +kernel
        have q9 : lg_cmp (uL L 63 0 y.toInt64 63 (Int32.toNatClampNeg 0)) (Int32.toInt64 y) = 0 := by
          rw [uL_c, show Int32.toNatClampNeg 0 = 0 from rfl, vp_updL, if_pos rfl]
          exact cmp_refl _
        simp only [e1, e2, gd_t, q6, bI_s, q4, q7, if_true, q8, q9]
        unfold F_L_law_425
        exact ih (j + 1) J2 _ (by rw [ev]; exact step7 j) (by omega) hl q5
    · -- rest
      obtain ⟨x, J1, M1, J2, M2, q1, q2, q3⟩ := h_rest (xs (v4 + 1).toNatClampNeg) (xs (v4 + 2).toNatClampNeg) I L hI
      simp only [e1, e2, gd_t, q1, bI_s, q2, if_true]
      exact ih (j + 1) J2 M2 (by rw [ev]; exact step7 j) (by omega) hl q3
    · -- weight
      obtain ⟨x, J1, M1, J2, M2, q1, q2, q3⟩ := h_weight (xs (v4 + 1).toNatClampNeg) (xs (v4 + 2).toNatClampNeg) (xs (v4 + 3).toNatClampNeg) I L hI
      simp only [e1, e2, e3, gd_t, q1, bI_s, q2, if_true]
      exact ih (j + 1) J2 M2 (by rw [ev]; exact step7 j) (by omega) hl q3
    · -- comes
      obtain ⟨x, J1, M1, J2, M2, q1, q2, q3⟩ := h_comes (xs (v4 + 1).toNatClampNeg) (xs (v4 + 2).toNatClampNeg) (xs (v4 + 3).toNatClampNeg) (xs (v4 + 4).toNatClampNeg) (xs (v4 + 5).toNatClampNeg) (xs (v4 + 6).toNatClampNeg) I L hI
      simp only [e1, e2, e3, e4, e5, e6, gd_t, q1, bI_s, q2, if_true]
      exact ih (j + 1) J2 M2 (by rw [ev]; exact step7 j) (by omega) hl q3
    · -- lobes
      obtain ⟨x, J1, M1, J2, M2, q1, q2, q3⟩ := h_lobes (xs (v4 + 1).toNatClampNeg) (xs (v4 + 2).toNatClampNeg) (xs (v4 + 3).toNatClampNeg) I L hI
      simp only [e1, e2, e3, gd_t, q1, bI_s, q2, if_true]
      exact ih (j + 1) J2 M2 (by rw [ev]; exact step7 j) (by omega) hl q3
    · -- hinder
      obtain ⟨x, J1, M1, J2, M2, q1, q2, q3⟩ := h_hinder (xs (v4 + 1).toNatClampNeg) (xs (v4 + 2).toNatClampNeg) I L hI
      simp only [e1, e2, gd_t, q1, bI_s, q2, if_true]
      exact ih (j + 1) J2 M2 (by rw [ev]; exact step7 j) (by omega) hl q3
    · -- friends
      obtain ⟨x, J1, M1, J2, M2, q1, q2, q3⟩ := h_friends (xs (v4 + 1).toNatClampNeg) I L hI
      simp only [e1, gd_t, q1, bI_s, q2, if_true]
      exact ih (j + 1) J2 M2 (by rw [ev]; exact step7 j) (by omega) hl q3
    · -- best
      obtain ⟨x, J1, M1, J2, M2, q1, q2, q3⟩ := h_best (xs (v4 + 1).toNatClampNeg) (xs (v4 + 2).toNatClampNeg) I L hI
      simp only [e1, e2, gd_t, q1, bI_s, q2, if_true]
      exact ih (j + 1) J2 M2 (by rw [ev]; exact step7 j) (by omega) hl q3
    · -- filter
      obtain ⟨x, J1, M1, J2, M2, q1, q2, q3⟩ := h_filter (xs (v4 + 1).toNatClampNeg) (xs (v4 + 2).toNatClampNeg) I L hI
      simp only [e1, e2, gd_t, q1, bI_s, q2, if_true]
      exact ih (j + 1) J2 M2 (by rw [ev]; exact step7 j) (by omega) hl q3
    · -- set
      obtain ⟨x, J1, M1, J2, M2, q1, q2, q3⟩ := h_set (xs (v4 + 1).toNatClampNeg) (xs (v4 + 2).toNatClampNeg) I L hI
      simp only [e1, e2, gd_t, q1, bI_s, q2, if_true]
      exact ih (j + 1) J2 M2 (by rw [ev]; exact step7 j) (by omega) hl q3
    · -- seen
      obtain ⟨x, J1, M1, J2, M2, q1, q2, q3⟩ := h_seen (xs (v4 + 1).toNatClampNeg) (xs (v4 + 2).toNatClampNeg) I L hI
      simp only [e1, e2, gd_t, q1, bI_s, q2, if_true]
      exact ih (j + 1) J2 M2 (by rw [ev]; exact step7 j) (by omega) hl q3
    · -- map
      obtain ⟨x, J1, M1, J2, M2, q1, q2, q3⟩ := h_map (xs (v4 + 1).toNatClampNeg) (xs (v4 + 2).toNatClampNeg) (xs (v4 + 3).toNatClampNeg) I L hI
      simp only [e1, e2, e3, gd_t, q1, bI_s, q2, if_true]
      exact ih (j + 1) J2 M2 (by rw [ev]; exact step7 j) (by omega) hl q3
    · -- choice
      obtain ⟨x, J1, M1, J2, M2, q1, q2, q3⟩ := h_choice (xs (v4 + 1).toNatClampNeg) (xs (v4 + 2).toNatClampNeg) (xs (v4 + 3).toNatClampNeg) (xs (v4 + 4).toNatClampNeg) I L hI
      simp only [e1, e2, e3, e4, gd_t, q1, bI_s, q2, if_true]
      exact ih (j + 1) J2 M2 (by rw [ev]; exact step7 j) (by omega) hl q3
    · -- read
      obtain ⟨x, J1, M1, J2, M2, q1, q2, q3⟩ := h_read (xs (v4 + 1).toNatClampNeg) (xs (v4 + 2).toNatClampNeg) I L hI
      simp only [e1, e2, gd_t, q1, bI_s, q2, if_true]
      exact ih (j + 1) J2 M2 (by rw [ev]; exact step7 j) (by omega) hl q3
    · -- unfold
      obtain ⟨x, J1, M1, J2, M2, q1, q2, q3⟩ := h_unfold (xs (v4 + 1).toNatClampNeg) (xs (v4 + 2).toNatClampNeg) (xs (v4 + 3).toNatClampNeg) (xs (v4 + 4).toNatClampNeg) (xs (v4 + 5).toNatClampNeg) I L hI
      simp only [e1, e2, e3, e4, e5, gd_t, q1, bI_s, q2, if_true]
      exact ih (j + 1) J2 M2 (by rw [ev]; exact step7 j) (by omega) hl q3
    · -- ghosts
      obtain ⟨x, J1, M1, J2, M2, q1, q2, q3⟩ := h_ghosts (xs (v4 + 1).toNatClampNeg) (xs (v4 + 2).toNatClampNeg) (xs (v4 + 3).toNatClampNeg) (xs (v4 + 4).toNatClampNeg) I L hI
      simp only [e1, e2, e3, e4, gd_t, q1, bI_s, q2, if_true]
      exact ih (j + 1) J2 M2 (by rw [ev]; exact step7 j) (by omega) hl q3
    · -- cell
      obtain ⟨x, J1, M1, J2, M2, q1, q2, q3⟩ := h_cell (xs (v4 + 1).toNatClampNeg) I L hI
      simp only [e1, gd_t, q1, bI_s, q2, if_true]
      exact ih (j + 1) J2 M2 (by rw [ev]; exact step7 j) (by omega) hl q3
    · -- change
      obtain ⟨x, J1, M1, J2, M2, q1, q2, q3⟩ := h_change (xs (v4 + 1).toNatClampNeg) (xs (v4 + 2).toNatClampNeg) I L hI
      simp only [e1, e2, gd_t, q1, bI_s, q2, if_true]
      exact ih (j + 1) J2 M2 (by rw [ev]; exact step7 j) (by omega) hl q3
    · -- draw
      obtain ⟨x, J1, M1, J2, M2, q1, q2, q3⟩ := h_draw (xs (v4 + 1).toNatClampNeg) (xs (v4 + 2).toNatClampNeg) (jlshl (Int32.toInt64 (xs (v4 + 3).toNatClampNeg)) 32 ||| (Int32.toInt64 (xs (v4 + 4).toNatClampNeg) &&& 4294967295)) I L hI
      simp only [e1, e2, e3, e4, gd_t, q1, bI_s, q2, if_true]
      exact ih (j + 1) J2 M2 (by rw [ev]; exact step7 j) (by omega) hl q3
    · -- at
      obtain ⟨x, J1, M1, J2, M2, q1, q2, q3⟩ := h_at (xs (v4 + 1).toNatClampNeg) I L hI
      simp only [e1, gd_t, q1, bI_s, q2, if_true]
      exact ih (j + 1) J2 M2 (by rw [ev]; exact step7 j) (by omega) hl q3
    · -- undo
      have hu : ∀ z : Int32, z = 0 ∨ z = 1 → (z = 0 ↔ xs (v4 + 1).toNatClampNeg = 0) → Good (F_L_law_1324 N l9 xs (F_L_law_23 N l9 xs n) v4 z I L) := by
        intro z hz hzx
        obtain ⟨x, J1, M1, J2, M2, q1, q2, q3⟩ := h_undo z hz I L hI
        unfold F_L_law_1324
        simp only [e1, gd_t, q1, bI_s]
        by_cases h0 : xs (v4 + 1).toNatClampNeg = 0
        · rw [if_pos h0]
          obtain rfl := hzx.mpr h0
          unfold F_L_law_1342
          simp only [q2, bI_s, if_true]
          exact ih (j + 1) J2 M2 (by rw [ev]; exact step7 j) (by omega) hl q3
        · rw [if_neg h0]
          obtain rfl : z = 1 := by
            rcases hz with h | h
            · exact absurd (hzx.mp h) h0
            · exact h
          unfold F_L_law_1342
          simp only [q2, bI_s, if_true]
          exact ih (j + 1) J2 M2 (by rw [ev]; exact step7 j) (by omega) hl q3
      simp only [e1, gd_t]
      by_cases h0 : xs (v4 + 1).toNatClampNeg = 0
      · rw [if_pos h0]; exact hu 0 (Or.inl rfl) ⟨fun _ => h0, fun _ => rfl⟩
      · rw [if_neg h0]; exact hu 1 (Or.inr rfl) ⟨fun h => absurd h (by decide), fun h => absurd h h0⟩
    · -- found
      obtain ⟨x, J1, M1, J2, M2, q1, q2, q3⟩ := h_found (xs (v4 + 1).toNatClampNeg) I L hI
      simp only [e1, gd_t, q1, bI_s, q2, if_true]
      exact ih (j + 1) J2 M2 (by rw [ev]; exact step7 j) (by omega) hl q3
    · -- alarms
      obtain ⟨x, J1, M1, J2, M2, q1, q2, q3⟩ := h_alarms I L hI
      simp only [gd_t, q1, bI_s, q2, if_true]
      exact ih (j + 1) J2 M2 (by rw [ev]; exact step7 j) (by omega) hl q3
    · -- share
      obtain ⟨x, J1, M1, J2, M2, q1, q2, q3⟩ := h_share (xs (v4 + 1).toNatClampNeg) (xs (v4 + 2).toNatClampNeg) (xs (v4 + 3).toNatClampNeg) (xs (v4 + 4).toNatClampNeg) (xs (v4 + 5).toNatClampNeg) I L hI
      simp only [e1, e2, e3, e4, e5, gd_t, q1, bJ_s, q2, if_true, cmp_refl]
      exact ih (j + 1) J2 M2 (by rw [ev]; exact step7 j) (by omega) hl q3
    · -- beam
      obtain ⟨x, J1, M1, J2, M2, q1, q2, q3⟩ := h_beam (xs (v4 + 1).toNatClampNeg) (xs (v4 + 2).toNatClampNeg) (xs (v4 + 3).toNatClampNeg) I L hI
      simp only [e1, e2, e3, gd_t, q1, bI_s, q2, if_true]
      exact ih (j + 1) J2 M2 (by rw [ev]; exact step7 j) (by omega) hl q3
    · -- plan
      obtain ⟨x, J1, M1, J2, M2, q1, q2, q3⟩ := h_plan (xs (v4 + 1).toNatClampNeg) I L hI
      simp only [e1, gd_t, q1, bI_s, q2, if_true]
      exact ih (j + 1) J2 M2 (by rw [ev]; exact step7 j) (by omega) hl q3
    · -- like
      obtain ⟨x, J1, M1, J2, M2, q1, q2, q3⟩ := h_like (xs (v4 + 1).toNatClampNeg) (xs (v4 + 2).toNatClampNeg) I L hI
      simp only [e1, e2, gd_t, q1, bI_s, q2, if_true]
      exact ih (j + 1) J2 M2 (by rw [ev]; exact step7 j) (by omega) hl q3
    · -- partners
      obtain ⟨x, J1, M1, J2, M2, q1, q2, q3⟩ := h_partners (xs (v4 + 1).toNatClampNeg) (xs (v4 + 2).toNatClampNeg) I L hI
      simp only [e1, e2, gd_t, q1, bI_s, q2, if_true]
      exact ih (j + 1) J2 M2 (by rw [ev]; exact step7 j) (by omega) hl q3
    · -- cancel
      obtain ⟨x, J1, M1, J2, M2, q1, q2, q3⟩ := h_cancel (xs (v4 + 1).toNatClampNeg) (xs (v4 + 2).toNatClampNeg) I L hI
      simp only [e1, e2, gd_t, q1, bI_s, q2, if_true]
      exact ih (j + 1) J2 M2 (by rw [ev]; exact step7 j) (by omega) hl q3
    · -- stagger
      obtain ⟨x, J1, M1, J2, M2, q1, q2, q3⟩ := h_stagger (xs (v4 + 1).toNatClampNeg) (xs (v4 + 2).toNatClampNeg) (xs (v4 + 3).toNatClampNeg) (xs (v4 + 4).toNatClampNeg) (xs (v4 + 5).toNatClampNeg) I L hI
      simp only [e1, e2, e3, e4, e5, gd_t, q1, bI_s, q2, if_true]
      exact ih (j + 1) J2 M2 (by rw [ev]; exact step7 j) (by omega) hl q3
    · -- factor
      obtain ⟨x, J1, M1, J2, M2, q1, q2, q3⟩ := h_factor (xs (v4 + 1).toNatClampNeg) (xs (v4 + 2).toNatClampNeg) (xs (v4 + 3).toNatClampNeg) (xs (v4 + 4).toNatClampNeg) I L hI
      simp only [e1, e2, e3, e4, gd_t, q1, bI_s, q2, if_true]
      exact ih (j + 1) J2 M2 (by rw [ev]; exact step7 j) (by omega) hl q3
    · -- heaps
      obtain ⟨x, J1, M1, J2, M2, q1, q2, q3⟩ := h_heaps (xs (v4 + 1).toNatClampNeg) I L hI
      simp only [e1, gd_t, q1, bI_s, q2, if_true]
      exact ih (j + 1) J2 M2 (by rw [ev]; exact step7 j) (by omega) hl q3
    · -- image
      obtain ⟨x, J1, M1, J2, M2, q1, q2, q3⟩ := h_image I L hI
      simp only [gd_t, q1, bI_s, q2, if_true]
      exact ih (j + 1) J2 M2 (by rw [ev]; exact step7 j) (by omega) hl q3
    · -- back
      obtain ⟨x, J1, M1, J2, M2, q1, q2, q3⟩ := h_back I L hI
      simp only [gd_t, q1, bI_s, q2, if_true]
      exact ih (j + 1) J2 M2 (by rw [ev]; exact step7 j) (by omega) hl q3
    · -- count
      obtain ⟨x, J1, M1, J2, M2, q1, q2, q3⟩ := h_count (xs (v4 + 1).toNatClampNeg) I L hI
      simp only [e1, gd_t, q1, bI_s, q2, if_true]
      exact ih (j + 1) J2 M2 (by rw [ev]; exact step7 j) (by omega) hl q3
    · exact ih (j + 1) I L (by rw [ev]; exact step7 j) (by omega) hl hI
