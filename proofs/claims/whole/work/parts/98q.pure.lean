/-! both behind their constructors; the law's loop answers 1 -/
theorem i12_0 : I12 10 1 = 0 ∧ I12 12 2 = 0 ∧ I12 3 2 = 0 ∧ I12 12 21 = 0 ∧ I12 8 6 = 0 ∧ I12 12 22 = 0 ∧ I12 0 4 = 0 ∧ I12 12 50 = 0 ∧ I12 2 4 = 0 ∧ I12 2 5 = 0 ∧ I12 2 6 = 0 ∧ I12 12 43 = 0 ∧ I12 12 44 = 0 ∧ I12 2 3 = -1 ∧ I12 12 45 = 0 ∧ I12 7 4 = 0 ∧ I12 12 13 = 0 ∧ I12 31 0 = 0 ∧ I12 55 0 = 0 := by decide +kernel
theorem i12_13 : ∀ j, j < 6 → I12 13 j = I12 12 (32 + j) ∧ I12 13 j = nI ([1, 1, 1, 3, 3, 20].getD j 0) := by decide +kernel
theorem i12_13b : ∀ j, j < 6 → loS j ≤ [1, 1, 1, 3, 3, 20].getD j 0 ∧ [1, 1, 1, 3, 3, 20].getD j 0 ≤ hiS j := by decide +kernel
theorem i12_27 : ∀ k, k < 8 → I12 27 k = -1 ∧ I12 54 k = -1 := by decide +kernel
theorem i12_23 : ∀ k, k < 52 → I12 23 k = -1 := by decide +kernel
theorem i12_24 : ∀ k, k < 32 → I12 24 k = -1 := by decide +kernel
theorem inv0 (L : PL) : Inv XX I12 L := by
  obtain ⟨a1, a2, a3, a4, a5, a6, a7, a8, a9, a10, a11, a12, a13, a14, a15, a16, a17, a18, a19⟩ := i12_0
  have hm0 : ∀ (m : Nat) (n : Nat → Nat) (S : Nat → Nat → Nat), CSet I12 m n S → m = 0 := fun m n S r => by
    obtain ⟨h1, h2, -⟩ := r
    exact (nI_eq (a := m) (b := 0) (by omega) (by omega)).mp (h2.symm.trans a3)
  refine ⟨RT.nil a1 a2, fun j hj => ⟨(i12_13 j hj).1, _, (i12_13b j hj).1, (i12_13b j hj).2, (i12_13 j hj).2⟩, ⟨0, by omega, a3, a4, fun c hc => absurd hc (Nat.not_lt_zero c)⟩, ⟨0, by omega, a5, a6, fun c hc => absurd hc (Nat.not_lt_zero c)⟩, fun k hk => ⟨(i12_27 k hk).1.trans (i12_27 k hk).2.symm, Or.inl (i12_27 k hk).1⟩, ⟨0, by omega, a7, a8, fun k hk => absurd hk (Nat.not_lt_zero k), [], rfl, List.nodup_nil, fun x hx => absurd hx List.not_mem_nil, fun i hi => absurd hi (Nat.not_lt_zero i), fun i j _ hj => absurd hj (Nat.not_lt_zero j)⟩, ⟨0, 0, 0, by omega, by omega, a9, a10, a12, a11, a13, ⟨0, by omega, a18, a19, fun k hk => absurd hk (Nat.not_lt_zero k)⟩, fun j hj => absurd hj (Nat.not_lt_zero j), fun j hj => absurd hj (Nat.not_lt_zero j), Or.inl ⟨a14, a15⟩⟩, ⟨0, by omega, a16, a17, fun i hi => absurd hi (Nat.not_lt_zero i)⟩, fun m n S r a b ha hb => ?_, fun l h1 h2 => Or.inl (i12_23 _ (by omega)), fun m n S r c hc => Or.inl (i12_24 _ (by omega))⟩
  have := hm0 m n S r
  omega
theorem pure_law {N : Nat} (hN : 20000 ≤ N) (l9 : Nat) (xs : Nat → Int32) (hl : l9 ≤ 3584) : ∃ (I' : PI) (L' : PL), F_L_law_23 N l9 xs 600 0 I12 L00 = some (some (.int 1), I', L') := by
  have g : Good (F_L_law_23 N l9 xs 600 0 I12 L00) := law_pure_open (Inv := Inv XX) (N := N) (case_feed XX.ok hN) (case_end XX.ok N) (case_fault hN XX.l XX.sc) (case_text hN) (case_sign XX.ok N) (case_rest N) (case_weight XX.ok XX.l (XX.w hN)) (case_comes XX.ok hN XX.l (XX.w hN)) (case_lobes XX.ok hN XX.l (XX.w hN)) (case_hinder XX.ok hN XX.h) (case_friends XX.ok hN XX.h) (case_best hN XX.b) (case_filter XX.ok hN XX.f) (case_set XX.ok N) (case_seen hN) (case_map hN) (case_choice XX.ok hN) (case_read XX.ok N) (case_unfold hN) (case_ghosts hN) (case_cell XX.ok hN) (case_change XX.ok hN) (case_draw XX.ok hN) (case_at N) (case_undo XX.ok hN) (case_found XX.ok hN) (case_alarms XX.ok hN) (case_share XX.ok hN) (case_beam XX.ok hN) (case_plan hN) (case_like hN) (case_partners XX.ok hN) (case_cancel hN) (case_stagger XX.ok hN) (case_factor XX.ok hN) (case_heaps XX.ok hN) (case_image XX.ok hN) (case_back XX.ok hN) (case_count XX.l N) l9 xs 600 0 I12 L00 0 rfl (by omega) hl (inv0 L00)
  exact g
