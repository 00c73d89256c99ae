/-! what ties the class's cells to the model's. X: what is said of LAWS, HINDRANCES and the best ones found (later) -/
def dT (a k : Nat) : Prop := (a = 10 ∧ k = 1) ∨ (a = 12 ∧ k = 2) ∨ a = 14 ∨ a = 39
def RT (I : PI) : Prop := ∃ n : Nat, n ≤ 120 ∧ I 10 1 = nI n ∧ I 12 2 = nI n ∧ ∀ k, k < n → I 14 k = I 39 k ∧ ∃ b : Nat, 1 ≤ b ∧ b ≤ 255 ∧ I 14 k = nI b
def dS (a k : Nat) : Prop := a = 13 ∨ (a = 12 ∧ 32 ≤ k ∧ k ≤ 37)
def loS (j : Nat) : Nat := [0, 1, 0, 1, 1, 0].getD j 0
def hiS (j : Nat) : Nat := [9, 8, 3, 8, 16, 99].getD j 0
def RS (I : PI) : Prop := ∀ j : Nat, j < 6 → I 13 j = I 12 (32 + j) ∧ ∃ v : Nat, loS j ≤ v ∧ v ≤ hiS j ∧ I 13 j = nI v
def dC (a k : Nat) : Prop := (a = 3 ∧ k = 2) ∨ (a = 12 ∧ k = 21) ∨ a = 15 ∨ a = 16 ∨ a = 49 ∨ a = 50
def RC (I : PI) : Prop := ∃ m : Nat, m ≤ 8 ∧ I 3 2 = nI m ∧ I 12 21 = nI m ∧ ∀ c, c < m → ∃ n : Nat, 1 ≤ n ∧ n ≤ 24 ∧ I 16 c = nI n ∧ I 50 c = nI n ∧ ∀ k, k < n → ∃ t : Nat, t < 4 ∧ I 15 (24 * c + k) = nI t ∧ I 49 (24 * c + k) = nI t
def dR (a k : Nat) : Prop := (a = 8 ∧ k = 6) ∨ (a = 12 ∧ k = 22) ∨ a = 25 ∨ a = 26 ∨ a = 51 ∨ a = 52
def RR (I : PI) : Prop := ∃ m : Nat, m ≤ 6 ∧ I 8 6 = nI m ∧ I 12 22 = nI m ∧ ∀ c, c < m → ∃ n : Nat, 1 ≤ n ∧ n ≤ 8 ∧ I 26 c = nI n ∧ I 52 c = nI n ∧ ∀ k, k < n → ∃ p : Nat, 2 ≤ p ∧ p ≤ 99 ∧ I 25 (8 * c + k) = nI p ∧ I 51 (8 * c + k) = nI p
def dD (a _k : Nat) : Prop := a = 27 ∨ a = 54
def RD (I : PI) : Prop := ∀ k, k < 8 → I 27 k = I 54 k ∧ (I 27 k = -1 ∨ ∃ v : Nat, v ≤ 98 ∧ I 27 k = nI v)
def dE (a k : Nat) : Prop := (a = 0 ∧ k = 4) ∨ (a = 12 ∧ k = 50) ∨ (35 ≤ a ∧ a ≤ 38) ∨ (60 ≤ a ∧ a ≤ 62)
/-- the BEAMS; byDue (38): all of them, by rising DUE -/
def RE (I : PI) : Prop := ∃ m : Nat, m ≤ 8 ∧ I 0 4 = nI m ∧ I 12 50 = nI m ∧ (∀ k, k < m → (∃ t : Nat, 1 ≤ t ∧ t ≤ 20 ∧ I 35 k = nI t ∧ I 60 k = nI t) ∧ (∃ u : Nat, 1 ≤ u ∧ u ≤ 99 ∧ I 36 k = nI u ∧ I 61 k = nI u) ∧ ∃ w : Nat, w ≤ 99 ∧ I 37 k = nI w ∧ I 62 k = nI w) ∧
  ∃ q : List Nat, q.length = m ∧ q.Nodup ∧ (∀ x ∈ q, x < m) ∧ (∀ i, i < m → I 38 i = nI (q.getD i 0)) ∧ ∀ i j, i < j → j < m → I 36 (q.getD i 0) ≤ I 36 (q.getD j 0)
def dZ (a k : Nat) : Prop := (a = 2 ∧ 3 ≤ k ∧ k ≤ 6) ∨ (30 ≤ a ∧ a ≤ 32) ∨ (55 ≤ a ∧ a ≤ 58) ∨ (a = 12 ∧ 43 ≤ k ∧ k ≤ 45)
/-- state r of the class's ring is what stands in the model's row A at off -/
def StEq (I : PI) (r A off : Nat) : Prop := ∃ n : Nat, n ≤ 40 ∧ I 31 r = nI n ∧ I A off = nI n ∧ ∀ k, k < n → I 30 (40 * r + k) = I A (off + 1 + k) ∧ ∃ v : Nat, v ≤ 999 ∧ I 30 (40 * r + k) = nI v
def RZ (I : PI) : Prop := ∃ p u g : Nat, p < 31 ∧ u + g ≤ 30 ∧ I 2 4 = nI p ∧ I 2 5 = nI u ∧ I 12 43 = nI u ∧ I 2 6 = nI g ∧ I 12 44 = nI g ∧ StEq I p 55 0 ∧ (∀ j, j < u → StEq I ((p + 30 - j) % 31) 56 (41 * (u - 1 - j))) ∧ (∀ j, j < g → StEq I ((p + 1 + j) % 31) 57 (41 * (g - 1 - j))) ∧
  ((I 2 3 = -1 ∧ I 12 45 = 0) ∨ (I 12 45 = 1 ∧ ∃ n : Nat, n ≤ 40 ∧ I 2 3 = nI n ∧ I 58 0 = nI n ∧ ∀ k, k < n → I 32 k = I 58 (1 + k) ∧ ∃ v : Nat, v ≤ 999 ∧ I 32 k = nI v))
/-- what X may rest on -/
def dX (a k : Nat) : Prop := dC a k ∨ (a = 7 ∧ k = 4) ∨ (a = 12 ∧ k = 13) ∨ a = 18 ∨ a = 19 ∨ (40 ≤ a ∧ a ≤ 46) ∨ (22 ≤ a ∧ a ≤ 24)
def Xok (X : PI → Prop) : Prop := ∀ I I' : PI, (∀ a k, dX a k → I' a k = I a k) → X I → X I'
def Inv (X : PI → Prop) (I : PI) (_L : PL) : Prop := RT I ∧ RS I ∧ RC I ∧ RR I ∧ RD I ∧ RE I ∧ RZ I ∧ X I
theorem RT.cong {I I' : PI} (h : ∀ a k, dT a k → I' a k = I a k) (r : RT I) : RT I' := by
  obtain ⟨n, h1, h2, h3, h4⟩ := r
  refine ⟨n, h1, (h 10 1 (Or.inl ⟨rfl, rfl⟩)).trans h2, (h 12 2 (Or.inr (Or.inl ⟨rfl, rfl⟩))).trans h3, fun k hk => ?_⟩
  rw [h 14 k (Or.inr (Or.inr (Or.inl rfl))), h 39 k (Or.inr (Or.inr (Or.inr rfl)))]
  exact h4 k hk
theorem RS.cong {I I' : PI} (h : ∀ a k, dS a k → I' a k = I a k) (r : RS I) : RS I' := by
  intro j hj
  rw [h 13 j (Or.inl rfl), h 12 (32 + j) (Or.inr ⟨rfl, by omega, by omega⟩)]
  exact r j hj
theorem RC.cong {I I' : PI} (h : ∀ a k, dC a k → I' a k = I a k) (r : RC I) : RC I' := by
  obtain ⟨m, h1, h2, h3, h4⟩ := r
  refine ⟨m, h1, (h 3 2 (by unfold dC; omega)).trans h2, (h 12 21 (by unfold dC; omega)).trans h3, fun c hc => ?_⟩
  obtain ⟨n, g1, g2, g3, g4, g5⟩ := h4 c hc
  refine ⟨n, g1, g2, (h 16 c (by unfold dC; omega)).trans g3, (h 50 c (by unfold dC; omega)).trans g4, fun k hk => ?_⟩
  rw [h 15 _ (by unfold dC; omega), h 49 _ (by unfold dC; omega)]
  exact g5 k hk
theorem RR.cong {I I' : PI} (h : ∀ a k, dR a k → I' a k = I a k) (r : RR I) : RR I' := by
  obtain ⟨m, h1, h2, h3, h4⟩ := r
  refine ⟨m, h1, (h 8 6 (by unfold dR; omega)).trans h2, (h 12 22 (by unfold dR; omega)).trans h3, fun c hc => ?_⟩
  obtain ⟨n, g1, g2, g3, g4, g5⟩ := h4 c hc
  refine ⟨n, g1, g2, (h 26 c (by unfold dR; omega)).trans g3, (h 52 c (by unfold dR; omega)).trans g4, fun k hk => ?_⟩
  rw [h 25 _ (by unfold dR; omega), h 51 _ (by unfold dR; omega)]
  exact g5 k hk
theorem RD.cong {I I' : PI} (h : ∀ a k, dD a k → I' a k = I a k) (r : RD I) : RD I' := by
  intro k hk
  rw [h 27 k (Or.inl rfl), h 54 k (Or.inr rfl)]
  exact r k hk
theorem RE.cong {I I' : PI} (h : ∀ a k, dE a k → I' a k = I a k) (r : RE I) : RE I' := by
  obtain ⟨m, h1, h2, h3, h4, q, q1, q2, q3, q4, q5⟩ := r
  refine ⟨m, h1, (h 0 4 (by unfold dE; omega)).trans h2, (h 12 50 (by unfold dE; omega)).trans h3, fun k hk => ?_, q, q1, q2, q3, fun i hi => ?_, fun i j hi hj => ?_⟩
  · rw [h 35 k (by unfold dE; omega), h 36 k (by unfold dE; omega), h 37 k (by unfold dE; omega), h 60 k (by unfold dE; omega), h 61 k (by unfold dE; omega), h 62 k (by unfold dE; omega)]
    exact h4 k hk
  · rw [h 38 i (by unfold dE; omega)]
    exact q4 i hi
  · rw [h 36 _ (by unfold dE; omega), h 36 _ (by unfold dE; omega)]
    exact q5 i j hi hj
theorem StEq.cong {I I' : PI} {r A off : Nat} (hA : 55 ≤ A ∧ A ≤ 58) (h : ∀ a k, dZ a k → I' a k = I a k) (s : StEq I r A off) : StEq I' r A off := by
  obtain ⟨n, h1, h2, h3, h4⟩ := s
  refine ⟨n, h1, (h 31 r (by unfold dZ; omega)).trans h2, (h A off (by unfold dZ; omega)).trans h3, fun k hk => ?_⟩
  rw [h 30 _ (by unfold dZ; omega), h A _ (by unfold dZ; omega)]
  exact h4 k hk
theorem RZ.cong {I I' : PI} (h : ∀ a k, dZ a k → I' a k = I a k) (r : RZ I) : RZ I' := by
  obtain ⟨p, u, g, h1, h2, h3, h4, h5, h6, h7, h8, h9, h10, h11⟩ := r
  refine ⟨p, u, g, h1, h2, (h 2 4 (by unfold dZ; omega)).trans h3, (h 2 5 (by unfold dZ; omega)).trans h4, (h 12 43 (by unfold dZ; omega)).trans h5, (h 2 6 (by unfold dZ; omega)).trans h6, (h 12 44 (by unfold dZ; omega)).trans h7, h8.cong (by omega) h, fun j hj => (h9 j hj).cong (by omega) h, fun j hj => (h10 j hj).cong (by omega) h, ?_⟩
  rw [h 2 3 (by unfold dZ; omega), h 12 45 (by unfold dZ; omega), h 58 0 (by unfold dZ; omega)]
  rcases h11 with h11 | ⟨g1, n, g2, g3, g4, g5⟩
  · exact Or.inl h11
  · refine Or.inr ⟨g1, n, g2, g3, g4, fun k hk => ?_⟩
    rw [h 32 k (by unfold dZ; omega), h 58 (1 + k) (by unfold dZ; omega)]
    exact g5 k hk
section MK
variable {X : PI → Prop} {I I' : PI} {L L' : PL} {F : Nat → Nat → Prop}
/-- what nothing rests on may change -/
theorem Inv.keep (hX : Xok X) (hk : Kp F I I') (hF : ∀ a k, F a k → ¬ (dT a k ∨ dS a k ∨ dR a k ∨ dD a k ∨ dE a k ∨ dZ a k ∨ dX a k)) (h : Inv X I L) : Inv X I' L' := by
  obtain ⟨h1, h2, h3, h4, h5, h6, h7, h8⟩ := h
  exact ⟨h1.cong (fun a k q => hk a k (fun f => hF a k f (Or.inl q))), h2.cong (fun a k q => hk a k (fun f => hF a k f (Or.inr (Or.inl q)))), h3.cong (fun a k q => hk a k (fun f => hF a k f (Or.inr (Or.inr (Or.inr (Or.inr (Or.inr (Or.inr (Or.inl q))))))))), h4.cong (fun a k q => hk a k (fun f => hF a k f (Or.inr (Or.inr (Or.inl q))))), h5.cong (fun a k q => hk a k (fun f => hF a k f (Or.inr (Or.inr (Or.inr (Or.inl q)))))), h6.cong (fun a k q => hk a k (fun f => hF a k f (Or.inr (Or.inr (Or.inr (Or.inr (Or.inl q))))))), h7.cong (fun a k q => hk a k (fun f => hF a k f (Or.inr (Or.inr (Or.inr (Or.inr (Or.inr (Or.inl q)))))))), hX I I' (fun a k q => hk a k (fun f => hF a k f (Or.inr (Or.inr (Or.inr (Or.inr (Or.inr (Or.inr q)))))))) h8⟩
theorem Inv.mkT (hX : Xok X) (hk : Kp dT I I') (r : RT I') (h : Inv X I L) : Inv X I' L' := by
  obtain ⟨h1, h2, h3, h4, h5, h6, h7, h8⟩ := h
  exact ⟨r, h2.cong (fun a k q => hk a k (fun f => by unfold dT at f; unfold dS at q; omega)), h3.cong (fun a k q => hk a k (fun f => by unfold dT at f; unfold dC at q; omega)), h4.cong (fun a k q => hk a k (fun f => by unfold dT at f; unfold dR at q; omega)), h5.cong (fun a k q => hk a k (fun f => by unfold dT at f; unfold dD at q; omega)), h6.cong (fun a k q => hk a k (fun f => by unfold dT at f; unfold dE at q; omega)), h7.cong (fun a k q => hk a k (fun f => by unfold dT at f; unfold dZ at q; omega)), hX I I' (fun a k q => hk a k (fun f => by unfold dT at f; unfold dX dC at q; omega)) h8⟩
theorem Inv.mkS (hX : Xok X) (hk : Kp dS I I') (r : RS I') (h : Inv X I L) : Inv X I' L' := by
  obtain ⟨h1, h2, h3, h4, h5, h6, h7, h8⟩ := h
  exact ⟨h1.cong (fun a k q => hk a k (fun f => by unfold dS at f; unfold dT at q; omega)), r, h3.cong (fun a k q => hk a k (fun f => by unfold dS at f; unfold dC at q; omega)), h4.cong (fun a k q => hk a k (fun f => by unfold dS at f; unfold dR at q; omega)), h5.cong (fun a k q => hk a k (fun f => by unfold dS at f; unfold dD at q; omega)), h6.cong (fun a k q => hk a k (fun f => by unfold dS at f; unfold dE at q; omega)), h7.cong (fun a k q => hk a k (fun f => by unfold dS at f; unfold dZ at q; omega)), hX I I' (fun a k q => hk a k (fun f => by unfold dS at f; unfold dX dC at q; omega)) h8⟩
theorem Inv.mkD (hX : Xok X) (hk : Kp dD I I') (r : RD I') (h : Inv X I L) : Inv X I' L' := by
  obtain ⟨h1, h2, h3, h4, h5, h6, h7, h8⟩ := h
  exact ⟨h1.cong (fun a k q => hk a k (fun f => by unfold dD at f; unfold dT at q; omega)), h2.cong (fun a k q => hk a k (fun f => by unfold dD at f; unfold dS at q; omega)), h3.cong (fun a k q => hk a k (fun f => by unfold dD at f; unfold dC at q; omega)), h4.cong (fun a k q => hk a k (fun f => by unfold dD at f; unfold dR at q; omega)), r, h6.cong (fun a k q => hk a k (fun f => by unfold dD at f; unfold dE at q; omega)), h7.cong (fun a k q => hk a k (fun f => by unfold dD at f; unfold dZ at q; omega)), hX I I' (fun a k q => hk a k (fun f => by unfold dD at f; unfold dX dC at q; omega)) h8⟩
theorem Inv.mkE (hX : Xok X) (hk : Kp dE I I') (r : RE I') (h : Inv X I L) : Inv X I' L' := by
  obtain ⟨h1, h2, h3, h4, h5, h6, h7, h8⟩ := h
  exact ⟨h1.cong (fun a k q => hk a k (fun f => by unfold dE at f; unfold dT at q; omega)), h2.cong (fun a k q => hk a k (fun f => by unfold dE at f; unfold dS at q; omega)), h3.cong (fun a k q => hk a k (fun f => by unfold dE at f; unfold dC at q; omega)), h4.cong (fun a k q => hk a k (fun f => by unfold dE at f; unfold dR at q; omega)), h5.cong (fun a k q => hk a k (fun f => by unfold dE at f; unfold dD at q; omega)), r, h7.cong (fun a k q => hk a k (fun f => by unfold dE at f; unfold dZ at q; omega)), hX I I' (fun a k q => hk a k (fun f => by unfold dE at f; unfold dX dC at q; omega)) h8⟩
theorem Inv.mkZ (hX : Xok X) (hk : Kp dZ I I') (r : RZ I') (h : Inv X I L) : Inv X I' L' := by
  obtain ⟨h1, h2, h3, h4, h5, h6, h7, h8⟩ := h
  exact ⟨h1.cong (fun a k q => hk a k (fun f => by unfold dZ at f; unfold dT at q; omega)), h2.cong (fun a k q => hk a k (fun f => by unfold dZ at f; unfold dS at q; omega)), h3.cong (fun a k q => hk a k (fun f => by unfold dZ at f; unfold dC at q; omega)), h4.cong (fun a k q => hk a k (fun f => by unfold dZ at f; unfold dR at q; omega)), h5.cong (fun a k q => hk a k (fun f => by unfold dZ at f; unfold dD at q; omega)), h6.cong (fun a k q => hk a k (fun f => by unfold dZ at f; unfold dE at q; omega)), r, hX I I' (fun a k q => hk a k (fun f => by unfold dZ at f; unfold dX dC at q; omega)) h8⟩
end MK
