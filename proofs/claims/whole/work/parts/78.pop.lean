/-! the bits of a long, counted by bytes -/
def val : List Nat → Nat
  | [] => 0
  | b :: r => b + 256 * val r
theorem and_split {a b c d : Nat} (ha : a < 256) (hc : c < 256) : (a + 256 * b) &&& (c + 256 * d) = (a &&& c) + 256 * (b &&& d) := by
  have hac : a &&& c < 256 := Nat.lt_of_le_of_lt Nat.and_le_left ha
  apply Nat.eq_of_testBit_eq
  intro i
  rw [Nat.testBit_and, Nat.add_comm a, Nat.add_comm c, Nat.add_comm (a &&& c), show (256 : Nat) = 2 ^ 8 from rfl, Nat.testBit_two_pow_mul_add b ha i, Nat.testBit_two_pow_mul_add d hc i, Nat.testBit_two_pow_mul_add (b &&& d) hac i]
  by_cases h : i < 8
  · rw [if_pos h, if_pos h, if_pos h, Nat.testBit_and]
  · rw [if_neg h, if_neg h, if_neg h, Nat.testBit_and]
def s1b (b : Nat) : Nat := b - ((b / 2) &&& 85)
def s2b (b : Nat) : Nat := (b &&& 51) + ((b / 4) &&& 51)
def s3b (b : Nat) : Nat := (b + b / 16) &&& 15
def rep (c : Nat) (l : List Nat) : Nat := val (l.map (fun _ => c))
theorem s1_fin : ∀ b : Nat, b < 256 → ∀ k : Nat, k < 2 → (b / 2 + 128 * k) &&& 85 = (b / 2) &&& 85 := by decide +kernel
theorem s2_fin : ∀ b : Nat, b < 256 → ∀ k : Nat, k < 4 → (b / 4 + 64 * k) &&& 51 = (b / 4) &&& 51 := by decide +kernel
theorem s3_fin : ∀ b : Nat, b < 80 → ∀ k : Nat, k < 5 → (b + b / 16 + 16 * k) &&& 15 = (b + b / 16) &&& 15 := by decide +kernel
theorem s1b_lt : ∀ b : Nat, b < 256 → s1b b < 256 := by decide +kernel
theorem s2b_ok : ∀ b : Nat, b < 256 → s2b (s1b b) < 80 ∧ s2b (s1b b) % 16 ≤ 4 ∧ s2b (s1b b) / 16 ≤ 4 := by decide +kernel
theorem s3b_cnt : ∀ b : Nat, b < 256 → s3b (s2b (s1b b)) = cnt (fun k => b.testBit k) 8 := by decide +kernel
theorem val1 : ∀ l : List Nat, (∀ b ∈ l, b < 256) → val l - ((val l / 2) &&& rep 85 l) = val (l.map s1b) ∧ (val l / 2) &&& rep 85 l ≤ val l := by
  intro l
  induction l with
  | nil => intro _; exact ⟨rfl, Nat.le_refl _⟩
  | cons b r ih =>
    intro h
    have hb := h b List.mem_cons_self
    obtain ⟨i1, i2⟩ := ih (fun x hx => h x (List.mem_cons_of_mem _ hx))
    have e : (val (b :: r) / 2) &&& rep 85 (b :: r) = ((b / 2) &&& 85) + 256 * ((val r / 2) &&& rep 85 r) := by
      have e1 : val (b :: r) / 2 = (b / 2 + 128 * (val r % 2)) + 256 * (val r / 2) := by
        show (b + 256 * val r) / 2 = _
        omega
      have e2 : rep 85 (b :: r) = 85 + 256 * rep 85 r := rfl
      rw [e1, e2, and_split (by omega) (by decide), s1_fin b hb _ (Nat.mod_lt _ (by decide))]
    have hle : (b / 2) &&& 85 ≤ b := Nat.le_trans Nat.and_le_left (by omega)
    have e3 : val (b :: r) = b + 256 * val r := rfl
    have e4 : val ((b :: r).map s1b) = s1b b + 256 * val (r.map s1b) := rfl
    rw [e, e3, e4, ← i1]
    unfold s1b
    omega
theorem val2 : ∀ l : List Nat, (∀ b ∈ l, b < 256) → (val l &&& rep 51 l) + ((val l / 4) &&& rep 51 l) = val (l.map s2b) := by
  intro l
  induction l with
  | nil => intro _; rfl
  | cons b r ih =>
    intro h
    have hb := h b List.mem_cons_self
    have i1 := ih (fun x hx => h x (List.mem_cons_of_mem _ hx))
    have e1 : val (b :: r) / 4 = (b / 4 + 64 * (val r % 4)) + 256 * (val r / 4) := by
      show (b + 256 * val r) / 4 = _
      omega
    have e2 : rep 51 (b :: r) = 51 + 256 * rep 51 r := rfl
    have e3 : val (b :: r) = b + 256 * val r := rfl
    have e4 : val ((b :: r).map s2b) = s2b b + 256 * val (r.map s2b) := rfl
    rw [e1, e2, and_split (by omega) (by decide), s2_fin b hb _ (Nat.mod_lt _ (by decide)), e3, and_split hb (by decide), e4, ← i1]
    unfold s2b
    omega
theorem val_mod : ∀ l : List Nat, (∀ b ∈ l, b % 16 ≤ 4) → val l % 16 ≤ 4 := by
  intro l
  cases l with
  | nil => intro _; exact Nat.zero_le _
  | cons b r =>
    intro h
    have hb := h b List.mem_cons_self
    show (b + 256 * val r) % 16 ≤ 4
    omega
theorem val3 : ∀ l : List Nat, (∀ b ∈ l, b < 80 ∧ b % 16 ≤ 4 ∧ b / 16 ≤ 4) → (val l + val l / 16) &&& rep 15 l = val (l.map s3b) := by
  intro l
  induction l with
  | nil => intro _; rfl
  | cons b r ih =>
    intro h
    obtain ⟨h1, h2, h3⟩ := h b List.mem_cons_self
    have hr : ∀ x ∈ r, x < 80 ∧ x % 16 ≤ 4 ∧ x / 16 ≤ 4 := fun x hx => h x (List.mem_cons_of_mem _ hx)
    have i1 := ih hr
    have hm := val_mod r (fun x hx => (hr x hx).2.1)
    have e1 : val (b :: r) + val (b :: r) / 16 = (b + b / 16 + 16 * (val r % 16)) + 256 * (val r + val r / 16) := by
      show (b + 256 * val r) + (b + 256 * val r) / 16 = _
      omega
    have e2 : rep 15 (b :: r) = 15 + 256 * rep 15 r := rfl
    have e4 : val ((b :: r).map s3b) = s3b b + 256 * val (r.map s3b) := rfl
    rw [e1, e2, and_split (by omega) (by decide), s3_fin b h1 _ (by omega), e4, ← i1]
    rfl
theorem cnt_split {f : Nat → Bool} {a : Nat} : ∀ b, cnt f (a + b) = cnt f a + cnt (fun k => f (a + k)) b := by
  intro b
  induction b with
  | zero => rfl
  | succ b ih =>
    rw [← Nat.add_assoc, cnt_s, ih, cnt_s]
    omega
def psum : List Nat → Nat
  | [] => 0
  | b :: r => cnt (fun k => b.testBit k) 8 + psum r
theorem cnt_val : ∀ l : List Nat, (∀ b ∈ l, b < 256) → cnt (fun k => (val l).testBit k) (8 * l.length) = psum l := by
  intro l
  induction l with
  | nil => intro _; rfl
  | cons b r ih =>
    intro h
    have hb := h b List.mem_cons_self
    have i1 := ih (fun x hx => h x (List.mem_cons_of_mem _ hx))
    have e : 8 * (b :: r).length = 8 + 8 * r.length := by
      rw [List.length_cons]; omega
    have et : ∀ k, (val (b :: r)).testBit k = if k < 8 then b.testBit k else (val r).testBit (k - 8) := fun k => by
      show (b + 256 * val r).testBit k = _
      rw [Nat.add_comm, show (256 : Nat) = 2 ^ 8 from rfl, Nat.testBit_two_pow_mul_add _ hb]
    have c1 : cnt (fun k => (val (b :: r)).testBit k) 8 = cnt (fun k => b.testBit k) 8 := cnt_congr (fun k hk => by rw [et, if_pos hk])
    have c2 : cnt (fun k => (val (b :: r)).testBit (8 + k)) (8 * r.length) = cnt (fun k => (val r).testBit k) (8 * r.length) := cnt_congr (fun k _ => by rw [et, if_neg (by omega), Nat.add_sub_cancel_left])
    rw [e, cnt_split, c1, c2, i1]
    rfl
def pop64 (x : Nat) : Nat := cnt (fun k => x.testBit k) 64
def by8 (x : Nat) : List Nat := [x % 256, x / 256 % 256, x / 65536 % 256, x / 16777216 % 256, x / 4294967296 % 256, x / 1099511627776 % 256, x / 281474976710656 % 256, x / 72057594037927936 % 256]
theorem by8_val {x : Nat} (hx : x < 2 ^ 64) : val (by8 x) = x := by
  show x % 256 + 256 * (x / 256 % 256 + 256 * (x / 65536 % 256 + 256 * (x / 16777216 % 256 + 256 * (x / 4294967296 % 256 + 256 * (x / 1099511627776 % 256 + 256 * (x / 281474976710656 % 256 + 256 * (x / 72057594037927936 % 256 + 256 * 0))))))) = x
  omega
theorem by8_lt {x : Nat} : ∀ b ∈ by8 x, b < 256 := by
  intro b hb
  unfold by8 at hb
  simp only [List.mem_cons, List.not_mem_nil, or_false] at hb
  rcases hb with rfl | rfl | rfl | rfl | rfl | rfl | rfl | rfl <;> exact Nat.mod_lt _ (by decide)
def fold8 (y : Nat) : Nat := (y + y / 256) + (y + y / 256) / 65536 + ((y + y / 256) + (y + y / 256) / 65536) / 4294967296
theorem fold8_e {s0 s1 s2 s3 s4 q W : Nat} (hW : W = s0 + 256 * (s1 + 256 * (s2 + 256 * (s3 + 256 * (s4 + 256 * q))))) (h0 : s0 ≤ 32) (h1 : s1 ≤ 32) (h2 : s2 ≤ 32) (h3 : s3 ≤ 32) (h4 : s4 ≤ 32) : (W + W / 4294967296) % 128 = s0 + s4 := by
  have e : W / 4294967296 = s4 + 256 * q := by omega
  rw [e]
  omega
theorem fold8_s {p0 p1 p2 p3 p4 p5 p6 p7 : Nat} (h0 : p0 ≤ 8) (h1 : p1 ≤ 8) (h2 : p2 ≤ 8) (h3 : p3 ≤ 8) (h4 : p4 ≤ 8) (h5 : p5 ≤ 8) (h6 : p6 ≤ 8) (h7 : p7 ≤ 8) : fold8 (val [p0, p1, p2, p3, p4, p5, p6, p7]) % 128 = p0 + p1 + p2 + p3 + p4 + p5 + p6 + p7 := by
  have e : val [p0, p1, p2, p3, p4, p5, p6, p7] = p0 + 256 * (p1 + 256 * (p2 + 256 * (p3 + 256 * (p4 + 256 * (p5 + 256 * (p6 + 256 * (p7 + 256 * 0))))))) := rfl
  obtain ⟨y, hy⟩ : ∃ y, y = val [p0, p1, p2, p3, p4, p5, p6, p7] := ⟨_, rfl⟩
  obtain ⟨z, hz⟩ : ∃ z, z = y + y / 256 := ⟨_, rfl⟩
  have z1 : z = (p0 + p1) + 256 * ((p1 + p2) + 256 * ((p2 + p3) + 256 * ((p3 + p4) + 256 * ((p4 + p5) + 256 * ((p5 + p6) + 256 * ((p6 + p7) + 256 * p7)))))) := by
    rw [hz, hy, e]; omega
  obtain ⟨w, hw⟩ : ∃ w, w = z + z / 65536 := ⟨_, rfl⟩
  have w1 : ∃ q, w = (p0 + p1 + p2 + p3) + 256 * ((p1 + p2 + p3 + p4) + 256 * ((p2 + p3 + p4 + p5) + 256 * ((p3 + p4 + p5 + p6) + 256 * ((p4 + p5 + p6 + p7) + 256 * q)))) := ⟨(p5 + p6 + p7) + 256 * ((p6 + p7) + 256 * p7), by
    rw [hw, z1]; omega⟩
  obtain ⟨q, w2⟩ := w1
  have f : fold8 y = w + w / 4294967296 := by
    unfold fold8
    rw [← hz, ← hw]
  rw [← hy, f, fold8_e w2 (by omega) (by omega) (by omega) (by omega) (by omega)]
  omega
theorem jl_shr {x : Nat} (hx : x < 2 ^ 64) {k : Nat} (hk : k < 64) : jlushr (lN x) (nI k) = lN (x / 2 ^ k) := wb_shr hx hk
theorem pop_s {N x : Nat} {I : PI} {L : PL} (hx : x < 2 ^ 64) : f_J13_bitCount_95d88 N (lN x) I L = some (some (.int (nI (pop64 x))), I, L) := by
  have hl := by8_lt (x := x)
  have hv := by8_val hx
  obtain ⟨a1, a1'⟩ := val1 (by8 x) hl
  have h1 : ∀ b ∈ (by8 x).map s1b, b < 256 := fun b hb => by
    obtain ⟨c, hc, rfl⟩ := List.mem_map.mp hb
    exact s1b_lt c (hl c hc)
  have a2 := val2 ((by8 x).map s1b) h1
  have h2 : ∀ b ∈ ((by8 x).map s1b).map s2b, b < 80 ∧ b % 16 ≤ 4 ∧ b / 16 ≤ 4 := fun b hb => by
    obtain ⟨c, hc, rfl⟩ := List.mem_map.mp hb
    obtain ⟨d, hd, rfl⟩ := List.mem_map.mp hc
    exact s2b_ok d (hl d hd)
  have a3 := val3 (((by8 x).map s1b).map s2b) h2
  have m1 : rep 85 (by8 x) = 6148914691236517205 := by
    show val [85, 85, 85, 85, 85, 85, 85, 85] = _
    decide +kernel
  have m2 : rep 51 ((by8 x).map s1b) = 3689348814741910323 := by
    show val [51, 51, 51, 51, 51, 51, 51, 51] = _
    decide +kernel
  have m3 : rep 15 (((by8 x).map s1b).map s2b) = 1085102592571150095 := by
    show val [15, 15, 15, 15, 15, 15, 15, 15] = _
    decide +kernel
  rw [m1, hv] at a1 a1'
  rw [m2] at a2
  rw [m3] at a3
  have b2 : val ((by8 x).map s1b) < 2 ^ 64 := by rw [← a1]; omega
  have b3 : val (((by8 x).map s1b).map s2b) < 2 ^ 63 := by
    rw [← a2]
    have q1 : val ((by8 x).map s1b) &&& 3689348814741910323 ≤ 3689348814741910323 := Nat.and_le_right
    have q2 : (val ((by8 x).map s1b) / 4) &&& 3689348814741910323 ≤ 3689348814741910323 := Nat.and_le_right
    have b4 : ∀ b ∈ ((by8 x).map s1b).map s2b, b < 80 := fun b hb => (h2 b hb).1
    rw [a2]
    show val [_, _, _, _, _, _, _, _] < _
    have c0 := b4 _ (List.mem_cons_self)
    have c1 := b4 _ (List.mem_cons_of_mem _ List.mem_cons_self)
    have c2 := b4 _ (List.mem_cons_of_mem _ (List.mem_cons_of_mem _ List.mem_cons_self))
    have c3 := b4 _ (List.mem_cons_of_mem _ (List.mem_cons_of_mem _ (List.mem_cons_of_mem _ List.mem_cons_self)))
    have c4 := b4 _ (List.mem_cons_of_mem _ (List.mem_cons_of_mem _ (List.mem_cons_of_mem _ (List.mem_cons_of_mem _ List.mem_cons_self))))
    have c5 := b4 _ (List.mem_cons_of_mem _ (List.mem_cons_of_mem _ (List.mem_cons_of_mem _ (List.mem_cons_of_mem _ (List.mem_cons_of_mem _ List.mem_cons_self)))))
    have c6 := b4 _ (List.mem_cons_of_mem _ (List.mem_cons_of_mem _ (List.mem_cons_of_mem _ (List.mem_cons_of_mem _ (List.mem_cons_of_mem _ (List.mem_cons_of_mem _ List.mem_cons_self))))))
    have c7 := b4 _ (List.mem_cons_of_mem _ (List.mem_cons_of_mem _ (List.mem_cons_of_mem _ (List.mem_cons_of_mem _ (List.mem_cons_of_mem _ (List.mem_cons_of_mem _ (List.mem_cons_of_mem _ List.mem_cons_self)))))))
    show _ + 256 * (_ + 256 * (_ + 256 * (_ + 256 * (_ + 256 * (_ + 256 * (_ + 256 * (_ + 256 * 0))))))) < 2 ^ 63
    omega
  -- the count itself
  have hc : fold8 (val ((((by8 x).map s1b).map s2b).map s3b)) % 128 = pop64 x := by
    have e0 : (((by8 x).map s1b).map s2b).map s3b = (by8 x).map (fun b => cnt (fun k => b.testBit k) 8) := by
      rw [List.map_map, List.map_map]
      exact List.map_congr_left (fun b hb => s3b_cnt b (hl b hb))
    have e1 : pop64 x = psum (by8 x) := by
      unfold pop64
      have := cnt_val (by8 x) hl
      rw [hv] at this
      exact this
    rw [e0, e1]
    have q : ∀ b : Nat, cnt (fun k => b.testBit k) 8 ≤ 8 := fun b => cnt_le 8
    exact (fold8_s (q _) (q _) (q _) (q _) (q _) (q _) (q _) (q _)).trans (by
      show _ = _ + (_ + (_ + (_ + (_ + (_ + (_ + (_ + 0)))))))
      omega)
  have b5 : val ((((by8 x).map s1b).map s2b).map s3b) ≤ 1085102592571150095 := by
    rw [← a3]; exact Nat.and_le_right
  obtain ⟨y, hy⟩ : ∃ y, y = val ((((by8 x).map s1b).map s2b).map s3b) := ⟨_, rfl⟩
  rw [← hy] at a3 hc b5
  unfold f_J13_bitCount_95d88
  rw [show (6148914691236517205 : Int64) = lN 6148914691236517205 from rfl, show (3689348814741910323 : Int64) = lN 3689348814741910323 from rfl, show (1085102592571150095 : Int64) = lN 1085102592571150095 from rfl]
  rw [show jlushr (lN x) 1 = lN (x / 2) from jl_shr (k := 1) hx (by omega), wb_and (by omega) (by omega), lN_sub a1', a1, nmJ_s]
  rw [show jlushr (lN (val ((by8 x).map s1b))) 2 = lN (val ((by8 x).map s1b) / 4) from jl_shr (k := 2) b2 (by omega), wb_and b2 (by omega), wb_and (by omega) (by omega), lN_add, a2, nmJ_s]
  rw [show jlushr (lN (val (((by8 x).map s1b).map s2b))) 4 = lN (val (((by8 x).map s1b).map s2b) / 16) from jl_shr (k := 4) (by omega) (by omega), lN_add, wb_and (by omega) (by omega), a3, nmJ_s]
  rw [show jlushr (lN y) 8 = lN (y / 256) from jl_shr (k := 8) (by omega) (by omega), lN_add, nmJ_s]
  rw [show jlushr (lN (y + y / 256)) 16 = lN ((y + y / 256) / 65536) from jl_shr (k := 16) (by omega) (by omega), lN_add, nmJ_s]
  rw [show jlushr (lN (y + y / 256 + (y + y / 256) / 65536)) 32 = lN ((y + y / 256 + (y + y / 256) / 65536) / 4294967296) from jl_shr (k := 32) (by omega) (by omega), lN_add, nmJ_s, lN_i]
  have ef : y + y / 256 + (y + y / 256) / 65536 + (y + y / 256 + (y + y / 256) / 65536) / 4294967296 = fold8 y := rfl
  rw [ef, pk_and (nI (fold8 y)) (m := 127) 7 (by decide)]
  have et : (nI (fold8 y)).toBitVec.toNat % 2 ^ 7 = pop64 x := by
    have e1 : (nI (fold8 y)).toBitVec.toNat = fold8 y % 2 ^ 32 := BitVec.toNat_ofNat _ _
    rw [e1, ← hc]
    omega
  rw [et]
