/-! rewriting rules for what is pure: numbers told as nI, guards, binds -/
theorem ni2 : (2 : Int32) = nI 2 := rfl
theorem ni3 : (3 : Int32) = nI 3 := rfl
theorem ni4 : (4 : Int32) = nI 4 := rfl
theorem ni5 : (5 : Int32) = nI 5 := rfl
theorem ni6 : (6 : Int32) = nI 6 := rfl
theorem ni7 : (7 : Int32) = nI 7 := rfl
theorem ni8 : (8 : Int32) = nI 8 := rfl
theorem ni9 : (9 : Int32) = nI 9 := rfl
theorem ni10 : (10 : Int32) = nI 10 := rfl
theorem ni12 : (12 : Int32) = nI 12 := rfl
theorem ni16 : (16 : Int32) = nI 16 := rfl
theorem ni20 : (20 : Int32) = nI 20 := rfl
theorem ni24 : (24 : Int32) = nI 24 := rfl
theorem ni29 : (29 : Int32) = nI 29 := rfl
theorem ni30 : (30 : Int32) = nI 30 := rfl
theorem ni31 : (31 : Int32) = nI 31 := rfl
theorem ni32 : (32 : Int32) = nI 32 := rfl
theorem ni33 : (33 : Int32) = nI 33 := rfl
theorem ni38 : (38 : Int32) = nI 38 := rfl
theorem ni40 : (40 : Int32) = nI 40 := rfl
theorem ni41 : (41 : Int32) = nI 41 := rfl
theorem ni42 : (42 : Int32) = nI 42 := rfl
theorem ni43 : (43 : Int32) = nI 43 := rfl
theorem ni45 : (45 : Int32) = nI 45 := rfl
theorem ni47 : (47 : Int32) = nI 47 := rfl
theorem ni48 : (48 : Int32) = nI 48 := rfl
theorem ni49 : (49 : Int32) = nI 49 := rfl
theorem ni52 : (52 : Int32) = nI 52 := rfl
theorem ni57 : (57 : Int32) = nI 57 := rfl
theorem ni58 : (58 : Int32) = nI 58 := rfl
theorem ni59 : (59 : Int32) = nI 59 := rfl
theorem ni60 : (60 : Int32) = nI 60 := rfl
theorem ni61 : (61 : Int32) = nI 61 := rfl
theorem ni62 : (62 : Int32) = nI 62 := rfl
theorem ni63 : (63 : Int32) = nI 63 := rfl
theorem ni90 : (90 : Int32) = nI 90 := rfl
theorem ni91 : (91 : Int32) = nI 91 := rfl
theorem ni97 : (97 : Int32) = nI 97 := rfl
theorem ni98 : (98 : Int32) = nI 98 := rfl
theorem ni99 : (99 : Int32) = nI 99 := rfl
theorem ni100 : (100 : Int32) = nI 100 := rfl
theorem ni105 : (105 : Int32) = nI 105 := rfl
theorem ni106 : (106 : Int32) = nI 106 := rfl
theorem ni107 : (107 : Int32) = nI 107 := rfl
theorem ni110 : (110 : Int32) = nI 110 := rfl
theorem ni120 : (120 : Int32) = nI 120 := rfl
theorem ni121 : (121 : Int32) = nI 121 := rfl
theorem ni124 : (124 : Int32) = nI 124 := rfl
theorem ni155 : (155 : Int32) = nI 155 := rfl
theorem ni216 : (216 : Int32) = nI 216 := rfl
theorem ni256 : (256 : Int32) = nI 256 := rfl
theorem ni260 : (260 : Int32) = nI 260 := rfl
theorem ni300 : (300 : Int32) = nI 300 := rfl
theorem ni998 : (998 : Int32) = nI 998 := rfl
theorem ni999 : (999 : Int32) = nI 999 := rfl
theorem ni1000 : (1000 : Int32) = nI 1000 := rfl
theorem ni10000 : (10000 : Int32) = nI 10000 := rfl
theorem ni1000000 : (1000000 : Int32) = nI 1000000 := rfl
section SM
variable {a b n j k c d : Nat} {o : RES} {I : PI} {L : PL}
theorem lt_t (h : a < b) (hb : b < 2 ^ 31) : (nI a < nI b) = True := eq_true (nI_lt h hb)
theorem lt_f (h : b ≤ a) (ha : a < 2 ^ 31) : (nI a < nI b) = False := eq_false (nI_nlt h ha)
theorem le_t (h : a ≤ b) (hb : b < 2 ^ 31) : (nI a ≤ nI b) = True := eq_true (nI_le h hb)
theorem le_f (h : b < a) (ha : a < 2 ^ 31) : (nI a ≤ nI b) = False := eq_false (nI_ge h ha)
theorem eq_t (h : a = b) : (nI a = nI b) = True := eq_true (by rw [h])
theorem eq_f (h : a ≠ b) (ha : a < 2 ^ 31) (hb : b < 2 ^ 31) : (nI a = nI b) = False := eq_false (fun q => h ((nI_eq ha hb).mp q))
theorem c0lt : (nI a < 0) = (nI a < nI 0) := rfl
theorem c0le : (nI a ≤ 0) = (nI a ≤ nI 0) := rfl
theorem c0eq : (nI a = 0) = (nI a = nI 0) := rfl
theorem c0ge : (0 ≤ nI a) = (nI 0 ≤ nI a) := rfl
theorem c0gt : (0 < nI a) = (nI 0 < nI a) := rfl
theorem c0qe : (0 = nI a) = (nI 0 = nI a) := rfl
theorem c1lt : (nI a < 1) = (nI a < nI 1) := rfl
theorem c1le : (nI a ≤ 1) = (nI a ≤ nI 1) := rfl
theorem c1eq : (nI a = 1) = (nI a = nI 1) := rfl
theorem c1ge : (1 ≤ nI a) = (nI 1 ≤ nI a) := rfl
theorem c1gt : (1 < nI a) = (nI 1 < nI a) := rfl
theorem c1qe : (1 = nI a) = (nI 1 = nI a) := rfl
theorem m_toInt : (-1 : Int32).toInt = -1 := by decide
theorem m_lt' (h : a < 2 ^ 31) : -1 < nI a := by rw [Int32.lt_iff_toInt_lt, nI_toInt h, m_toInt]; omega
theorem m_lt (h : a < 2 ^ 31) : (-1 < nI a) = True := eq_true (m_lt' h)
theorem m_le (h : a < 2 ^ 31) : (-1 ≤ nI a) = True := eq_true (by rw [Int32.le_iff_toInt_le, nI_toInt h, m_toInt]; omega)
theorem m_ngt (h : a < 2 ^ 31) : (nI a < -1) = False := eq_false (by rw [Int32.lt_iff_toInt_lt, nI_toInt h, m_toInt]; omega)
theorem m_nge (h : a < 2 ^ 31) : (nI a ≤ -1) = False := eq_false (by rw [Int32.le_iff_toInt_le, nI_toInt h, m_toInt]; omega)
theorem m_ne' (h : a < 2 ^ 31) : ¬ nI a = -1 := fun q => by have := m_lt' h; rw [q, Int32.lt_iff_toInt_lt] at this; omega
theorem m_ne (h : a < 2 ^ 31) : (nI a = -1) = False := eq_false (m_ne' h)
theorem m_en (h : a < 2 ^ 31) : (-1 = nI a) = False := eq_false (fun q => m_ne' h q.symm)
theorem nI_1' : 1 + nI a = nI (1 + a) := nI_add 1 a
theorem nsub (h : b ≤ a) : nI a - nI b = nI (a - b) := pk_sub h
theorem nsub1 (h : 1 ≤ a) : nI a - 1 = nI (a - 1) := pk_sub h
theorem cl0 : Int32.toNatClampNeg 0 = 0 := by decide +kernel
theorem cl1 : Int32.toNatClampNeg 1 = 1 := by decide +kernel
theorem gd_in (h : a < n) (hn : n < 2 ^ 31) : gd (inb (nI a) n) o = o := by rw [inb_nI h hn, gd_t]
theorem gd_in0 (h : 0 < n) (hn : n < 2 ^ 31) : gd (inb 0 n) o = o := gd_in (a := 0) h hn
theorem gd_in1 (h : 1 < n) (hn : n < 2 ^ 31) : gd (inb 1 n) o = o := gd_in (a := 1) h hn
theorem gd_k0 : gd (decide ((0 : Nat) &&& 1 = 0)) o = o := by rw [k0, gd_t]
theorem gd_k1 : gd (decide ((1 : Nat) &&& 1 = 1)) o = o := by rw [k1, gd_t]
theorem gd_kb {x : Bool} : gd (decide ((bif x then (1 : Int32) else 0) &&& 1 = (bif x then (1 : Int32) else 0))) o = o := by rw [kb, gd_t]
end SM
/-- a number of its own below m -/
def hz (a : Int32) (m : Nat) : Bool := wi a 0 (nI m - 1)
theorem hz_t {a m : Nat} (h : a < m) (hm : m < 2 ^ 31) : hz (nI a) m = true := (wi_pred hm).mpr ⟨a, h, rfl⟩
theorem hz_iff {a : Int32} {m : Nat} (hm : m < 2 ^ 31) : hz a m = true ↔ ∃ j, j < m ∧ a = nI j := wi_pred hm
theorem hz_f {a m : Nat} (h : m ≤ a) (ha : a < 2 ^ 31) : hz (nI a) m = false := by
  cases hw : hz (nI a) m with
  | false => rfl
  | true =>
    obtain ⟨j, h1, h2⟩ := (hz_iff (by omega)).mp hw
    rw [nI_eq ha (by omega)] at h2
    omega
theorem hz_n {a : Int32} {m : Nat} (hm : m < 2 ^ 31) (h : hz a m = false) : a < 0 ∨ nI m ≤ a := by
  by_cases h1 : a < 0
  · exact Or.inl h1
  · right
    refine Classical.byContradiction fun h2 => ?_
    have h3 := (hz_iff hm).mpr ((has_iff hm).mp ⟨h1, h2⟩)
    rw [h] at h3
    cases h3
theorem in_hz {N m : Nat} {a : Int32} {I : PI} {L : PL} : f_X12_in N a 0 (nI m - 1) I L = some (some (.int (bif hz a m then 1 else 0)), I, L) := in_s
theorem wi_in {a b j : Nat} (h1 : a ≤ j) (h2 : j ≤ b) (hb : b < 2 ^ 31) : wi (nI j) (nI a) (nI b) = true := by
  unfold wi
  rw [decide_eq_true (nI_le h1 (by omega)), decide_eq_true (nI_le h2 hb)]; rfl
theorem wi_lo {a b j : Nat} (h1 : j < a) (hb : a < 2 ^ 31) : wi (nI j) (nI a) (nI b) = false := by
  unfold wi
  rw [decide_eq_false (nI_ge h1 hb)]; rfl
theorem wi_hi {a b j : Nat} (h1 : b < j) (hb : j < 2 ^ 31) : wi (nI j) (nI a) (nI b) = false := by
  unfold wi
  rw [decide_eq_false (nI_ge h1 hb), Bool.and_false]
theorem wi_0 {a b : Int32} : wi a 0 b = wi a (nI 0) b := rfl
theorem wi_1 {a b : Int32} : wi a 1 b = wi a (nI 1) b := rfl
theorem wi_q1 {a b : Int32} : wi a b 1 = wi a b (nI 1) := rfl
