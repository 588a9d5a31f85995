/-- the word's bits and the kind, as a new object is told of them -/
def mOf (b : Int32) : Nat := 1 + ((b.toInt - 1) % 57).toNat
def kdOf (k : Int32) : Nat := (k.toInt % 4).toNat
theorem mOf_in (b : Int32) : 0 < mOf b ∧ mOf b ≤ 57 := by
  unfold mOf
  omega
theorem kdOf_in (k : Int32) : kdOf k = 0 ∨ kdOf k = 1 ∨ kdOf k = 2 ∨ kdOf k = 3 := by
  unfold kdOf
  omega
theorem fm_zero {a n : Int} (h : a.tmod n = 0) : a % n = 0 := Int.emod_eq_zero_of_dvd (Int.dvd_of_tmod_eq_zero h)
theorem fm_neg {a n : Int} (hn : 0 < n) (h : a < 0) (h0 : a.tmod n ≠ 0) : a.tmod n + n = a % n := by
  rw [Int.tmod_eq_emod, if_neg]
  · omega
  · rintro (q | q)
    · omega
    · exact h0 (Int.tmod_eq_zero_of_dvd q)
theorem rem57 {x : Int64} (h1 : -2 ^ 40 ≤ x.toInt) (h2 : x.toInt < 2 ^ 40) : (x - x / lN 57 * lN 57).toInt = x.toInt.tmod 57 := by
  have e57 : (lN 57).toInt = 57 := by decide
  have hq := Int.mul_tdiv_add_tmod x.toInt 57
  have hb1 : x.toInt.tmod 57 < 57 := Int.tmod_lt_of_pos _ (by decide)
  have hb2 : -57 < x.toInt.tmod 57 := Int.lt_tmod_of_pos _ (by decide)
  have hd : (x / lN 57).toInt = x.toInt.tdiv 57 := by
    rw [Int64.toInt_div, e57]
    exact Int.bmod_eq_of_le_mul_two (by omega) (by omega)
  have hm : (x / lN 57 * lN 57).toInt = x.toInt.tdiv 57 * 57 := by
    rw [Int64.toInt_mul, hd, e57]
    exact Int.bmod_eq_of_le_mul_two (by omega) (by omega)
  rw [Int64.toInt_sub, hm]
  rw [Int.bmod_eq_of_le_mul_two (by omega) (by omega)]
  omega
theorem rem4 (x : Int32) : (x - x / nI 4 * nI 4).toInt = x.toInt.tmod 4 := by
  have h1 := x.le_toInt
  have h2 := x.toInt_lt
  have e57 : (nI 4).toInt = 4 := by decide
  have hq := Int.mul_tdiv_add_tmod x.toInt 4
  have hb1 : x.toInt.tmod 4 < 4 := Int.tmod_lt_of_pos _ (by decide)
  have hb2 : -4 < x.toInt.tmod 4 := Int.lt_tmod_of_pos _ (by decide)
  have hs : 0 ≤ x.toInt → 0 ≤ x.toInt.tmod 4 := fun h => Int.tmod_nonneg 4 h
  have hs2 : x.toInt ≤ 0 → x.toInt.tmod 4 ≤ 0 := fun h => by have h9 := Int.tmod_nonneg 4 (show 0 ≤ -x.toInt by omega); rw [Int.neg_tmod] at h9; omega
  have hd : (x / nI 4).toInt = x.toInt.tdiv 4 := by
    rw [Int32.toInt_div, e57]
    exact Int.bmod_eq_of_le_mul_two (by omega) (by omega)
  have hm : (x / nI 4 * nI 4).toInt = x.toInt.tdiv 4 * 4 := by
    rw [Int32.toInt_mul, hd, e57]
    exact Int.bmod_eq_of_le_mul_two (by omega) (by omega)
  rw [Int32.toInt_sub, hm]
  rw [Int.bmod_eq_of_le_mul_two (by omega) (by omega)]
  omega
theorem sg57 (x : Int64) : (lN 0 ≤ x ^^^ lN 57) ↔ 0 ≤ x.toInt := by
  have h : (x ^^^ lN 57).toBitVec.msb = x.toBitVec.msb := by
    rw [Int64.toBitVec_xor, BitVec.msb_xor, show (lN 57).toBitVec.msb = false from by decide, Bool.xor_false]
  rw [BitVec.msb_eq_toInt, BitVec.msb_eq_toInt] at h
  have h1 : (x ^^^ lN 57).toBitVec.toInt = (x ^^^ lN 57).toInt := rfl
  have h2 : x.toBitVec.toInt = x.toInt := rfl
  rw [h1, h2] at h
  have h3 := decide_eq_decide.mp h
  have e0 : (lN 0).toInt = 0 := by decide
  rw [Int64.le_iff_toInt_le, e0]
  omega
theorem sg4 (x : Int32) : (0 ≤ x ^^^ nI 4) ↔ 0 ≤ x.toInt := by
  have h : (x ^^^ nI 4).toBitVec.msb = x.toBitVec.msb := by
    rw [Int32.toBitVec_xor, BitVec.msb_xor, show (nI 4).toBitVec.msb = false from by decide, Bool.xor_false]
  rw [BitVec.msb_eq_toInt, BitVec.msb_eq_toInt] at h
  have h1 : (x ^^^ nI 4).toBitVec.toInt = (x ^^^ nI 4).toInt := rfl
  have h2 : x.toBitVec.toInt = x.toInt := rfl
  rw [h1, h2] at h
  have h3 := decide_eq_decide.mp h
  have e0 : (0 : Int32).toInt = 0 := by decide
  rw [Int32.le_iff_toInt_le, e0]
  omega
theorem lN_of {x : Int64} {n : Nat} (h : x.toInt = (n : Int)) (hn : n < 2 ^ 40) : x = lN n := Int64.toInt_inj.mp (by rw [h, pk_lT (by omega)])
theorem nI_of9 {x : Int32} {n : Nat} (h : x.toInt = (n : Int)) (hn : n < 2 ^ 31) : x = nI n := Int32.toInt_inj.mp (by rw [h, nI_toInt hn])
theorem i2l_1 (b : Int32) : (b.toInt64 - lN 1).toInt = b.toInt - 1 := by
  have h1 := b.le_toInt
  have h2 := b.toInt_lt
  rw [Int64.toInt_sub, Int32.toInt_toInt64, show (lN 1).toInt = 1 from by decide]
  exact Int.bmod_eq_of_le_mul_two (by omega) (by omega)
