/-! the lowest bit's place is never negative -/
theorem us_val (m y : Int32) (j : Nat) (hj : (y.toUInt32 &&& Int32.toUInt32 31).toNat % 32 = j) : (ushrI m y).toBitVec.toNat = m.toBitVec.toNat / 2 ^ j := by
  show (m.toUInt32 >>> (y.toUInt32 &&& Int32.toUInt32 31)).toNat = _
  rw [UInt32.toNat_shiftRight, hj, Nat.shiftRight_eq_div_pow]
  rfl
theorem i32_nn (x : Int32) : 0 ≤ x.toInt ↔ x.toBitVec.toNat < 2 ^ 31 := by
  have h := x.toBitVec.isLt
  show 0 ≤ x.toBitVec.toInt ↔ _
  rw [BitVec.toInt_eq_toNat_cond]
  split <;> omega
theorem us_nn (m y : Int32) (h : 0 ≤ m.toInt) : 0 ≤ (ushrI m y).toInt := by
  rw [i32_nn] at h ⊢
  rw [us_val m y _ rfl]
  exact Nat.lt_of_le_of_lt (Nat.div_le_self _ _) h
theorem us_1 (m : Int32) (h : 0 ≤ m.toInt) : 0 ≤ (ushrI m 1).toInt ∧ (ushrI m 1).toInt < 1073741824 := by
  have h1 := us_nn m 1 h
  refine ⟨h1, ?_⟩
  rw [i32_nn] at h h1
  have e : (ushrI m 1).toInt = ((ushrI m 1).toBitVec.toNat : Int) := BitVec.toInt_eq_toNat_of_lt (by omega)
  rw [e, us_val m 1 1 (by decide)]
  omega
theorem us_c (c m : Int32) (h0 : 0 ≤ c.toInt) (h1 : c.toInt ≤ 31) (h : 0 ≤ m.toInt) : 0 ≤ (c + ushrI m 1).toInt ∧ (c + ushrI m 1).toInt < 1073741855 := by
  obtain ⟨g1, g2⟩ := us_1 m h
  have e : (c + ushrI m 1).toInt = c.toInt + (ushrI m 1).toInt := by rw [Int32.toInt_add, Int.bmod_eq_of_le (by omega) (by omega)]
  omega
theorem and32 (m : Int32) : 0 ≤ (m &&& 32).toInt ∧ (m &&& 32).toInt < 1073741855 := by
  have e : (m &&& 32).toBitVec.toNat ≤ 32 := by
    rw [Int32.toBitVec_and, BitVec.toNat_and]; exact Nat.le_trans Nat.and_le_right (by decide)
  have h : (m &&& 32).toInt = ((m &&& 32).toBitVec.toNat : Int) := BitVec.toInt_eq_toNat_of_lt (by omega)
  omega
theorem J6_nn (p : Int32) : 0 ≤ (f_J6_numberOfTrailingZeros_0f7a4 p).toInt ∧ (f_J6_numberOfTrailingZeros_0f7a4 p).toInt < 1073741855 := by
  rw [f_J6_numberOfTrailingZeros_0f7a4]
  generalize ((p ^^^ (-1)) &&& (p - 1)) = m
  by_cases q : 0 < m
  · have h : 0 ≤ m.toInt := by rw [Int32.lt_iff_toInt_lt, Int32.toInt_zero] at q; omega
    rw [if_pos q]
    repeat' split
    all_goals
      refine us_c _ _ (by decide) (by decide) ?_
      repeat first | exact h | refine us_nn _ _ ?_
  · rw [if_neg q]; exact and32 m
theorem ntz_nn (x : Int64) : 0 ≤ (f_J13_numberOfTrailingZeros_95d88 x).toInt := by
  rw [f_J13_numberOfTrailingZeros_95d88]
  split
  · obtain ⟨h1, h2⟩ := J6_nn ((ushrL x 32).toInt32)
    rw [Int32.toInt_add, show (32 : Int32).toInt = 32 from rfl, Int.bmod_eq_of_le (by omega) (by omega)]
    omega
  · exact (J6_nn _).1
