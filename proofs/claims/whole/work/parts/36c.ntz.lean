def J6g (m : Int32) : Int32 := (if 0 < m then (if m ≤ 65536 then (if m ≤ 256 then (if m ≤ 16 then (if m ≤ 4 then 1 + (ushrI m 1) else (1 + 2) + (ushrI (ushrI m 2) 1)) else (if (ushrI m 4) ≤ 4 then (1 + 4) + (ushrI (ushrI m 4) 1) else ((1 + 4) + 2) + (ushrI (ushrI (ushrI m 4) 2) 1))) else (if (ushrI m 8) ≤ 16 then (if (ushrI m 8) ≤ 4 then (1 + 8) + (ushrI (ushrI m 8) 1) else ((1 + 8) + 2) + (ushrI (ushrI (ushrI m 8) 2) 1)) else (if (ushrI (ushrI m 8) 4) ≤ 4 then ((1 + 8) + 4) + (ushrI (ushrI (ushrI m 8) 4) 1) else (((1 + 8) + 4) + 2) + (ushrI (ushrI (ushrI (ushrI m 8) 4) 2) 1)))) else (if (ushrI m 16) ≤ 256 then (if (ushrI m 16) ≤ 16 then (if (ushrI m 16) ≤ 4 then (1 + 16) + (ushrI (ushrI m 16) 1) else ((1 + 16) + 2) + (ushrI (ushrI (ushrI m 16) 2) 1)) else (if (ushrI (ushrI m 16) 4) ≤ 4 then ((1 + 16) + 4) + (ushrI (ushrI (ushrI m 16) 4) 1) else (((1 + 16) + 4) + 2) + (ushrI (ushrI (ushrI (ushrI m 16) 4) 2) 1))) else (if (ushrI (ushrI m 16) 8) ≤ 16 then (if (ushrI (ushrI m 16) 8) ≤ 4 then ((1 + 16) + 8) + (ushrI (ushrI (ushrI m 16) 8) 1) else (((1 + 16) + 8) + 2) + (ushrI (ushrI (ushrI (ushrI m 16) 8) 2) 1)) else (if (ushrI (ushrI (ushrI m 16) 8) 4) ≤ 4 then (((1 + 16) + 8) + 4) + (ushrI (ushrI (ushrI (ushrI m 16) 8) 4) 1) else ((((1 + 16) + 8) + 4) + 2) + (ushrI (ushrI (ushrI (ushrI (ushrI m 16) 8) 4) 2) 1))))) else m &&& 32)
theorem J6_g (p : Int32) : f_J6_numberOfTrailingZeros_0f7a4 p = J6g ((p ^^^ (-1)) &&& (p - 1)) := rfl
theorem J6g_val : ∀ t : Fin 32, J6g (nI (2 ^ t.val - 1)) = nI t.val := by decide +kernel
abbrev tn (x : Int64) : Nat := x.toBitVec.toNat
theorem tn_and (x y : Int64) : tn (x &&& y) = tn x &&& tn y := by rw [tn, Int64.toBitVec_and, BitVec.toNat_and]
theorem tn_add (x y : Int64) (h : tn x + tn y < 2 ^ 64) : tn (x + y) = tn x + tn y := by
  rw [tn, Int64.toBitVec_add, BitVec.toNat_add, Nat.mod_eq_of_lt h]
theorem tn_sub (x y : Int64) (h : tn y ≤ tn x) : tn (x - y) = tn x - tn y := by
  have h1 : tn x < 2 ^ 64 := x.toBitVec.isLt
  have h2 : tn y < 2 ^ 64 := y.toBitVec.isLt
  rw [tn, Int64.toBitVec_sub, BitVec.toNat_sub]
  show (2 ^ 64 - tn y + tn x) % 2 ^ 64 = tn x - tn y
  have e : 2 ^ 64 - tn y + tn x = (tn x - tn y) + 2 ^ 64 := by omega
  rw [e, Nat.add_mod_right, Nat.mod_eq_of_lt (by omega)]
theorem tn_ushr (x : Int64) (y : Int32) (j : Nat) (h : (y.toInt64.toUInt64 &&& Int64.toUInt64 63).toNat % 64 = j) : tn (ushrL x y) = tn x / 2 ^ j := by
  show (x.toUInt64 >>> (y.toInt64.toUInt64 &&& Int64.toUInt64 63)).toNat = _
  rw [UInt64.toNat_shiftRight, h, Nat.shiftRight_eq_div_pow]
  rfl
theorem ti32_nat (x : Int64) : x.toInt32.toBitVec.toNat = tn x % 2 ^ 32 := by
  have e : x.toInt32.toBitVec = x.toBitVec.setWidth 32 := by
    show x.toBitVec.signExtend 32 = _
    exact BitVec.signExtend_eq_setWidth_of_le _ (by decide)
  rw [e, BitVec.toNat_setWidth]
theorem bc_cnt (x : Int64) : f_J13_bitCount_95d88 x = nI (cnt x) := by
  have hx := x.toBitVec.isLt
  unfold f_J13_bitCount_95d88
  simp only [bd]
  have u1 : tn (ushrL x 1) = tn x / 2 := tn_ushr x 1 1 (by decide)
  have a1 : tn (x - (ushrL x 1 &&& 6148914691236517205)) = sw1 8 (tn x) := by
    have e : tn (ushrL x 1 &&& 6148914691236517205) = (tn x / 2) &&& mk5 8 := by rw [tn_and, u1]; rfl
    rw [tn_sub _ _ (by rw [e]; exact half_le5 8 _), e]; rfl
  generalize x - (ushrL x 1 &&& 6148914691236517205) = y1 at a1
  have u2 : tn (ushrL y1 2) = tn y1 / 4 := tn_ushr y1 2 2 (by decide)
  have b1 : tn (y1 &&& 3689348814741910323) = tn y1 &&& mk3 8 := by rw [tn_and]; rfl
  have b2 : tn (ushrL y1 2 &&& 3689348814741910323) = (tn y1 / 4) &&& mk3 8 := by rw [tn_and, u2]; rfl
  have m3 : mk3 8 < 2 ^ 62 := by decide
  have b3 : tn y1 &&& mk3 8 ≤ mk3 8 := Nat.and_le_right
  have b4 : (tn y1 / 4) &&& mk3 8 ≤ mk3 8 := Nat.and_le_right
  have a2 : tn ((y1 &&& 3689348814741910323) + (ushrL y1 2 &&& 3689348814741910323)) = sw2 8 (sw1 8 (tn x)) := by
    rw [tn_add _ _ (by rw [b1, b2]; omega), b1, b2, a1]; rfl
  have a2l : tn ((y1 &&& 3689348814741910323) + (ushrL y1 2 &&& 3689348814741910323)) < 2 ^ 63 := by
    rw [tn_add _ _ (by rw [b1, b2]; omega), b1, b2]; omega
  generalize (y1 &&& 3689348814741910323) + (ushrL y1 2 &&& 3689348814741910323) = y2 at a2 a2l
  have u3 : tn (ushrL y2 4) = tn y2 / 16 := tn_ushr y2 4 4 (by decide)
  have a3 : tn ((y2 + ushrL y2 4) &&& 1085102592571150095) = sw3 8 (sw2 8 (sw1 8 (tn x))) := by
    rw [tn_and, tn_add _ _ (by rw [u3]; omega), u3, a2]; rfl
  generalize (y2 + ushrL y2 4) &&& 1085102592571150095 = y3 at a3
  have u4 : tn (ushrL y3 8) = tn y3 / 256 := tn_ushr y3 8 8 (by decide)
  have r := bc_nat hx (a := tn y3 + tn y3 / 256) (by rw [a3]) rfl rfl
  have a4 : tn (y3 + ushrL y3 8) = tn y3 + tn y3 / 256 := by rw [tn_add _ _ (by rw [u4]; exact r.1), u4]
  generalize y3 + ushrL y3 8 = y4 at a4
  rw [← a4] at r
  have u5 : tn (ushrL y4 16) = tn y4 / 65536 := tn_ushr y4 16 16 (by decide)
  have a5 : tn (y4 + ushrL y4 16) = tn y4 + tn y4 / 65536 := by rw [tn_add _ _ (by rw [u5]; exact r.2.1), u5]
  generalize y4 + ushrL y4 16 = y5 at a5
  rw [← a5] at r
  have u6 : tn (ushrL y5 32) = tn y5 / 4294967296 := tn_ushr y5 32 32 (by decide)
  have a6 : tn (y5 + ushrL y5 32) = tn y5 + tn y5 / 4294967296 := by rw [tn_add _ _ (by rw [u6]; exact r.2.2.1), u6]
  generalize y5 + ushrL y5 32 = y6 at a6
  rw [← a6] at r
  rw [pk_and y6.toInt32 7 (by decide), ti32_nat]
  congr 1
  have := r.2.2.2
  rw [show cnt x = cntN (tn x) 64 from rfl, ← this]
  omega
/-! the lowest bit -/
theorem low32 {p : Int32} {t : Nat} (ht : t < 32) (h1 : p.toBitVec.getLsbD t = true) (h2 : ∀ j, j < t → p.toBitVec.getLsbD j = false) : f_J6_numberOfTrailingZeros_0f7a4 p = nI t := by
  have hp : p.toBitVec.toNat ≠ 0 := by
    intro q
    have : p.toBitVec.toNat.testBit t = true := h1
    rw [q] at this
    simp at this
  obtain ⟨t', g1, g2, g3⟩ := low_nat hp
  have et : t' = t := by
    rcases Nat.lt_trichotomy t' t with h | h | h
    · have := h2 t' h
      rw [show p.toBitVec.getLsbD t' = p.toBitVec.toNat.testBit t' from rfl, g1] at this
      cases this
    · exact h
    · have := g2 t h
      rw [show p.toBitVec.toNat.testBit t = p.toBitVec.getLsbD t from rfl, h1] at this
      cases this
  subst et
  have hs : (p - 1).toBitVec.toNat = p.toBitVec.toNat - 1 := by
    have hl := p.toBitVec.isLt
    rw [Int32.toBitVec_sub, BitVec.toNat_sub]
    show (2 ^ 32 - 1 + p.toBitVec.toNat) % 2 ^ 32 = _
    omega
  have e : (p ^^^ (-1)) &&& (p - 1) = nI (2 ^ t' - 1) := by
    apply Int32.toBitVec_inj.mp
    apply BitVec.eq_of_getLsbD_eq
    intro k hk
    rw [Int32.toBitVec_and, Int32.toBitVec_xor, BitVec.getLsbD_and, BitVec.getLsbD_xor, show (-1 : Int32).toBitVec = BitVec.allOnes 32 by decide, BitVec.getLsbD_allOnes, decide_eq_true hk]
    have e1 : (p - 1).toBitVec.getLsbD k = if k < t' then true else if k = t' then false else p.toBitVec.toNat.testBit k := by
      show (p - 1).toBitVec.toNat.testBit k = _
      rw [hs, g3 k]
    have e2 : (nI (2 ^ t' - 1)).toBitVec.getLsbD k = decide (k < t') := by
      show (BitVec.ofNat 32 (2 ^ t' - 1)).getLsbD k = _
      rw [BitVec.getLsbD_ofNat, Nat.testBit_two_pow_sub_one, decide_eq_true hk]
      simp
    rw [e1, e2]
    by_cases q : k < t'
    · have := h2 k q
      simp [q, this]
    · by_cases q2 : k = t'
      · simp [q2]
      · simp only [if_neg q, if_neg q2]
        show (Bool.xor (p.toBitVec.toNat.testBit k) true && p.toBitVec.toNat.testBit k) = _
        simp only [q, decide_false]
        cases p.toBitVec.toNat.testBit k <;> rfl
  rw [J6_g, e]
  exact J6g_val ⟨t', ht⟩
theorem ti32_bit (x : Int64) {k : Nat} (hk : k < 32) : x.toInt32.toBitVec.getLsbD k = bt x k := by
  show x.toInt32.toBitVec.toNat.testBit k = _
  rw [ti32_nat, Nat.testBit_mod_two_pow, decide_eq_true hk]
  rfl
theorem ntz_spec {x : Int64} (h : x ≠ 0) : ∃ t, t < 64 ∧ f_J13_numberOfTrailingZeros_95d88 x = nI t ∧ bt x t = true ∧ (∀ j, j < t → bt x j = false) ∧ ∀ k, bt (x - 1) k = if k < t then true else if k = t then false else bt x k := by
  obtain ⟨t, h1, h2, h3, h4⟩ := low_bit h
  refine ⟨t, h1, ?_, h2, h3, h4⟩
  unfold f_J13_numberOfTrailingZeros_95d88
  by_cases q : t < 32
  · rw [if_neg]
    · exact low32 q (by rw [ti32_bit x q]; exact h2) (fun j hj => by rw [ti32_bit x (by omega)]; exact h3 j hj)
    · intro e
      have := ti32_bit x q
      rw [e, h2] at this
      simp at this
  · rw [if_pos]
    · have u : tn (ushrL x 32) = tn x / 4294967296 := tn_ushr x 32 32 (by decide)
      have hb : ∀ k, bt (ushrL x 32) k = bt x (k + 32) := fun k => by
        show (tn (ushrL x 32)).testBit k = (tn x).testBit (k + 32)
        rw [u, show 4294967296 = 2 ^ 32 from rfl, Nat.testBit_div_two_pow]
      have e : f_J6_numberOfTrailingZeros_0f7a4 (ushrL x 32).toInt32 = nI (t - 32) := by
        apply low32 (by omega)
        · rw [ti32_bit _ (by omega), hb, show t - 32 + 32 = t by omega]; exact h2
        · intro j hj
          rw [ti32_bit _ (by omega), hb]
          exact h3 _ (by omega)
      rw [e, show (32 : Int32) = nI 32 from rfl, nI_add]
      congr 1
      omega
    · apply Int32.toBitVec_inj.mp
      apply BitVec.eq_of_getLsbD_eq
      intro k hk
      rw [ti32_bit x hk, h3 k (by omega)]
      simp
theorem ntz_nn' (x : Int64) : 0 ≤ (f_J13_numberOfTrailingZeros_95d88 x).toInt := by
  by_cases h : x = 0
  · subst h; decide +kernel
  · obtain ⟨t, h1, h2, -⟩ := ntz_spec h
    rw [h2, nI_toInt (by omega)]
    omega
