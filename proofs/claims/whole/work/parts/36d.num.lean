/-! fields of bits: numbers of cells -/
def fld (w : Nat) (n : Int64) (k : Nat) : Nat := (tn n / 2 ^ (w * k)) % 2 ^ w
theorem fld_bit (w : Nat) (n : Int64) (k i : Nat) : (fld w n k).testBit i = (decide (i < w) && bt n (w * k + i)) := by
  rw [fld, Nat.testBit_mod_two_pow, Nat.testBit_div_two_pow, Nat.add_comm i (w * k)]
  rfl
theorem fld_ext {w : Nat} {n m : Int64} {k j : Nat} (h : ∀ i, i < w → bt n (w * k + i) = bt m (w * j + i)) : fld w n k = fld w m j := by
  apply Nat.eq_of_testBit_eq
  intro i
  rw [fld_bit, fld_bit]
  by_cases hi : i < w
  · rw [h i hi]
  · simp [hi]
theorem fld_lt (w : Nat) (n : Int64) (k : Nat) : fld w n k < 2 ^ w := Nat.mod_lt _ (Nat.two_pow_pos w)
theorem bt_lN {v : Nat} (k : Nat) (hk : k < 64) : bt (lN v) k = v.testBit k := by
  show (BitVec.ofNat 64 v).getLsbD k = _
  rw [BitVec.getLsbD_ofNat, decide_eq_true hk]; simp
def setF (w : Nat) (n : Int64) (k : Nat) (V : Int64) : Int64 := (n &&& ((shlL (lN (2 ^ w - 1)) (nI (w * k))) ^^^ (-1))) ||| shlL V (nI (w * k))
theorem fld_set {w k j v : Nat} (n : Int64) (hk : w * k + w ≤ 64) (hj : w * j + w ≤ 64) (hv : v < 2 ^ w) (hw : 0 < w) : fld w (setF w n k (lN v)) j = if j = k then v else fld w n j := by
  apply Nat.eq_of_testBit_eq
  intro i
  rw [fld_bit]
  by_cases hi : i < w
  · have h1 : w * j + i < 64 := by omega
    have h2 : w * k < 64 := by omega
    rw [setF, bt_or, bt_and, bt_not _ h1, bt_shl _ h2, bt_shl _ h2, decide_eq_true hi, decide_eq_true h1]
    by_cases e : j = k
    · subst e
      rw [if_pos rfl, show w * j + i - w * j = i by omega, bt_lN i (by omega), bt_lN i (by omega), Nat.testBit_two_pow_sub_one, decide_eq_true hi]
      have h3 : ¬ w * j + i < w * j := by omega
      simp [h3]
    · rw [if_neg e, fld_bit, decide_eq_true hi]
      rcases Nat.lt_or_gt_of_ne e with h | h
      · have h3 : w * j + w ≤ w * k := by
          have := Nat.mul_le_mul_left w (show j + 1 ≤ k from h)
          rw [Nat.mul_add] at this
          omega
        have h4 : w * j + i < w * k := by omega
        simp [h4]
      · have h3 : w * k + w ≤ w * j := by
          have := Nat.mul_le_mul_left w (show k + 1 ≤ j from h)
          rw [Nat.mul_add] at this
          omega
        have h4 : ¬ w * j + i < w * k := by omega
        have h5 : w ≤ w * j + i - w * k := by omega
        have h6 : bt (lN (2 ^ w - 1)) (w * j + i - w * k) = false := by
          rw [bt_lN _ (by omega), Nat.testBit_two_pow_sub_one]
          simp; omega
        have h7 : bt (lN v) (w * j + i - w * k) = false := by
          rw [bt_lN _ (by omega)]
          exact Nat.testBit_lt_two_pow (Nat.lt_of_lt_of_le hv (Nat.pow_le_pow_right (by decide) h5))
        rw [h6, h7]
        simp
  · rw [decide_eq_false hi]
    by_cases e : j = k
    · rw [if_pos e]
      exact (Nat.testBit_lt_two_pow (Nat.lt_of_lt_of_le hv (Nat.pow_le_pow_right (by decide) (by omega)))).symm
    · rw [if_neg e, fld_bit, decide_eq_false hi]; rfl
theorem lN_toInt32 {v : Nat} (h : v < 2 ^ 31) : (lN v).toInt32 = nI v := lN_i v
theorem nIn_val (n : Int64) {k : Nat} (hk : k < 16) : f_X0_numberIn n (nI k) = nI (fld 4 n k) - 1 := by
  unfold f_X0_numberIn
  congr 1
  rw [show (4 : Int32) = nI 4 from rfl, pk_mul]
  have e : (ushrL n (nI (4 * k)) &&& 15) = lN (fld 4 n k) := by
    apply Int64.toBitVec_inj.mp
    apply BitVec.eq_of_toNat_eq
    have h1 : tn (ushrL n (nI (4 * k))) = tn n / 2 ^ (4 * k) := by
      apply tn_ushr
      have : ∀ q : Fin 16, ((nI (4 * q.val)).toInt64.toUInt64 &&& Int64.toUInt64 63).toNat % 64 = 4 * q.val := by decide +kernel
      exact this ⟨k, hk⟩
    have h2 := tn_and (ushrL n (nI (4 * k))) 15
    have h3 : tn (15 : Int64) = 2 ^ 4 - 1 := by decide
    rw [h1, h3, Nat.and_two_pow_sub_one_eq_mod] at h2
    have h4 := fld_lt 4 n k
    rw [show (lN (fld 4 n k)).toBitVec.toNat = fld 4 n k % 2 ^ 64 from rfl, Nat.mod_eq_of_lt (by omega)]
    exact h2
  rw [e, lN_i]
theorem nAt_val (m : Int64) {k : Nat} (hk : k < 16) : f_X8_numberAt (nI k) m = nI (fld 3 m k) := by
  unfold f_X8_numberAt
  rw [show (3 : Int32) = nI 3 from rfl, pk_mul]
  have hk3 : 3 * k < 64 := by omega
  have e : (shrL m (nI (3 * k)) &&& 7) = lN (fld 3 m k) := by
    apply bt_ext
    intro i hi
    rw [bt_and, bt_lN i hi, fld_bit]
    have h7 : bt 7 i = decide (i < 3) := by
      have : ∀ q : Fin 64, bt 7 q.val = decide (q.val < 3) := by decide +kernel
      exact this ⟨i, hi⟩
    rw [h7]
    by_cases q : i < 3
    · have h1 : bt (shrL m (nI (3 * k))) i = bt m (3 * k + i) := by
        rw [bt, shrL_bv m hk3, BitVec.getLsbD_sshiftRight]
        have h2 : 3 * k + i < 64 := by omega
        have h3 : ¬ 64 ≤ i := by omega
        simp [h2, h3, bt]
      rw [h1]; simp [q]
    · simp [q]
  rw [e, lN_i]
def nRel (n m : Int64) : Prop := ∀ k, k < 16 → fld 3 m k ≤ 5 ∧ fld 4 n k = if fld 3 m k = 5 then 0 else fld 3 m k + 1
theorem withNumber_set (n : Int64) {k v : Nat} (p : Int32) (hk : k < 16) (hp : p + 1 = nI v) (hv : v < 16) : f_X0_withNumber n (nI k) p = setF 4 n k (lN v) := by
  unfold f_X0_withNumber setF
  rw [show (4 : Int32) = nI 4 from rfl, pk_mul, hp, nI_l (by omega)]
  rfl
theorem becomes_set (m : Int64) {k v : Nat} (hk : k < 16) : f_X8_becomes (nI k) (lN v) m = setF 3 m k (lN v) := by
  unfold f_X8_becomes setF
  rw [show (3 : Int32) = nI 3 from rfl, pk_mul]
  rfl
theorem nRel_set {n m : Int64} {k v : Nat} (h : nRel n m) (hk : k < 16) (hv : v ≤ 5) : nRel (setF 4 n k (lN (if v = 5 then 0 else v + 1))) (setF 3 m k (lN v)) := by
  intro j hj
  rw [fld_set m (by omega) (by omega) (by omega) (by decide), fld_set n (by omega) (by omega) (by split <;> omega) (by decide)]
  by_cases e : j = k
  · rw [if_pos e, if_pos e]; exact ⟨hv, rfl⟩
  · rw [if_neg e, if_neg e]; exact h j hj
theorem nRel_in {n m : Int64} (h : nRel n m) {k : Nat} (hk : k < 16) : f_X0_numberIn n (nI k) = if fld 3 m k = 5 then -1 else nI (fld 3 m k) := by
  rw [nIn_val n hk, (h k hk).2]
  split
  · rfl
  · rw [nI_pred]
/-! boards -/
def bOK (s : Nat) (l b : Int64) : Prop := l &&& b = 0 ∧ ∀ k, s ≤ k → bt l k = false ∧ bt b k = false
def RBoard (s : Nat) (b_l b_b b_n m_l m_b m_n : Int64) : Prop := b_l = m_l ∧ b_b = m_b ∧ nRel b_n m_n ∧ bOK s b_l b_b
def RText (t_n : Int32) (t_le : Nat → Int32) (m_le : Int32) (m_tx : Nat → Int32) : Prop := ∃ n : Nat, n ≤ 40 ∧ t_n = nI n ∧ m_le = nI n ∧ ∀ k, k < n → t_le k = m_tx k
def RPast (s : Nat) (p_nx p_sz : Int32) (pl pb pn : Nat → Int64) (m_un : Int32) (m_pa : Nat → Int64) : Prop := ∃ x u : Nat, x < 10 ∧ u ≤ 10 ∧ p_nx = nI x ∧ p_sz = nI u ∧ m_un = nI u ∧ ∀ i, i < u → RBoard s (pl ((x + 10 - u + i) % 10)) (pb ((x + 10 - u + i) % 10)) (pn ((x + 10 - u + i) % 10)) (m_pa (3 * i + 1)) (m_pa (3 * i + 2)) (m_pa (3 * i))
def RImg (s : Nat) (ik : Nat → Int32) (il ib im : Nat → Int64) (m_ik : Nat → Int32) (m_im : Nat → Int64) : Prop := ∀ i, i < 2 → (ik i = 1 ↔ ¬ m_ik i = 0) ∧ (ik i = 1 → RBoard s (il i) (ib i) (im i) (m_im (3 * i + 1)) (m_im (3 * i + 2)) (m_im (3 * i)))
theorem clampI {n : Nat} (h : n < 2 ^ 31) : (nI n).toNatClampNeg = n := nI_clamp h
theorem putL_val {x : Nat} {n : Nat} (v : Int64) (f : Nat → Int64) (hx : x < n) (hn : n < 2 ^ 31) : f_X7_put_ (nI x) v n f = vp_updL f x v := by
  unfold f_X7_put_
  rw [if_neg (nI_pos (by omega)), if_neg (nI_ge hx hn), nI_clamp (by omega)]
theorem putI_val {x : Nat} {n : Nat} (v : Int32) (f : Nat → Int32) (hx : x < n) (hn : n < 2 ^ 31) : f_X7_put (nI x) v n f = upd f x v := by
  unfold f_X7_put
  rw [if_neg (nI_pos (by omega)), if_neg (nI_ge hx hn), nI_clamp (by omega)]
theorem atL_val {x : Nat} {n : Nat} (f : Nat → Int64) (hx : x < n) (hn : n < 2 ^ 31) : f_X7_at_ (nI x) n f = f x := by
  unfold f_X7_at_
  rw [if_neg (nI_pos (by omega)), if_neg (nI_ge hx hn), nI_clamp (by omega)]
theorem atI_val {x : Nat} {n : Nat} (f : Nat → Int32) (hx : x < n) (hn : n < 2 ^ 31) : f_X7_at (nI x) n f = f x := by
  unfold f_X7_at
  rw [if_neg (nI_pos (by omega)), if_neg (nI_ge hx hn), nI_clamp (by omega)]
