/-! bits of longs -/
def bt (x : Int64) (k : Nat) : Bool := x.toBitVec.getLsbD k
theorem bt_ext {x y : Int64} (h : ∀ k, k < 64 → bt x k = bt y k) : x = y := Int64.toBitVec_inj.mp (BitVec.eq_of_getLsbD_eq h)
theorem bt_and (x y : Int64) (k : Nat) : bt (x &&& y) k = (bt x k && bt y k) := by simp [bt]
theorem bt_or (x y : Int64) (k : Nat) : bt (x ||| y) k = (bt x k || bt y k) := by simp [bt]
theorem bt_xor (x y : Int64) (k : Nat) : bt (x ^^^ y) k = (bt x k ^^ bt y k) := by simp [bt]
theorem bt_zero (k : Nat) : bt 0 k = false := by simp [bt]
theorem bt_m1 {k : Nat} (h : k < 64) : bt (-1) k = true := by
  show (-1 : Int64).toBitVec.getLsbD k = true
  rw [show (-1 : Int64).toBitVec = BitVec.allOnes 64 by decide, BitVec.getLsbD_allOnes]
  exact decide_eq_true h
theorem bt_not (x : Int64) {k : Nat} (h : k < 64) : bt (x ^^^ (-1)) k = !bt x k := by rw [bt_xor, bt_m1 h]; simp
theorem bt_out (x : Int64) {k : Nat} (h : 64 ≤ k) : bt x k = false := by simp only [bt]; exact BitVec.getLsbD_of_ge _ _ h
theorem sh_amt : ∀ k : Fin 64, (((nI k.val).toInt64 &&& 63).toBitVec.smod 64).toNat = k.val := by decide +kernel
theorem shlL_bv (x : Int64) {j : Nat} (hj : j < 64) : (shlL x (nI j)).toBitVec = x.toBitVec <<< j := by
  show x.toBitVec <<< (((nI j).toInt64 &&& 63).toBitVec.smod 64) = _
  rw [BitVec.shiftLeft_eq', sh_amt ⟨j, hj⟩]
theorem shrL_bv (x : Int64) {j : Nat} (hj : j < 64) : (shrL x (nI j)).toBitVec = x.toBitVec.sshiftRight j := by
  show BitVec.sshiftRight' x.toBitVec (((nI j).toInt64 &&& 63).toBitVec.smod 64) = _
  rw [BitVec.sshiftRight', sh_amt ⟨j, hj⟩]
theorem bt_shl (x : Int64) {j : Nat} (hj : j < 64) (k : Nat) : bt (shlL x (nI j)) k = (decide (k < 64) && !decide (k < j) && bt x (k - j)) := by
  rw [bt, shlL_bv x hj, BitVec.getLsbD_shiftLeft]; rfl
theorem bt_one (k : Nat) : bt 1 k = decide (k = 0) := by
  show (1 : Int64).toBitVec.getLsbD k = _
  rw [show (1 : Int64).toBitVec = 1#64 by decide]
  simp
theorem bt_one_shl {j : Nat} (hj : j < 64) (k : Nat) : bt (shlL 1 (nI j)) k = decide (k = j) := by
  rw [bt_shl 1 hj, bt_one]
  by_cases h : k = j
  · subst h; simp [hj]
  · by_cases h1 : k < j
    · simp [h1, h]
    · have : k - j ≠ 0 := by omega
      simp [h, this]
theorem bt_shr0 (x : Int64) {j : Nat} (hj : j < 64) : bt (shrL x (nI j)) 0 = bt x j := by
  rw [bt, shrL_bv x hj, BitVec.getLsbD_sshiftRight]
  simp [hj, bt]
theorem and1_iff (y : Int64) : (y &&& 1 = 1) ↔ bt y 0 = true := by
  constructor
  · intro h
    have h1 : bt (y &&& 1) 0 = true := by rw [h, bt_one]; rfl
    rw [bt_and] at h1
    exact (Bool.and_eq_true _ _ ▸ h1).1
  · intro h
    apply bt_ext
    intro k hk
    rw [bt_and, bt_one]
    by_cases q : k = 0
    · subst q; simp [h]
    · simp [q]
theorem has_val (x : Int64) {j : Nat} (hj : j < 64) : f_X8_has x (nI j) = if bt x j = true then 1 else 0 := by
  unfold f_X8_has
  by_cases h : bt x j = true
  · rw [if_pos h, if_pos]
    rw [lg_cmp_eq, and1_iff, bt_shr0 x hj]
    exact h
  · rw [if_neg h, if_neg]
    rw [lg_cmp_eq, and1_iff, bt_shr0 x hj]
    exact h
theorem ne0_of_bt {x : Int64} {k : Nat} (h : bt x k = true) : x ≠ 0 := by
  intro q
  rw [q, bt_zero] at h
  cases h
theorem nI_of_range {x : Int32} {n : Nat} (h : 0 ≤ x.toInt ∧ x.toInt < n) (hn : n < 2 ^ 31) : ∃ j, j < n ∧ x = nI j := by
  obtain ⟨j, hj, e⟩ := i32_of (x := x) (n := n - 1) h.1 (by omega) (by omega)
  exact ⟨j, by omega, e⟩
/-! what a hint's sides are -/
abbrev hI (hi : Int32) (hs l b : Int64) : Prop := (hi = 1 ∨ hi = 2) → hs ≠ 0 ∧ hs &&& (l ||| b) = 0
theorem open_dj (m l b : Int64) (s : Int32) : (m &&& f_X8_open s l b) &&& (l ||| b) = 0 := by
  apply bt_ext
  intro k hk
  rw [f_X8_open]
  simp only [bt_and, bt_or, bt_not _ hk, bt_zero]
  cases bt l k <;> cases bt b k <;> simp
theorem one_dj {l b : Int64} {j : Nat} (hj : j < 64) (h : bt (l ||| b) j = false) : shlL 1 (nI j) &&& (l ||| b) = 0 := by
  apply bt_ext
  intro k hk
  rw [bt_and, bt_one_shl hj, bt_zero]
  by_cases q : k = j
  · subst q; simp [h]
  · simp [q]
theorem one_ne {j : Nat} (hj : j < 64) : shlL 1 (nI j) ≠ 0 := ne0_of_bt (k := j) (by rw [bt_one_shl hj]; simp)
theorem ones_0 : f_X8_ones 0 = 0 := by decide +kernel
theorem ones_ne {x : Int64} (h : ¬ f_X8_ones x = 0) : x ≠ 0 := fun q => h (by rw [q]; exact ones_0)
theorem finds_i {r p i : Int32} {s l b : Int64} {u : Int32 × Int32 × Int32 × Int32 × Int64} (h : f_X8_finds r p i s = u) (hs : (i = 1 ∨ i = 2) → s ≠ 0 ∧ s &&& (l ||| b) = 0) : hI u.2.1 u.2.2.2.2 l b := by
  subst h
  unfold f_X8_finds
  by_cases h3 : i = 3
  · subst h3
    rw [if_pos rfl, if_neg (by decide)]
    intro q
    rcases q with q | q <;> exact absurd (show (3 : Int32) = _ from q) (by decide)
  · rw [if_neg h3]
    by_cases h0 : i = 0
    · rw [if_pos h0]; exact hs
    · rw [if_neg h0]; exact hs
theorem finds_ns {r p i : Int32} {s l b : Int64} (hi : ¬ (i = 1 ∨ i = 2)) : hI (f_X8_finds r p i s).2.1 (f_X8_finds r p i s).2.2.2.2 l b := finds_i rfl (fun q => absurd q hi)
