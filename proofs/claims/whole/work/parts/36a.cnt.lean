/-! counts of bits: cnt; Kernighan's loop and the JDK's bitCount both tell it; the lowest bit -/
def cntN (n m : Nat) : Nat := (List.range m).countP (fun k => n.testBit k)
def cnt (x : Int64) : Nat := cntN x.toBitVec.toNat 64
theorem bt_nat (x : Int64) (k : Nat) : bt x k = x.toBitVec.toNat.testBit k := rfl
theorem countP_one {p q : Nat → Bool} {t : Nat} : ∀ n : Nat, t < n → p t = true → q t = false → (∀ k, k < n → k ≠ t → p k = q k) → (List.range n).countP p = (List.range n).countP q + 1 := by
  intro n
  induction n with
  | zero => intro h; exact absurd h (Nat.not_lt_zero _)
  | succ n ih =>
    intro ht hp hq he
    rw [List.range_succ, List.countP_append, List.countP_append]
    by_cases h : t = n
    · subst h
      have e : (List.range t).countP p = (List.range t).countP q := by
        apply List.countP_congr
        intro k hk
        have hk2 := List.mem_range.mp hk
        rw [he k (by omega) (by omega)]
      rw [e]
      simp [hp, hq]
    · have e := ih (by omega) hp hq (fun k hk hne => he k (by omega) hne)
      rw [e]
      have e2 : p n = q n := he n (by omega) (fun q => h q.symm)
      simp only [List.countP_cons, List.countP_nil, e2]
      omega
/-- the lowest bit t of n, and n less 1 -/
theorem low_nat {n : Nat} (h : n ≠ 0) : ∃ t, n.testBit t = true ∧ (∀ j, j < t → n.testBit j = false) ∧ ∀ k, (n - 1).testBit k = if k < t then true else if k = t then false else n.testBit k := by
  obtain ⟨i, hi⟩ := Nat.exists_testBit_of_ne_zero h
  obtain ⟨t, ht, hl⟩ := pk_least (fun k => n.testBit k = true) ⟨i, hi⟩
  have hl2 : ∀ j, j < t → n.testBit j = false := fun j hj => by simpa using hl j hj
  refine ⟨t, ht, hl2, ?_⟩
  have h0 : n % 2 ^ t = 0 := by
    apply Nat.eq_of_testBit_eq
    intro j
    rw [Nat.testBit_mod_two_pow]
    by_cases hj : j < t
    · simp [hj, hl2 j hj]
    · simp [hj]
  have h1 : (n / 2 ^ t) % 2 = 1 := by
    have := ht
    rw [Nat.testBit_eq_decide_div_mod_eq] at this
    simpa using this
  have e : n = 2 ^ (t + 1) * (n / 2 ^ t / 2) + 2 ^ t := by
    have a := Nat.div_add_mod n (2 ^ t)
    have b := Nat.div_add_mod (n / 2 ^ t) 2
    rw [h0] at a
    rw [h1] at b
    have c : 2 ^ t * (2 * (n / 2 ^ t / 2) + 1) = n := by rw [b]; omega
    rw [Nat.mul_add, ← Nat.mul_assoc] at c
    rw [Nat.pow_succ]
    omega
  have hp : 0 < 2 ^ t := Nat.two_pow_pos t
  have e1 : n - 1 = 2 ^ (t + 1) * (n / 2 ^ t / 2) + (2 ^ t - 1) := by omega
  have lt1 : 2 ^ t < 2 ^ (t + 1) := Nat.pow_lt_pow_right (by decide) (by omega)
  intro k
  rw [e1, Nat.testBit_two_pow_mul_add _ (by omega)]
  by_cases hk : k < t
  · rw [if_pos (by omega), if_pos hk, Nat.testBit_two_pow_sub_one]
    simpa using hk
  · by_cases hk2 : k = t
    · subst hk2
      rw [if_pos (by omega), if_neg hk, if_pos rfl, Nat.testBit_two_pow_sub_one]
      simp
    · rw [if_neg (by omega), if_neg hk, if_neg hk2]
      conv => rhs; rw [e]
      rw [Nat.testBit_two_pow_mul_add _ lt1, if_neg (by omega)]
theorem ne0_nat {x : Int64} (h : x ≠ 0) : x.toBitVec.toNat ≠ 0 := fun q => h (Int64.toBitVec_inj.mp (BitVec.eq_of_toNat_eq (by simpa using q)))
theorem sub1_nat {x : Int64} (h : x ≠ 0) : (x - 1).toBitVec.toNat = x.toBitVec.toNat - 1 := by
  have h0 := ne0_nat h
  have hl := x.toBitVec.isLt
  rw [Int64.toBitVec_sub, BitVec.toNat_sub]
  show (2 ^ 64 - 1 + x.toBitVec.toNat) % 2 ^ 64 = _
  omega
theorem low_bit {x : Int64} (h : x ≠ 0) : ∃ t, t < 64 ∧ bt x t = true ∧ (∀ j, j < t → bt x j = false) ∧ ∀ k, bt (x - 1) k = if k < t then true else if k = t then false else bt x k := by
  obtain ⟨t, h1, h2, h3⟩ := low_nat (ne0_nat h)
  refine ⟨t, ?_, h1, h2, fun k => by rw [bt_nat, sub1_nat h, h3 k]; rfl⟩
  rcases Nat.lt_or_ge t 64 with q | q
  · exact q
  · have := bt_out x q
    rw [bt_nat, h1] at this
    cases this
theorem cnt_low {x : Int64} (h : x ≠ 0) : cnt x = cnt (x &&& (x - 1)) + 1 := by
  obtain ⟨t, h1, h2, h3, h4⟩ := low_bit h
  refine countP_one (t := t) 64 h1 h2 ?_ ?_
  · show bt (x &&& (x - 1)) t = false
    rw [bt_and, h4 t]
    simp
  · intro k hk hne
    show bt x k = bt (x &&& (x - 1)) k
    rw [bt_and, h4 k]
    by_cases q : k < t
    · rw [h3 k q]; simp
    · simp [q, hne]
theorem cnt_0 : cnt 0 = 0 := by decide
theorem F_ones_val {β : Type} (k : Int32 → β) : ∀ (n c : Nat) (x : Int64), x.toBitVec.toNat < n → F_X8_ones_4 k n (nI c) x = k (nI (c + cnt x)) := by
  intro n
  induction n with
  | zero => intro c x h; exact absurd h (Nat.not_lt_zero _)
  | succ n ih =>
    intro c x h
    rw [F_X8_ones_4]
    split
    · rename_i hz
      rw [lg_cmp_eq] at hz
      rw [hz, cnt_0]; rfl
    · rename_i hz
      have hs := on_s (n := n) ⟨Nat.succ_pos _, h⟩ hz
      rw [nI_1, ih (c + 1) _ hs.2, cnt_low (lgz hz)]
      congr 2
      omega
theorem ones_cnt (x : Int64) : f_X8_ones x = nI (cnt x) := by
  rw [f_X8_ones, show (0 : Int32) = nI 0 from rfl, F_ones_val (fun z1 => z1) _ 0 x (Nat.lt_succ_self _)]
  simp
theorem cnt_le (x : Int64) : cnt x ≤ 64 := by
  have := List.countP_le_length (p := fun k => x.toBitVec.toNat.testBit k) (l := List.range 64)
  simpa [cnt, cntN] using this
