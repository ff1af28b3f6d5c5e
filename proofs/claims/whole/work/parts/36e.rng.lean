/-! ranges, open sides, counts of numbers, the past -/
theorem in_val (a lo hi : Int64) : f_X8_in a lo hi = if lo.toInt ≤ a.toInt ∧ a.toInt ≤ hi.toInt then 1 else 0 := by
  unfold f_X8_in
  by_cases h1 : lg_cmp a lo < 0
  · rw [if_pos h1, if_neg]
    rw [lg_cmp_lt, Int64.lt_iff_toInt_lt] at h1
    omega
  · rw [if_neg h1]
    rw [lg_cmp_lt, Int64.lt_iff_toInt_lt] at h1
    by_cases h2 : 0 < lg_cmp a hi
    · rw [if_pos h2, if_neg]
      rw [lg_cmp_gt, Int64.lt_iff_toInt_lt] at h2
      omega
    · rw [if_neg h2, if_pos]
      rw [lg_cmp_gt, Int64.lt_iff_toInt_lt] at h2
      omega
theorem in_rng (p : Int32) {N : Nat} (h1 : 1 ≤ N) (h2 : N < 2 ^ 31) : f_X8_in p.toInt64 0 ((nI N - 1).toInt64) = if 0 ≤ p.toInt ∧ p.toInt < N then 1 else 0 := by
  rw [in_val, Int32.toInt_toInt64, Int32.toInt_toInt64]
  have e : (nI N - 1).toInt = (N : Int) - 1 := by
    rw [subT] <;> rw [nI_toInt h2, show (1 : Int32).toInt = 1 from rfl] <;> omega
  rw [e, show (0 : Int64).toInt = 0 from rfl]
  by_cases h : 0 ≤ p.toInt ∧ p.toInt < N
  · rw [if_pos h, if_pos (by omega)]
  · rw [if_neg h, if_neg (by omega)]
theorem has_rng (p : Int32) {N : Nat} (h2 : N < 2 ^ 31) : f_X4_hasCell p (nI N) = if 0 ≤ p.toInt ∧ p.toInt < N then 1 else 0 := by
  unfold f_X4_hasCell
  by_cases h : p < 0
  · rw [if_pos h, if_neg]
    rw [Int32.lt_iff_toInt_lt, Int32.toInt_zero] at h
    omega
  · rw [if_neg h]
    rw [Int32.lt_iff_toInt_lt, Int32.toInt_zero] at h
    by_cases h3 : nI N ≤ p
    · rw [if_pos h3, if_neg]
      rw [Int32.le_iff_toInt_le, nI_toInt h2] at h3
      omega
    · rw [if_neg h3, if_pos]
      rw [Int32.le_iff_toInt_le, nI_toInt h2] at h3
      omega
theorem hasS_rng (p : Int32) {N : Nat} (h2 : N < 2 ^ 31) : f_X4_hasSide p (nI N) = if 0 ≤ p.toInt ∧ p.toInt < N then 1 else 0 := has_rng p h2
theorem isCell_eq (p : Int32) {N : Nat} (h1 : 1 ≤ N) (h2 : N < 2 ^ 31) : f_X8_isCell p (nI N) = f_X4_hasCell p (nI N) := by rw [has_rng p h2]; exact in_rng p h1 h2
theorem isSide_eq (p : Int32) {N : Nat} (h1 : 1 ≤ N) (h2 : N < 2 ^ 31) : f_X8_isSide p (nI N) = f_X4_hasSide p (nI N) := by rw [hasS_rng p h2]; exact in_rng p h1 h2
theorem has_of {p : Int32} {N : Nat} (h2 : N < 2 ^ 31) (h : ¬ f_X4_hasCell p (nI N) = 0) : ∃ k, k < N ∧ p = nI k := by
  rw [has_rng p h2] at h
  by_cases q : 0 ≤ p.toInt ∧ p.toInt < N
  · exact nI_of_range q h2
  · rw [if_neg q] at h; exact absurd rfl h
theorem state_eq {l b : Int64} {k : Nat} (hk : k < 64) : f_X0_stateOf (nI k) l b = if f_X8_has l (nI k) = 0 then (if f_X8_has b (nI k) = 0 then 0 else 2) else 1 := by
  have key : ∀ x : Int64, (lg_cmp (x &&& f_X7_bit (nI k)) 0 = 0) ↔ (f_X8_has x (nI k) = 0) := by
    intro x
    rw [lg_cmp_eq, has_val x hk, f_X7_bit]
    constructor
    · intro h
      rw [and_one_0 hk h]; rfl
    · intro h
      have hb : bt x k = false := by
        by_cases q : bt x k = true
        · rw [if_pos q] at h; exact absurd h (by decide)
        · simpa using q
      apply bt_ext
      intro i _
      rw [bt_and, bt_one_shl hk, bt_zero]
      by_cases q : i = k
      · subst q; rw [hb]; rfl
      · simp [q]
  unfold f_X0_stateOf
  by_cases h1 : f_X8_has l (nI k) = 0
  · rw [if_pos ((key l).mpr h1), if_pos h1]
    by_cases h2 : f_X8_has b (nI k) = 0
    · rw [if_pos ((key b).mpr h2), if_pos h2]
    · rw [if_neg (fun q => h2 ((key b).mp q)), if_neg h2]
  · rw [if_neg (fun q => h1 ((key l).mp q)), if_neg h1]
theorem all_bit {s : Nat} (hs : s < 64) (k : Nat) : bt (f_X8_all (nI s)) k = decide (k < s) := by
  have e : tn (f_X8_all (nI s)) = 2 ^ s - 1 := by
    have e1 : tn (shlL 1 (nI s)) = 2 ^ s := by
      show (shlL 1 (nI s)).toBitVec.toNat = _
      rw [shlL_bv 1 hs, BitVec.toNat_shiftLeft]
      show 1 <<< s % 2 ^ 64 = 2 ^ s
      rw [Nat.shiftLeft_eq, Nat.one_mul, Nat.mod_eq_of_lt (Nat.pow_lt_pow_right (by decide) hs)]
    have hp : 0 < 2 ^ s := Nat.two_pow_pos s
    rw [f_X8_all, tn_sub _ _ (by rw [e1]; exact hp), e1]; rfl
  show (tn (f_X8_all (nI s))).testBit k = _
  rw [e, Nat.testBit_two_pow_sub_one]
theorem countP_sum {p q r t : Nat → Bool} : ∀ n : Nat, (∀ k, k < n → (p k).toNat + (q k).toNat + (r k).toNat = (t k).toNat) → (List.range n).countP p + (List.range n).countP q + (List.range n).countP r = (List.range n).countP t := by
  intro n
  induction n with
  | zero => intro _; rfl
  | succ n ih =>
    intro h
    have h1 := ih (fun k hk => h k (by omega))
    have h2 := h n (by omega)
    rw [List.range_succ]
    simp only [List.countP_append, List.countP_cons, List.countP_nil]
    revert h2
    cases p n <;> cases q n <;> cases r n <;> cases t n <;> simp <;> omega
theorem countP_lt {s : Nat} : ∀ n : Nat, (List.range n).countP (fun k => decide (k < s)) = min n s := by
  intro n
  induction n with
  | zero => simp
  | succ n ih =>
    rw [List.range_succ, List.countP_append, ih]
    by_cases h : n < s
    · simp [h]; omega
    · simp [h]; omega
theorem open_cnt {s : Nat} {l b : Int64} (hs : s ≤ 40) (h : bOK s l b) : f_X7_openSides (nI s) l b = f_X8_ones (f_X8_open (nI s) l b) := by
  rw [ones_cnt, f_X7_openSides, bc_cnt, bc_cnt]
  have e : cnt (f_X8_open (nI s) l b) + cnt l + cnt b = s := by
    have := countP_sum (p := fun k => bt (f_X8_open (nI s) l b) k) (q := fun k => bt l k) (r := fun k => bt b k) (t := fun k => decide (k < s)) 64 (fun k hk => by
      have h1 : bt (l &&& b) k = false := by rw [h.1, bt_zero]
      have h2 := h.2 k
      rw [bt_and] at h1
      simp only [f_X8_open, bt_and, bt_not _ hk, all_bit (show s < 64 by omega)]
      by_cases q : k < s
      · simp only [q, decide_true]
        revert h1
        cases bt l k <;> cases bt b k <;> simp
      · obtain ⟨g1, g2⟩ := h2 (by omega)
        simp [q, g1, g2])
    rw [countP_lt] at this
    show (List.range 64).countP _ + (List.range 64).countP _ + (List.range 64).countP _ = s
    rw [show min 64 s = s by omega] at this
    exact this
  rw [pk_sub (by omega), pk_sub (by omega)]
  congr 1
  omega
theorem numbered_eq {n m : Int64} (h : nRel n m) {N : Nat} (hN : N ≤ 16) {β : Type} (k : Int32 → β) : ∀ (f j : Nat) (x : Int32), j ≤ N → F_X7_cellsWithNumber_4 (nI N) n k f x (nI j) = F_X8_numbered_4 (nI N) m k f x (nI j) := by
  intro f
  induction f with
  | zero => intro j x _; rfl
  | succ f ih =>
    intro j x hjN
    rw [F_X7_cellsWithNumber_4, F_X8_numbered_4]
    by_cases hj : N ≤ j
    · rw [if_pos (nI_le hj (by omega)), if_pos (nI_le hj (by omega))]
    · have h1 := nRel_in h (show j < 16 by omega)
      have h2 := nAt_val m (show j < 16 by omega)
      have h3 := (h j (by omega)).1
      rw [if_neg (nI_ge (by omega) (by omega)), if_neg (nI_ge (by omega) (by omega)), f_X0_numberOf, h1, h2, nI_1]
      by_cases q : fld 3 m j = 5
      · rw [if_pos q, q, if_pos (by decide), if_pos (by decide), ih _ _ (by omega), show x + 0 = x from by simp]
      · rw [if_neg q, if_neg (nI_pos (by omega)), if_neg, ih _ _ (by omega)]
        exact nI_ge (b := 5) (by omega) (by decide)
/-! the past -/
theorem lit_le (c : Int32) (a : Nat) {b : Nat} (hc : c = nI a) (h : a ≤ b) (hb : b < 2 ^ 31) : c ≤ nI b := by rw [hc]; exact nI_le h hb
theorem lit_ne (c : Int32) (a : Nat) {b : Nat} (hc : c = nI a) (h : b ≠ a) (hb : b < 2 ^ 31) (ha : a < 2 ^ 31) : ¬ nI b = c := by rw [hc]; exact fun e => h ((nI_eq hb ha).mp e)
theorem lit_nle (c : Int32) (a : Nat) {b : Nat} (hc : c = nI a) (h : b < a) (ha : a < 2 ^ 31) : ¬ c ≤ nI b := by rw [hc]; exact nI_ge h ha
theorem F_minds_val {β : Type} (k : (Nat → Int64) → β) : ∀ (n j : Nat) (pa : Nat → Int64), j ≤ 27 → 27 < j + n → ∃ z : Nat → Int64, F_X8_minds_11 k n (nI j) pa = k z ∧ (∀ i, i < j → z i = pa i) ∧ ∀ i, j ≤ i → i < 27 → z i = pa (i + 3) := by
  intro n
  induction n with
  | zero => intro j pa h1 h2; exact absurd h2 (by omega)
  | succ n ih =>
    intro j pa h1 h2
    rw [F_X8_minds_11]
    by_cases hj : 27 ≤ j
    · rw [if_pos (lit_le 27 27 rfl hj (by omega))]
      exact ⟨pa, rfl, fun _ _ => rfl, fun i h3 h4 => absurd h4 (by omega)⟩
    · rw [if_neg (lit_nle 27 27 rfl (show j < 27 by omega) (by decide)), nI_1, show nI j + 3 = nI (j + 3) from nI_add j 3, nI_clamp (by omega), nI_clamp (by omega)]
      obtain ⟨z, e, g1, g2⟩ := ih (j + 1) (vp_updL pa j (pa (j + 3))) (by omega) (by omega)
      refine ⟨z, e, fun i hi => ?_, fun i hi hi2 => ?_⟩
      · rw [g1 i (by omega), pk_uLn (by omega)]
      · by_cases q : i = j
        · subst q
          rw [g1 i (by omega), pk_uLs]
        · rw [g2 i (by omega) hi2, pk_uLn (by omega)]
theorem upd3 {f : Nat → Int64} {k : Nat} {x y z : Int64} (i : Nat) : vp_updL (vp_updL (vp_updL f k x) (k + 1) y) (k + 2) z i = if i = k then x else if i = k + 1 then y else if i = k + 2 then z else f i := by
  unfold vp_updL
  by_cases h2 : i = k + 2
  · rw [if_pos h2, if_neg (by omega), if_neg (by omega), if_pos h2]
  · rw [if_neg h2, if_neg h2]
    by_cases h1 : i = k + 1
    · rw [if_pos h1, if_neg (by omega), if_pos h1]
    · rw [if_neg h1, if_neg h1]
theorem n3 {u : Nat} (hu : u < 1000) : (3 * nI u).toNatClampNeg = 3 * u ∧ (3 * nI u + 1).toNatClampNeg = 3 * u + 1 ∧ (3 * nI u + 2).toNatClampNeg = 3 * u + 2 := by
  have e : 3 * nI u = nI (3 * u) := pk_mul 3 u
  rw [e, show nI (3 * u) + 1 = nI (3 * u + 1) from nI_add _ 1, show nI (3 * u) + 2 = nI (3 * u + 2) from nI_add _ 2]
  exact ⟨nI_clamp (by omega), nI_clamp (by omega), nI_clamp (by omega)⟩
theorem past_sim {s : Nat} {p_nx p_sz m_un : Int32} {pl pb pn m_pa : Nat → Int64} {pk : Nat → Int32} {b_l b_b b_n m_l m_b m_n : Int64} (hP : RPast s p_nx p_sz pl pb pn m_un m_pa) (hB : RBoard s b_l b_b b_n m_l m_b m_n) :
    (f_X7_beforeChange p_nx p_sz b_l b_b b_n pk pl pb pn).1 = 0 ∧ RPast s (f_X7_beforeChange p_nx p_sz b_l b_b b_n pk pl pb pn).2.1 (f_X7_beforeChange p_nx p_sz b_l b_b b_n pk pl pb pn).2.2.1 (f_X7_beforeChange p_nx p_sz b_l b_b b_n pk pl pb pn).2.2.2.2.1 (f_X7_beforeChange p_nx p_sz b_l b_b b_n pk pl pb pn).2.2.2.2.2.1 (f_X7_beforeChange p_nx p_sz b_l b_b b_n pk pl pb pn).2.2.2.2.2.2 (f_X8_minds m_un m_n m_l m_b m_pa).1 (f_X8_minds m_un m_n m_l m_b m_pa).2 := by
  obtain ⟨x, u, hx, hu, rfl, rfl, rfl, h⟩ := hP
  have hst : f_X5_store (nI x) b_l b_b b_n pk pl pb pn = (upd pk x 1, vp_updL pl x b_l, vp_updL pb x b_b, vp_updL pn x b_n) := by
    rw [f_X5_store, putI_val _ _ hx (by decide), putL_val _ _ hx (by decide), putL_val _ _ hx (by decide), putL_val _ _ hx (by decide)]
  have hrem : f_X2_remember (nI x) (nI u) b_l b_b b_n pk pl pb pn = (nI ((x + 1) % 10), nI (if u = 10 then 10 else u + 1), upd pk x 1, vp_updL pl x b_l, vp_updL pb x b_b, vp_updL pn x b_n) := by
    rw [f_X2_remember, bd, hst, nI_1, nI_1]
    have e2 : minI (nI (u + 1)) 10 = nI (if u = 10 then 10 else u + 1) := by
      unfold minI
      by_cases q : u = 10
      · subst q; decide
      · rw [if_neg q, if_neg]
        exact nI_nlt (a := 10) (by omega) (by decide)
    rw [e2]
    by_cases q : 10 ≤ x + 1
    · rw [if_pos (lit_le 10 10 rfl q (by omega)), show (x + 1) % 10 = 0 by omega]; rfl
    · rw [if_neg (lit_nle 10 10 rfl (show x + 1 < 10 by omega) (by decide)), Nat.mod_eq_of_lt (by omega)]
  rw [f_X7_beforeChange, bd, hrem]
  refine ⟨rfl, (x + 1) % 10, if u = 10 then 10 else u + 1, by omega, by split <;> omega, rfl, rfl, ?_, ?_⟩
  · unfold f_X8_minds
    by_cases q : u = 10
    · subst q
      rw [if_pos rfl, if_pos (show nI 10 = 10 from rfl)]
      obtain ⟨z, e, -⟩ := F_minds_val (fun z1 => ((nI 10 - 1) + 1, vp_updL (vp_updL (vp_updL z1 (3 * (nI 10 - 1)).toNatClampNeg m_n) ((3 * (nI 10 - 1)) + 1).toNatClampNeg m_l) ((3 * (nI 10 - 1)) + 2).toNatClampNeg m_b)) (fu 27 (0 : Int32)) 0 m_pa (by omega) (by decide)
      rw [show nI 0 = 0 from rfl] at e
      rw [e]
      show nI 10 - 1 + 1 = nI 10
      decide
    · rw [if_neg q, if_neg (lit_ne 10 10 rfl q (by omega) (by decide)), nI_1]
  · intro i hi
    unfold f_X8_minds
    by_cases q : u = 10
    · subst q
      rw [if_pos rfl] at hi ⊢
      rw [if_pos (show nI 10 = 10 from rfl)]
      obtain ⟨z, e, -, g⟩ := F_minds_val (fun z1 => ((nI 10 - 1) + 1, vp_updL (vp_updL (vp_updL z1 (3 * (nI 10 - 1)).toNatClampNeg m_n) ((3 * (nI 10 - 1)) + 1).toNatClampNeg m_l) ((3 * (nI 10 - 1)) + 2).toNatClampNeg m_b)) (fu 27 (0 : Int32)) 0 m_pa (by omega) (by decide)
      rw [show nI 0 = 0 from rfl] at e
      rw [e]
      have e9 : nI 10 - 1 = nI 9 := nI_pred 9
      have n9 := n3 (u := 9) (by decide)
      simp only [e9, n9.1, n9.2.1, n9.2.2]
      show RBoard s (vp_updL pl x b_l _) (vp_updL pb x b_b _) (vp_updL pn x b_n _) (vp_updL (vp_updL (vp_updL z (3 * 9) m_n) (3 * 9 + 1) m_l) (3 * 9 + 2) m_b _) (vp_updL (vp_updL (vp_updL z (3 * 9) m_n) (3 * 9 + 1) m_l) (3 * 9 + 2) m_b _) (vp_updL (vp_updL (vp_updL z (3 * 9) m_n) (3 * 9 + 1) m_l) (3 * 9 + 2) m_b _)
      rw [upd3, upd3, upd3]
      by_cases q9 : i = 9
      · subst q9
        have ex : ((x + 1) % 10 + 10 - 10 + 9) % 10 = x := by omega
        rw [ex, pk_uLs, pk_uLs, pk_uLs]
        exact hB
      · have hne : ((x + 1) % 10 + 10 - 10 + i) % 10 ≠ x := by omega
        rw [pk_uLn hne, pk_uLn hne, pk_uLn hne]
        rw [if_neg (by omega), if_neg (by omega), if_neg (by omega), if_neg (by omega), if_neg (by omega), if_neg (by omega), if_neg (by omega), if_neg (by omega), if_neg (by omega)]
        rw [g _ (by omega) (by omega), g _ (by omega) (by omega), g _ (by omega) (by omega)]
        have := h (i + 1) (by omega)
        rw [show (x + 10 - 10 + (i + 1)) % 10 = ((x + 1) % 10 + 10 - 10 + i) % 10 by omega] at this
        exact this
    · rw [if_neg q] at hi ⊢
      rw [if_neg (lit_ne 10 10 rfl q (by omega) (by decide))]
      have nu := n3 (u := u) (by omega)
      rw [nu.1, nu.2.1, nu.2.2]
      show RBoard s (vp_updL pl x b_l _) (vp_updL pb x b_b _) (vp_updL pn x b_n _) (vp_updL (vp_updL (vp_updL m_pa (3 * u) m_n) (3 * u + 1) m_l) (3 * u + 2) m_b _) (vp_updL (vp_updL (vp_updL m_pa (3 * u) m_n) (3 * u + 1) m_l) (3 * u + 2) m_b _) (vp_updL (vp_updL (vp_updL m_pa (3 * u) m_n) (3 * u + 1) m_l) (3 * u + 2) m_b _)
      rw [upd3, upd3, upd3]
      by_cases qu : i = u
      · subst qu
        have ex : ((x + 1) % 10 + 10 - (i + 1) + i) % 10 = x := by omega
        rw [ex, pk_uLs, pk_uLs, pk_uLs, if_neg (by omega), if_pos rfl, if_neg (by omega), if_neg (by omega), if_pos rfl, if_pos rfl]
        exact hB
      · have hne : ((x + 1) % 10 + 10 - (u + 1) + i) % 10 ≠ x := by omega
        rw [pk_uLn hne, pk_uLn hne, pk_uLn hne]
        rw [if_neg (by omega), if_neg (by omega), if_neg (by omega), if_neg (by omega), if_neg (by omega), if_neg (by omega), if_neg (by omega), if_neg (by omega), if_neg (by omega)]
        have := h i (by omega)
        rw [show (x + 10 - u + i) % 10 = ((x + 1) % 10 + 10 - (u + 1) + i) % 10 by omega] at this
        exact this
