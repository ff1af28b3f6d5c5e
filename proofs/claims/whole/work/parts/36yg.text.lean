/-! reading: the class and the model read the same -/
theorem or_setF {m : Int64} {k : Nat} (hk : k < 16) (h : fld 3 m k = 0) (V : Int64) : m ||| shlL V (nI (3 * k)) = setF 3 m k V := by
  have e : m &&& ((shlL (lN (2 ^ 3 - 1)) (nI (3 * k))) ^^^ (-1)) = m := bt_ext (fun i hi => by
    rw [bt_and, bt_not _ hi, bt_shl _ (show 3 * k < 64 by omega), decide_eq_true hi]
    by_cases z : i < 3 * k
    · simp [z]
    · by_cases y : i < 3 * k + 3
      · have hb : bt m i = false := by
          have := fld_bit 3 m k (i - 3 * k)
          rw [h, Nat.zero_testBit, decide_eq_true (show i - 3 * k < 3 by omega), Bool.true_and, show 3 * k + (i - 3 * k) = i by omega] at this
          exact this.symm
        rw [hb]; simp
      · have hb : bt (lN (2 ^ 3 - 1)) (i - 3 * k) = false := by
          rw [bt_lN _ (by omega), Nat.testBit_two_pow_sub_one]
          simp; omega
        rw [hb]; simp)
  rw [setF, e]
def NR (c : Nat) (t m : Int64) : Prop := ∀ k, k < 16 → (k < c → fld 3 m k ≤ 5 ∧ fld 4 t k = if fld 3 m k = 5 then 0 else fld 3 m k + 1) ∧ (c ≤ k → fld 3 m k = 0 ∧ fld 4 t k = 0)
theorem NR_set {c v : Nat} {t m : Int64} (h : NR c t m) (hc : c < 16) (hv : v ≤ 5) : NR (c + 1) (setF 4 t c (lN (if v = 5 then 0 else v + 1))) (m ||| shlL (lN v) (nI (3 * c))) := by
  rw [or_setF hc ((h c hc).2 (Nat.le_refl c)).1]
  intro k hk
  have hv2 : (if v = 5 then 0 else v + 1) < 2 ^ 4 := by split <;> omega
  rw [fld_set m (by omega) (by omega) (show v < 2 ^ 3 by omega) (by decide), fld_set t (by omega) (by omega) hv2 (by decide)]
  by_cases e : k = c
  · rw [if_pos e, if_pos e]
    exact ⟨fun _ => ⟨hv, rfl⟩, fun z => absurd z (by omega)⟩
  · rw [if_neg e, if_neg e]
    exact ⟨fun z => (h k hk).1 (by omega), fun z => (h k hk).2 (by omega)⟩
theorem NR_5 {c : Nat} {t m : Int64} (h : NR c t m) (hc : c < 16) : NR (c + 1) t (m ||| shlL 5 (nI (3 * c))) := by
  have h0 := (h c hc).2 (Nat.le_refl c)
  rw [or_setF hc h0.1, show (5 : Int64) = lN 5 from rfl]
  intro k hk
  rw [fld_set m (by omega) (by omega) (show 5 < 2 ^ 3 by omega) (by decide)]
  by_cases e : k = c
  · rw [if_pos e, e]
    exact ⟨fun _ => ⟨by omega, h0.2⟩, fun z => absurd z (by omega)⟩
  · rw [if_neg e]
    exact ⟨fun z => (h k hk).1 (by omega), fun z => (h k hk).2 (by omega)⟩
theorem F_g48 {t : Int64} {β : Type} (k : Int64 → β) : ∀ (f j : Nat) (m : Int64), j ≤ 16 → 16 < j + f → NR j t m → ∃ m', F_X8_grid_48 k f (nI j) m = k m' ∧ nRel t m' := by
  intro f
  induction f with
  | zero => intro j m h1 h2; exact absurd h2 (by omega)
  | succ f ih =>
    intro j m h1 h2 h
    rw [F_X8_grid_48]
    by_cases q : 16 ≤ j
    · rw [if_pos (lit_le 16 16 rfl q (by omega))]
      exact ⟨m, rfl, fun i hi => (h i hi).1 (by omega)⟩
    · rw [if_neg (lit_nle 16 16 rfl (by omega) (by decide)), nI_1 j, show (3 : Int32) = nI 3 from rfl, pk_mul]
      exact ih (j + 1) _ (by omega) (by omega) (NR_5 h (by omega))
/-- a sign's number, 5 for none -/
def sg (v : Int32) (d : Nat) : Prop := (v = 46 ∧ d = 5) ∨ (d < 5 ∧ v = nI (48 + d))
theorem sg_or (v : Int32) : (∃ d, d ≤ 5 ∧ sg v d) ∨ (f_X6_numberOfSign v = -2 ∧ ¬ v = 46 ∧ f_X8_in v.toInt64 48 52 = 0) := by
  have ei : f_X8_in v.toInt64 48 52 = if 48 ≤ v.toInt ∧ v.toInt ≤ 52 then 1 else 0 := by rw [in_val, Int32.toInt_toInt64]; rfl
  by_cases q : v = 46
  · exact Or.inl ⟨5, by omega, Or.inl ⟨q, rfl⟩⟩
  · by_cases h : 48 ≤ v.toInt ∧ v.toInt ≤ 52
    · obtain ⟨j, hj, e⟩ := i32_of (x := v) (n := 52) (by omega) (by omega) (by decide)
      have : v.toInt = j := by rw [e, nI_toInt (by omega)]
      exact Or.inl ⟨j - 48, by omega, Or.inr ⟨by omega, by rw [e]; congr 1; omega⟩⟩
    · rw [if_neg h] at ei
      refine Or.inr ⟨?_, q, ei⟩
      rw [f_X6_numberOfSign, if_neg q]
      by_cases z : v < 48
      · rw [if_pos z]
      · rw [if_neg z, if_pos]
        rw [Int32.lt_iff_toInt_lt, show (48 : Int32).toInt = 48 from rfl] at z
        rw [Int32.lt_iff_toInt_lt, show (52 : Int32).toInt = 52 from rfl]
        omega
theorem d5_all : ∀ d : Fin 5, f_X6_numberOfSign (nI (48 + d.val)) = nI d.val ∧ ¬ nI (48 + d.val) = 46 ∧ ¬ nI (48 + d.val) = 59 ∧ ¬ nI (48 + d.val) = 32 ∧ ¬ f_X8_in (nI (48 + d.val)).toInt64 48 52 = 0 ∧ nI (48 + d.val) - 48 = nI d.val ∧ ¬ nI d.val = -2 := by decide +kernel
theorem sg_59 {v : Int32} {d : Nat} (h : sg v d) : ¬ v = 59 ∧ ¬ v = 32 ∧ ¬ f_X6_numberOfSign v = -2 := by
  rcases h with ⟨rfl, _⟩ | ⟨hd, rfl⟩
  · decide
  · obtain ⟨x1, x2, x3, x4, x5, x6, x7⟩ := d5_all ⟨d, hd⟩
    exact ⟨x3, x4, by rw [x1]; exact x7⟩
theorem sg_with {v : Int32} {d c : Nat} (h : sg v d) (hc : c < 16) (t : Int64) : f_X0_withNumber t (nI c) (f_X6_numberOfSign v) = setF 4 t c (lN (if d = 5 then 0 else d + 1)) := by
  rcases h with ⟨rfl, rfl⟩ | ⟨hd, rfl⟩
  · rw [if_pos rfl, show f_X6_numberOfSign 46 = -1 by decide]
    exact withNumber_set t (-1) hc (by decide) (by omega)
  · rw [if_neg (by omega), (d5_all ⟨d, hd⟩).1]
    exact withNumber_set t (nI d) hc (nI_1 d) (by omega)
theorem sg_sum {v : Int32} {d : Nat} (h : sg v d) {α : Type} (g : Int64 → α) : (if v = 46 then g 5 else g ((v - 48).toInt64)) = g (lN d) := by
  rcases h with ⟨rfl, rfl⟩ | ⟨hd, rfl⟩
  · rw [if_pos rfl]; rfl
  · obtain ⟨x1, x2, x3, x4, x5, x6, x7⟩ := d5_all ⟨d, hd⟩
    simp only at x2 x6
    rw [if_neg x2, x6, nI_l (by omega)]
theorem isSg {n i : Nat} {tx : Nat → Int32} {d : Nat} (hi : i < n) (hn : n ≤ 40) (h32 : ¬ tx i = 32) (h : sg (tx i) d) : f_X8_isSign (nI n) (nI i) tx = (1, nI i) := by
  rw [f_X8_isSign, im_at (nI_ge (by omega) (by omega)) (by rw [nI_clamp (by omega)]; exact h32), bd]
  show (if (1 : Int32) = 0 then _ else _) = _
  rw [if_neg (by decide), nI_clamp (by omega)]
  rcases h with ⟨e, _⟩ | ⟨hd, e⟩
  · rw [e, if_pos (show f_X8_in (46 : Int32).toInt64 48 52 = 0 by decide), if_pos rfl]
  · obtain ⟨x1, x2, x3, x4, x5, x6, x7⟩ := d5_all ⟨d, hd⟩
    rw [e, if_neg x5]
theorem notSg {n i : Nat} {tx : Nat → Int32} (hi : i < n) (hn : n ≤ 40) (h32 : ¬ tx i = 32) (h : ¬ tx i = 46 ∧ f_X8_in (tx i).toInt64 48 52 = 0) : f_X8_isSign (nI n) (nI i) tx = (0, nI i) := by
  rw [f_X8_isSign, im_at (nI_ge (by omega) (by omega)) (by rw [nI_clamp (by omega)]; exact h32), bd]
  show (if (1 : Int32) = 0 then _ else _) = _
  rw [if_neg (by decide), nI_clamp (by omega), if_pos h.2, if_neg h.1]
theorem fuNI {n i : Nat} (hn : n < 2 ^ 31) (hi : i ≤ n) : fu (nI n) (nI i) = n - i + 1 := by
  unfold fu
  rw [nI_toInt (by omega), nI_toInt (by omega)]
  omega
theorem im_end {n : Nat} (hn : n ≤ 40) (tx : Nat → Int32) : f_X8_isMore (nI n) (nI n) tx = (0, nI n) := by
  rw [f_X8_isMore, fuNI (by omega) (Nat.le_refl n), F_X8_isMore_0, if_pos (nI_le (Nat.le_refl n) (by omega)), if_pos (nI_le (Nat.le_refl n) (by omega))]
theorem im_skip {n i : Nat} (hn : n ≤ 40) (hi : i < n) {tx : Nat → Int32} (h : tx i = 32) : f_X8_isMore (nI n) (nI i) tx = f_X8_isMore (nI n) (nI (i + 1)) tx := by
  rw [f_X8_isMore, f_X8_isMore, fuNI (by omega) (by omega), fuNI (by omega) (by omega), show n - i + 1 = (n - (i + 1) + 1) + 1 by omega, F_X8_isMore_0, if_neg (nI_ge (by omega) (by omega)), nI_clamp (by omega), if_pos h, nI_1]
theorem sig_skip {n i : Nat} (hn : n ≤ 40) {j : Nat} {tx : Nat → Int32} (h : f_X8_isMore (nI n) (nI i) tx = f_X8_isMore (nI n) (nI j) tx) : f_X8_isSign (nI n) (nI i) tx = f_X8_isSign (nI n) (nI j) tx := by
  rw [f_X8_isSign, f_X8_isSign, h]
/-- what the class does from a place on -/
abbrev Cs (n : Nat) (le : Nat → Int32) (f c x i r w : Nat) (t : Int64) : Int32 × Int32 × Int32 × Int64 := F_X6_read_21 (nI n) le (fun z1 z2 z3 z4 => (if z2 = 0 then (nI n, z2, z3, z4) else (if z1 ≤ 0 then ((-1), z2, z3, z4) else (nI n, z2, z3, z4)))) (fun z5 z6 z7 z8 => (z5, z6, z7, z8)) f (nI c) (nI x) (nI i) (nI r) (nI w) t
theorem Cs_skip {n : Nat} (hn : n ≤ 40) {le tx : Nat → Int32} (hT : ∀ k, k < n → le k = tx k) : ∀ (d i f : Nat), i + d = n → n < i + f → ∃ i' f', i ≤ i' ∧ i' ≤ n ∧ n < i' + f' ∧ (i' = n ∨ ¬ tx i' = 32) ∧ f_X8_isMore (nI n) (nI i) tx = f_X8_isMore (nI n) (nI i') tx ∧ ∀ c x r w t, Cs n le f c x i r w t = Cs n le f' c x i' r w t := by
  intro d
  induction d with
  | zero =>
    intro i f h1 h2
    exact ⟨i, f, Nat.le_refl _, by omega, h2, Or.inl (by omega), rfl, fun _ _ _ _ _ => rfl⟩
  | succ d ih =>
    intro i f h1 h2
    by_cases q : tx i = 32
    · obtain ⟨i', f', g1, g2, g3, g4, g5, g6⟩ := ih (i + 1) (f - 1) (by omega) (by omega)
      refine ⟨i', f', by omega, g2, g3, g4, (im_skip hn (by omega) q).trans g5, fun c x r w t => ?_⟩
      rw [← g6]
      obtain ⟨f, rfl⟩ : ∃ g, f = g + 1 := ⟨f - 1, by omega⟩
      show F_X6_read_21 _ _ _ _ _ _ _ _ _ _ _ = _
      rw [F_X6_read_21, if_neg (nI_ge (by omega) (by omega)), atI_val _ (show i < 40 by omega) (by decide), hT i (by omega), if_pos q, nI_1]
      rfl
    · exact ⟨i, f, Nat.le_refl _, by omega, h2, Or.inr q, rfl, fun _ _ _ _ _ => rfl⟩
theorem Cs_end {n : Nat} (hn : n ≤ 40) {le : Nat → Int32} {f c x r w : Nat} {t : Int64} : Cs n le (f + 1) c x n r w t = (if nI r = 0 then (nI n, nI r, nI w, t) else (if nI x ≤ 0 then ((-1), nI r, nI w, t) else (nI n, nI r, nI w, t))) := by
  show F_X6_read_21 _ _ _ _ _ _ _ _ _ _ _ = _
  rw [F_X6_read_21, if_pos (nI_le (Nat.le_refl n) (by omega))]
theorem Cs_sign {n : Nat} (hn : n ≤ 40) {le tx : Nat → Int32} (hT : ∀ k, k < n → le k = tx k) {f c x i r w d : Nat} {t : Int64} (hi : i < n) (hc : c < 16) (h : sg (tx i) d) (hf : ¬ f_X6_fitsRow (nI x) (nI r) (nI w) = 0) : Cs n le (f + 1) c x i r w t = Cs n le f (c + 1) (x + 1) (i + 1) r w (setF 4 t c (lN (if d = 5 then 0 else d + 1))) := by
  obtain ⟨h1, h2, h3⟩ := sg_59 h
  show F_X6_read_21 _ _ _ _ _ _ _ _ _ _ _ = _
  rw [F_X6_read_21, if_neg (nI_ge (by omega) (by omega)), atI_val _ (show i < 40 by omega) (by decide), hT i hi, if_neg h2, if_neg h1, if_neg h3, if_neg hf, sg_with h hc, nI_1, nI_1, nI_1]
theorem Cs_row {n : Nat} (hn : n ≤ 40) {le tx : Nat → Int32} (hT : ∀ k, k < n → le k = tx k) {f c x i r w : Nat} {t : Int64} (hi : i < n) (h : tx i = 59) (hf : ¬ f_X6_endsRow (nI x) (nI r) (nI w) = 0) : Cs n le (f + 1) c x i r w t = Cs n le f c 0 (i + 1) (r + 1) x t := by
  show F_X6_read_21 _ _ _ _ _ _ _ _ _ _ _ = _
  rw [F_X6_read_21, if_neg (nI_ge (by omega) (by omega)), atI_val _ (show i < 40 by omega) (by decide), hT i hi, h, if_neg (by decide), if_pos rfl, if_neg hf, nI_1, nI_1]
  rfl
theorem Cs_bad {n : Nat} (hn : n ≤ 40) {le tx : Nat → Int32} (hT : ∀ k, k < n → le k = tx k) {f c x i r w : Nat} {t : Int64} (hi : i < n) (h32 : ¬ tx i = 32) (h1 : tx i = 59 → f_X6_endsRow (nI x) (nI r) (nI w) = 0) (h2 : f_X6_numberOfSign (tx i) = -2 ∨ f_X6_fitsRow (nI x) (nI r) (nI w) = 0) : (Cs n le (f + 1) c x i r w t).1 = nI i := by
  show (F_X6_read_21 _ _ _ _ _ _ _ _ _ _ _ : Int32 × Int32 × Int32 × Int64).1 = _
  rw [F_X6_read_21, if_neg (nI_ge (by omega) (by omega)), atI_val _ (show i < 40 by omega) (by decide), hT i hi, if_neg h32]
  have fin : (if f_X6_numberOfSign (tx i) = -2 then (nI i, nI r, nI w, t) else (if f_X6_fitsRow (nI x) (nI r) (nI w) = 0 then (nI i, nI r, nI w, t) else F_X6_read_21 (nI n) le (fun z1 z2 z3 z4 => (if z2 = 0 then (nI n, z2, z3, z4) else (if z1 ≤ 0 then ((-1), z2, z3, z4) else (nI n, z2, z3, z4)))) (fun z5 z6 z7 z8 => (z5, z6, z7, z8)) f (nI c + 1) (nI x + 1) (nI i + 1) (nI r) (nI w) (f_X0_withNumber t (nI c) (f_X6_numberOfSign (tx i))))).1 = nI i := by
    rcases h2 with h2 | h2
    · rw [if_pos h2]
    · rw [if_pos h2]
      split <;> rfl
  by_cases q : tx i = 59
  · rw [if_pos q, if_pos (h1 q)]
    exact fin
  · rw [if_neg q]
    exact fin
