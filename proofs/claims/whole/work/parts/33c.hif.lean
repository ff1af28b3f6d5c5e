theorem atCells_hI {p s hi hr hp : Int32} {n l b hs : Int64} {ac : Nat → Int64} (hc : ¬ (f_X8_atCells p s hi hr hp n l b hs ac).1 = 0) : hI (f_X8_atCells p s hi hr hp n l b hs ac).2.1 (f_X8_atCells p s hi hr hp n l b hs ac).2.2.2.2 l b := by
  unfold f_X8_atCells at hc ⊢
  simp only [bd] at hc ⊢
  by_cases h1 : f_X8_numberAt p n = 5
  · rw [if_pos h1] at hc; exact absurd rfl hc
  · rw [if_neg h1]
    clear hc
    generalize f_X8_ones (ac p.toNatClampNeg &&& l) = a
    generalize hb : f_X8_ones (ac p.toNatClampNeg &&& f_X8_open s l b) = o
    have key : ∀ i : Int32, ¬ o = 0 → hI (f_X8_finds 0 p i (ac p.toNatClampNeg &&& f_X8_open s l b)).2.1 (f_X8_finds 0 p i (ac p.toNatClampNeg &&& f_X8_open s l b)).2.2.2.2 l b := fun i h => finds_i rfl (fun _ => ⟨ones_ne (by rw [hb]; exact h), open_dj _ _ _ _⟩)
    repeat' split
    all_goals first | exact finds_ns (by decide) | exact key _ (by assumption)
theorem atPoints_hI {p s : Int32} {l b : Int64} {ap : Nat → Int64} : hI (f_X8_atPoints p s l b ap).2.1 (f_X8_atPoints p s l b ap).2.2.2.2 l b := by
  unfold f_X8_atPoints
  simp only [bd]
  generalize f_X8_ones (ap p.toNatClampNeg &&& l) = a
  generalize hb : f_X8_ones (ap p.toNatClampNeg &&& f_X8_open s l b) = o
  have key : ∀ i : Int32, ¬ o = 0 → hI (f_X8_finds 1 p i (ap p.toNatClampNeg &&& f_X8_open s l b)).2.1 (f_X8_finds 1 p i (ap p.toNatClampNeg &&& f_X8_open s l b)).2.2.2.2 l b := fun i h => finds_i rfl (fun _ => ⟨ones_ne (by rw [hb]; exact h), open_dj _ _ _ _⟩)
  repeat' split
  all_goals first | exact finds_ns (by decide) | exact key _ (by assumption) | (refine key _ (fun q => ?_); subst q; first | contradiction | (rename_i h; exact absurd h (by decide)) | (rename_i h _; exact absurd h (by decide)) | (rename_i h _ _; exact absurd h (by decide)) | (rename_i h _ _ _; exact absurd h (by decide)) | (rename_i h _ _ _ _; exact absurd h (by decide)))
theorem lgz2 {x : Int64} (h : lg_cmp x 0 = 0) : x = 0 := (lg_cmp_eq x 0).mp h
theorem F_ch_ex (y2 : Int64) (w h : Int32) (l : Int64) (ap : Nat → Int64) {β : Type} (k : Int64 → Int64 → β) : ∀ (n : Nat) (x4 x6 : Int64) (x8 : Int32), ∃ a c, F_X8_atChains_80 y2 w h l ap k n x4 x6 x8 = k a c := by
  intro n
  induction n with
  | zero => intro x4 x6 x8; exact ⟨_, _, rfl⟩
  | succ n ih =>
    intro x4 x6 x8
    rw [F_X8_atChains_80]
    repeat' split
    all_goals first | exact ⟨_, _, rfl⟩ | exact ih _ _ _
theorem and_one_0 {x : Int64} {j : Nat} (hj : j < 64) (h : x &&& shlL 1 (nI j) = 0) : bt x j = false := by
  have h1 : bt (x &&& shlL 1 (nI j)) j = false := by rw [h, bt_zero]
  rw [bt_and, bt_one_shl hj] at h1
  simpa using h1
theorem atChains_hI {p w h c hi hr hp : Int32} {n l b hs : Int64} {ac ap : Nat → Int64} (hp0 : 0 ≤ p.toInt ∧ p.toInt < 40) (hc : ¬ (f_X8_atChains p w h c hi hr hp n l b hs ac ap).1 = 0) : hI (f_X8_atChains p w h c hi hr hp n l b hs ac ap).2.1 (f_X8_atChains p w h c hi hr hp n l b hs ac ap).2.2.2.2 l b := by
  obtain ⟨j, hj, rfl⟩ := nI_of_range (n := 40) hp0 (by decide)
  have hj64 : j < 64 := by omega
  unfold f_X8_atChains at hc ⊢
  simp only [bd] at hc ⊢
  by_cases h1 : lg_cmp (l &&& shlL 1 (nI j)) 0 = 0
  · simp only [if_pos h1] at hc ⊢
    by_cases h2 : lg_cmp (b &&& shlL 1 (nI j)) 0 = 0
    · simp only [if_pos h2] at hc ⊢
      have hb1 := and_one_0 hj64 (lgz2 h1)
      have hb2 := and_one_0 hj64 (lgz2 h2)
      have key : ∀ i : Int32, hI (f_X8_finds 2 (nI j) i (shlL 1 (nI j))).2.1 (f_X8_finds 2 (nI j) i (shlL 1 (nI j))).2.2.2.2 l b := fun i => finds_i rfl (fun _ => ⟨one_ne hj64, one_dj hj64 (by rw [bt_or, hb1, hb2]; rfl)⟩)
      generalize hk : (fun z1 z2 => _ : Int64 → Int64 → Int32 × Int32 × Int32 × Int32 × Int64) = k at hc ⊢
      obtain ⟨a, q, e⟩ := F_ch_ex (shlL 1 (nI j)) w h l ap k (fu (f_X8_points w h) (0 : Int32)) 0 0 0
      rw [e] at hc ⊢
      rw [← hk] at hc ⊢
      revert hc
      simp only []
      repeat' split
      all_goals intro hc
      all_goals first | exact absurd rfl hc | exact key _
    · simp only [if_neg h2] at hc; first | exact absurd rfl hc | exact absurd trivial hc
  · simp only [if_neg h1] at hc ⊢
    repeat' split
    all_goals exact finds_ns (by decide)
theorem atHands_hI {p s : Int32} {l b : Int64} {ho : Nat → Int32} (hp0 : 0 ≤ p.toInt ∧ p.toInt < 40) : hI (f_X8_atHands p s l b ho).2.1 (f_X8_atHands p s l b ho).2.2.2.2 l b := by
  obtain ⟨j, hj, rfl⟩ := nI_of_range (n := 40) hp0 (by decide)
  have hj64 : j < 64 := by omega
  unfold f_X8_atHands
  simp only [bd]
  by_cases h1 : f_X8_has (l ||| b) (nI j) = 0
  · rw [if_pos h1]
    have hb1 : bt (l ||| b) j = false := by
      rw [has_val _ hj64] at h1
      by_cases q : bt (l ||| b) j = true
      · rw [if_pos q] at h1; exact absurd h1 (by decide)
      · simpa using q
    have key : ∀ i : Int32, hI (f_X8_finds 3 (nI j) i (shlL 1 (nI j))).2.1 (f_X8_finds 3 (nI j) i (shlL 1 (nI j))).2.2.2.2 l b := fun i => finds_i rfl (fun _ => ⟨one_ne hj64, one_dj hj64 hb1⟩)
    repeat' split
    all_goals exact key _
  · rw [if_neg h1]
    repeat' split
    all_goals exact finds_ns (by decide)
theorem isAt_hI {r p w h c s hi hr hp : Int32} {n l b hs : Int64} {ho : Nat → Int32} {ac ap : Nat → Int64} {u : Int32 × Int32 × Int32 × Int32 × Int64} (hu : f_X8_isAt r p w h c s hi hr hp n l b hs ho ac ap = u) (hg : mG w h c s) (hp0 : pB r p c s w h) (hc : ¬ u.1 = 0) : hI u.2.1 u.2.2.2.2 l b := by
  subst hu
  unfold f_X8_isAt at hc ⊢
  simp only [bd] at hc ⊢
  by_cases h0 : r = 0
  · rw [if_pos h0] at hc ⊢; exact atCells_hI hc
  · rw [if_neg h0] at hc ⊢
    by_cases h1 : r = 1
    · rw [if_pos h1] at hc ⊢; exact atPoints_hI
    · rw [if_neg h1] at hc ⊢
      by_cases h2 : r = 2
      · rw [if_pos h2] at hc ⊢; exact atChains_hI (pB_2 hg hp0 h0 h1) hc
      · rw [if_neg h2] at hc ⊢; exact atHands_hI (pB_2 hg hp0 h0 h1)
