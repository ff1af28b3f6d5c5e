/-! loops: what lies inside -/
def cr (a b : Nat) (r : Int64) (y j : Nat) : Nat := (List.range j).countP (fun x => bt r (stN a b x y))
theorem cr_s (a b : Nat) (r : Int64) (y j : Nat) : cr a b r y (j + 1) = cr a b r y j + (if bt r (stN a b j y) = true then 1 else 0) := by
  unfold cr
  rw [List.range_succ, List.countP_append, List.countP_cons, List.countP_nil, Nat.zero_add]
theorem cr_le (a b : Nat) (r : Int64) (y j : Nat) : cr a b r y j ≤ j := by
  have := List.countP_le_length (p := fun x => bt r (stN a b x y)) (l := List.range j)
  rw [List.length_range] at this
  exact this
def wi (a b : Nat) (r : Int64) : Nat → Int32
  | 0 => 0
  | c + 1 => wi a b r c ||| (if cr a b r (c / a) (c % a + 1) % 2 = 1 then ((1 : Int32) <<< (nI c &&& 31)) else 0)
theorem st_all : ∀ a b x y : Fin 5, stN a.val b.val x.val y.val < 64 := by decide +kernel
theorem std_x4 (a b x y : Nat) : f_X4_standing (nI x) (nI y) (nI a) (nI b) = nI (stN a b x y) := by
  rw [f_X4_standing, nI_1, nI_1, pk_mul, pk_mul, nI_add, nI_add]; rfl
theorem std_x8 (a b x y : Nat) : f_X8_standing (nI x) (nI y) (nI a) (nI b) = nI (stN a b x y) := by
  rw [f_X8_standing, nI_1, nI_1, pk_mul, pk_mul, nI_add, nI_add]; rfl
theorem F_cw20 {a b : Nat} (hg : gOK a b) {r : Int64} {y : Nat} (hy : y < b) {β : Type} (k : Int32 → β) : ∀ (f j : Nat) (x5 x3 : Int32), j ≤ a → a < j + f → x5 = nI (cr a b r y j % 2) → x3 = wi a b r (y * a + j) → F_X4_cellsWithin_20 r (nI y) (nI a) (nI b) k f x3 x5 (nI j) = k (wi a b r (y * a + a)) := by
  obtain ⟨⟨ga1, ga2⟩, gb1, gb2⟩ := id hg
  intro f
  induction f with
  | zero => intro j x5 x3 h1 h2; exact absurd h2 (by omega)
  | succ f ih =>
    intro j x5 x3 h1 h2 h3 h4
    rw [F_X4_cellsWithin_20]
    by_cases q : a ≤ j
    · rw [if_pos (nI_le q (by omega)), h4, show j = a by omega]
    · have hs := st_all ⟨a, by omega⟩ ⟨b, by omega⟩ ⟨j, by omega⟩ ⟨y, by omega⟩
      simp only at hs
      rw [if_neg (nI_ge (by omega) (by omega)), std_x4, f_X7_bit, nI_1 j, pk_mul, nI_add]
      have em := (Nat.div_mod_unique (a := y * a + j) (c := j) (d := y) (show 0 < a by omega)).mpr ⟨by rw [Nat.mul_comm a y]; omega, by omega⟩
      have ew : wi a b r (y * a + (j + 1)) = wi a b r (y * a + j) ||| (if cr a b r y (j + 1) % 2 = 1 then ((1 : Int32) <<< (nI (y * a + j) &&& 31)) else 0) := by
        rw [show y * a + (j + 1) = (y * a + j) + 1 by omega, wi, em.1, em.2]
      have hc := cr_s a b r y j
      by_cases q1 : bt r (stN a b j y) = true
      · rw [if_pos q1] at hc
        rw [if_neg (fun e => by rw [(and_one_iff hs).mp e] at q1; exact absurd q1 (by decide))]
        by_cases q2 : cr a b r y j % 2 = 0
        · rw [h3, q2, if_pos (show nI 0 = (0 : Int32) from rfl)]
          rw [if_pos (show cr a b r y (j + 1) % 2 = 1 by omega)] at ew
          exact ih (j + 1) _ _ (by omega) (by omega) (by rw [show cr a b r y (j + 1) % 2 = 1 by omega]; rfl) (by rw [ew, h4])
        · rw [h3, show cr a b r y j % 2 = 1 by omega, if_neg (show ¬ nI 1 = (0 : Int32) by decide)]
          rw [if_neg (show ¬ cr a b r y (j + 1) % 2 = 1 by omega)] at ew
          exact ih (j + 1) _ _ (by omega) (by omega) (by rw [show cr a b r y (j + 1) % 2 = 0 by omega]; rfl) (by rw [ew, h4]; simp)
      · rw [if_neg q1] at hc
        rw [if_pos ((and_one_iff hs).mpr (by simpa using q1))]
        by_cases q2 : cr a b r y j % 2 = 0
        · rw [h3, q2, if_pos (show nI 0 = (0 : Int32) from rfl)]
          rw [if_neg (show ¬ cr a b r y (j + 1) % 2 = 1 by omega)] at ew
          exact ih (j + 1) _ _ (by omega) (by omega) (by rw [show cr a b r y (j + 1) % 2 = 0 by omega]) (by rw [ew, h4]; simp)
        · rw [h3, show cr a b r y j % 2 = 1 by omega, if_neg (show ¬ nI 1 = (0 : Int32) by decide)]
          rw [if_pos (show cr a b r y (j + 1) % 2 = 1 by omega)] at ew
          exact ih (j + 1) _ _ (by omega) (by omega) (by rw [show cr a b r y (j + 1) % 2 = 1 by omega]) (by rw [ew, h4])
theorem F_cw5 {a b : Nat} (hg : gOK a b) {r : Int64} {β : Type} (k : Int32 → β) : ∀ (f y : Nat), y ≤ b → b < y + f → F_X4_cellsWithin_5 r (nI a) (nI b) k f (wi a b r (y * a)) (nI y) = k (wi a b r (b * a)) := by
  obtain ⟨⟨ga1, ga2⟩, gb1, gb2⟩ := id hg
  intro f
  induction f with
  | zero => intro y h1 h2; exact absurd h2 (by omega)
  | succ f ih =>
    intro y h1 h2
    rw [F_X4_cellsWithin_5]
    by_cases q : b ≤ y
    · rw [if_pos (nI_le q (by omega)), show y = b by omega]
    · rw [if_neg (nI_ge (by omega) (by omega)), fuN (by omega)]
      have := F_cw20 hg (r := r) (show y < b by omega) (fun z1 => F_X4_cellsWithin_5 r (nI a) (nI b) k f z1 (nI y + 1)) (a + 1) 0 0 (wi a b r (y * a)) (by omega) (by omega) rfl rfl
      rw [show nI 0 = (0 : Int32) from rfl] at this
      rw [this, nI_1 y, show y * a + a = (y + 1) * a by rw [Nat.succ_mul]]
      exact ih (y + 1) (by omega) (by omega)
theorem cw_val {a b : Nat} (hg : gOK a b) (r : Int64) : f_X4_cellsWithin r (nI a) (nI b) = wi a b r (a * b) := by
  obtain ⟨⟨ga1, ga2⟩, gb1, gb2⟩ := id hg
  rw [f_X4_cellsWithin, fuN (by omega)]
  have := F_cw5 hg (r := r) (fun z => z) (b + 1) 0 (by omega) (by omega)
  rw [Nat.zero_mul, show nI 0 = (0 : Int32) from rfl, show wi a b r 0 = 0 from rfl] at this
  rw [this, Nat.mul_comm]
theorem dm_all : ∀ a : Fin 5, ∀ c : Fin 16, 1 ≤ a.val → nI c.val / nI a.val = nI (c.val / a.val) ∧ nI c.val - nI c.val / nI a.val * nI a.val = nI (c.val % a.val) := by decide +kernel
theorem m2_all : ∀ m : Fin 17, nI m.val - nI m.val / 2 * 2 = nI (m.val % 2) := by decide +kernel
theorem sh0_all : ∀ c : Fin 16, (nI 0 <<< (nI c.val &&& 31)) = 0 := by decide +kernel
theorem fueN {N : Nat} (h : N < 2 ^ 30) : fue (nI N) (0 : Int32) = N + 2 := by
  unfold fue
  rw [nI_toInt (by omega), Int32.toInt_zero]
  omega
theorem F_i50 {a b c : Nat} (hg : gOK a b) (hc : c < a * b) {r : Int64} {β : Type} (k : Int32 → β) : ∀ (f j : Nat), j ≤ c % a + 1 → c % a + 1 < j + f → F_X8_inside_50 r (nI c) (nI a) (nI b) k f (nI (cr a b r (c / a) j)) (nI j) = k (nI (cr a b r (c / a) (c % a + 1))) := by
  obtain ⟨⟨ga1, ga2⟩, gb1, gb2⟩ := id hg
  have hn := gOK_lt hg
  have hm : c % a < a := Nat.mod_lt _ (by omega)
  have hd : c / a < b := Nat.div_lt_of_lt_mul hc
  obtain ⟨e1, e2⟩ := dm_all ⟨a, by omega⟩ ⟨c, by omega⟩ ga1
  simp only at e1 e2
  intro f
  induction f with
  | zero => intro j h1 h2; exact absurd h2 (by omega)
  | succ f ih =>
    intro j h1 h2
    rw [F_X8_inside_50, e2, e1]
    by_cases q : c % a < j
    · rw [if_pos (nI_lt q (by omega)), show j = c % a + 1 by omega]
    · have hs := st_all ⟨a, by omega⟩ ⟨b, by omega⟩ ⟨j, by omega⟩ ⟨c / a, by omega⟩
      simp only at hs
      have hcr := cr_s a b r (c / a) j
      rw [if_neg (nI_nlt (by omega) (by omega)), std_x8, has_val _ hs, nI_1 j, nI_1]
      by_cases b1 : bt r (stN a b j (c / a)) = true
      · rw [if_pos b1] at hcr ⊢
        rw [if_neg (show ¬ (1 : Int32) = 0 by decide), ← hcr]
        exact ih (j + 1) (by omega) (by omega)
      · rw [if_neg b1] at hcr ⊢
        rw [if_pos rfl, show nI (cr a b r (c / a) j) + 0 = nI (cr a b r (c / a) (j + 1)) by rw [hcr]; simp]
        exact ih (j + 1) (by omega) (by omega)
theorem F_i35 {a b : Nat} (hg : gOK a b) {r : Int64} {β : Type} (k : Int32 → β) : ∀ (f c : Nat), c ≤ a * b → a * b < c + f → F_X8_inside_35 r (nI a) (nI b) (nI (a * b)) k f (wi a b r c) (nI c) = k (wi a b r (a * b)) := by
  obtain ⟨⟨ga1, ga2⟩, gb1, gb2⟩ := id hg
  have hn := gOK_lt hg
  intro f
  induction f with
  | zero => intro c h1 h2; exact absurd h2 (by omega)
  | succ f ih =>
    intro c h1 h2
    rw [F_X8_inside_35]
    by_cases q : a * b ≤ c
    · rw [if_pos (nI_le q (by omega)), show c = a * b by omega]
    · have hc : c < a * b := by omega
      have hm : c % a < a := Nat.mod_lt _ (by omega)
      obtain ⟨e1, e2⟩ := dm_all ⟨a, by omega⟩ ⟨c, by omega⟩ ga1
      simp only at e1 e2
      rw [if_neg (nI_ge (by omega) (by omega)), e2, fueN (by omega)]
      have h50 := F_i50 hg hc (r := r) (fun z2 => F_X8_inside_35 r (nI a) (nI b) (nI (a * b)) k f (wi a b r c ||| ((z2 - z2 / 2 * 2) <<< (nI c &&& 31))) (nI c + 1)) (c % a + 2) 0 (by omega) (by omega)
      rw [show nI (cr a b r (c / a) 0) = 0 from rfl, show nI 0 = (0 : Int32) from rfl] at h50
      rw [h50]
      have hle := cr_le a b r (c / a) (c % a + 1)
      have e3 := m2_all ⟨cr a b r (c / a) (c % a + 1), by omega⟩
      simp only at e3
      rw [e3, nI_1 c]
      have ew : wi a b r c ||| (nI (cr a b r (c / a) (c % a + 1) % 2) <<< (nI c &&& 31)) = wi a b r (c + 1) := by
        rw [wi]
        by_cases z : cr a b r (c / a) (c % a + 1) % 2 = 1
        · rw [if_pos z, z]; rfl
        · rw [if_neg z, show cr a b r (c / a) (c % a + 1) % 2 = 0 by omega, sh0_all ⟨c, by omega⟩]
      rw [ew]
      exact ih (c + 1) (by omega) (by omega)
theorem in_val35 {a b : Nat} (hg : gOK a b) (r : Int64) {β : Type} (k : Int32 → β) : F_X8_inside_35 r (nI a) (nI b) (nI (a * b)) k (fu (nI (a * b)) (0 : Int32)) 0 0 = k (wi a b r (a * b)) := by
  have hn := gOK_lt hg
  rw [fuN (by omega)]
  exact F_i35 hg k (a * b + 1) 0 (by omega) (by omega)
