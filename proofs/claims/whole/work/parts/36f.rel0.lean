/-! the tables of a grid, and what ties the class to the model -/
def sdN (a b : Nat) : Nat := 2 * (a * b) + a + b
def lyN (a x y : Nat) : Nat := y * a + x
def stN (a b x y : Nat) : Nat := a * (b + 1) + y * (a + 1) + x
def csN (a b c i : Nat) : Nat := if i = 0 then lyN a (c % a) (c / a) else if i = 1 then lyN a (c % a) (c / a + 1) else if i = 2 then stN a b (c % a) (c / a) else stN a b (c % a + 1) (c / a)
def psI (a b p i : Nat) : Int32 := if i = 0 then (if p % (a + 1) = 0 then -9 else nI (lyN a (p % (a + 1) - 1) (p / (a + 1)))) else if i = 1 then (if p % (a + 1) = a then -9 else nI (lyN a (p % (a + 1)) (p / (a + 1)))) else if i = 2 then (if p / (a + 1) = 0 then -9 else nI (stN a b (p % (a + 1)) (p / (a + 1) - 1))) else (if p / (a + 1) = b then -9 else nI (stN a b (p % (a + 1)) (p / (a + 1))))
def haN (a b s e : Nat) : Nat :=
  if s < a * (b + 1) then (if e = 0 then (if s / a = 0 then 16 else s - a) else (if s / a = b then 16 else s))
  else (if e = 0 then (if (s - a * (b + 1)) % (a + 1) = 0 then 16 else (s - a * (b + 1)) / (a + 1) * a + (s - a * (b + 1)) % (a + 1) - 1) else (if (s - a * (b + 1)) % (a + 1) = a then 16 else (s - a * (b + 1)) / (a + 1) * a + (s - a * (b + 1)) % (a + 1)))
def enN (a b s e : Nat) : Nat :=
  if s < a * (b + 1) then s / a * (a + 1) + s % a + e
  else (s - a * (b + 1)) + e * (a + 1)
/-- is side k one of cell c's (c 16: of what is beyond) -/
def inC (a b c k : Nat) : Bool := decide (k < sdN a b) && (haN a b k 0 == c || haN a b k 1 == c)
def inP (a b p k : Nat) : Bool := decide (k < sdN a b) && (enN a b k 0 == p || enN a b k 1 == p)
/-- is side k settled from cell c on -/
def inS (a b c k : Nat) : Bool := decide (k < sdN a b) && (decide (c ≤ haN a b k 0) && decide (c ≤ haN a b k 1))
def mkOf (p : Nat → Bool) : Nat → Nat
  | 0 => 0
  | n + 1 => mkOf p n + (if p n then 2 ^ n else 0)
def roN (a b c : Nat) : Nat := mkOf (inC a b c) 40
def meN (a b p : Nat) : Nat := mkOf (inP a b p) 40
def beN (a b s : Nat) : Nat := mkOf (fun k => inP a b (enN a b s 0) k || inP a b (enN a b s 1) k) 40
def seN (a b c : Nat) : Nat := mkOf (inS a b c) 40
def cnN (a b c : Nat) : Nat := (c / a + 1) * (a + 1) + c % a + 1
def TabC (a b : Nat) (s_cs s_ps s_ha s_en : Nat → Int32) (s_ro s_me s_be s_se s_co : Nat → Int64) : Prop :=
  (∀ c, c < a * b → ∀ i, i < 4 → s_cs (4 * c + i) = nI (csN a b c i)) ∧ (∀ p, p < (a + 1) * (b + 1) → ∀ i, i < 4 → s_ps (4 * p + i) = psI a b p i) ∧ (∀ s, s < sdN a b → ∀ e, e < 2 → s_ha (2 * s + e) = nI (haN a b s e)) ∧ (∀ s, s < sdN a b → ∀ e, e < 2 → s_en (2 * s + e) = nI (enN a b s e)) ∧
  (∀ c, c < a * b → s_ro c = lN (roN a b c)) ∧ s_ro 16 = lN (roN a b 16) ∧ (∀ p, p < (a + 1) * (b + 1) → s_me p = lN (meN a b p)) ∧ (∀ s, s < sdN a b → s_be s = lN (beN a b s)) ∧ (∀ c, c < a * b → s_se c = lN (seN a b c)) ∧ ∀ c, c < a * b → s_co c = lN (meN a b (cnN a b c))
def TabM (a b : Nat) (m_ho : Nat → Int32) (m_ac m_ap : Nat → Int64) : Prop :=
  (∀ s, s < sdN a b → ∀ e, e < 2 → m_ho (2 * s + e) = nI (haN a b s e)) ∧ (∀ c, c < a * b → m_ac c = lN (roN a b c)) ∧ ∀ p, p < (a + 1) * (b + 1) → m_ap p = lN (meN a b p)
def gOK (a b : Nat) : Prop := (1 ≤ a ∧ a ≤ 4) ∧ 1 ≤ b ∧ b ≤ 4
def RGridC (a b : Nat) (s_w s_h s_c s_p s_s : Int32) (s_cs s_ps s_ha s_en : Nat → Int32) (s_ro s_me s_be s_se s_co : Nat → Int64) : Prop := s_w = nI a ∧ s_h = nI b ∧ s_c = nI (a * b) ∧ s_p = nI ((a + 1) * (b + 1)) ∧ s_s = nI (sdN a b) ∧ TabC a b s_cs s_ps s_ha s_en s_ro s_me s_be s_se s_co
def RGridM (a b : Nat) (m_w m_h m_c m_s : Int32) (m_ho : Nat → Int32) (m_ac m_ap : Nat → Int64) : Prop := m_w = nI a ∧ m_h = nI b ∧ m_c = nI (a * b) ∧ m_s = nI (sdN a b) ∧ TabM a b m_ho m_ac m_ap
/-- the class's list of loops (to be told) -/
def LRep (_a _b : Nat) (_l_z : Int32) (_l_a : Nat → Int64) (_b_l _b_b _b_n : Int64) : Prop := True
def RLoops (a b : Nat) (c_sr l_z : Int32) (l_a : Nat → Int64) (b_l b_b b_n : Int64) : Prop := c_sr = 0 ∨ LRep a b l_z l_a b_l b_b b_n
/-- the model's list of rings (to be told) -/
def MRep (_m_rn _m_rw _m_rh : Int32) (_m_ri : Nat → Int64) : Prop := True
def RRings (m_rn m_rw m_rh : Int32) (m_ri : Nat → Int64) : Prop := (0 ≤ m_rn.toInt ∧ m_rn.toInt ≤ 9400) ∧ MRep m_rn m_rw m_rh m_ri
theorem gOK_lt {a b : Nat} (h : gOK a b) : (1 ≤ a * b ∧ a * b ≤ 16) ∧ (4 ≤ sdN a b ∧ sdN a b ≤ 40) ∧ (4 ≤ (a + 1) * (b + 1) ∧ (a + 1) * (b + 1) ≤ 25) := by
  obtain ⟨⟨h1, h2⟩, h3, h4⟩ := h
  have : ∀ a b : Fin 5, 1 ≤ a.val → 1 ≤ b.val → (1 ≤ a.val * b.val ∧ a.val * b.val ≤ 16) ∧ (4 ≤ sdN a.val b.val ∧ sdN a.val b.val ≤ 40) ∧ (4 ≤ (a.val + 1) * (b.val + 1) ∧ (a.val + 1) * (b.val + 1) ≤ 25) := by decide +kernel
  exact this ⟨a, by omega⟩ ⟨b, by omega⟩ h1 h3
theorem undo_sim {s : Nat} {p_nx p_sz m_un : Int32} {pl pb pn m_pa : Nat → Int64} (hP : RPast s p_nx p_sz pl pb pn m_un m_pa) (h0 : ¬ p_sz = 0) :
    (f_X2_giveLatest p_nx p_sz pl pb pn).2.1 = m_un - 1 ∧ RPast s (f_X2_giveLatest p_nx p_sz pl pb pn).1 (f_X2_giveLatest p_nx p_sz pl pb pn).2.1 pl pb pn (m_un - 1) m_pa ∧ RBoard s (f_X2_giveLatest p_nx p_sz pl pb pn).2.2.1 (f_X2_giveLatest p_nx p_sz pl pb pn).2.2.2.1 (f_X2_giveLatest p_nx p_sz pl pb pn).2.2.2.2 (m_pa ((3 * (m_un - 1)) + 1).toNatClampNeg) (m_pa ((3 * (m_un - 1)) + 2).toNatClampNeg) (m_pa (3 * (m_un - 1)).toNatClampNeg) := by
  obtain ⟨x, u, hx, hu, rfl, rfl, rfl, h⟩ := hP
  have hu0 : u ≠ 0 := fun q => h0 (by rw [q]; rfl)
  obtain ⟨v, rfl⟩ : ∃ v, u = v + 1 := ⟨u - 1, by omega⟩
  have hg : ∀ y : Nat, y < 10 → f_X5_give (nI y) pl pb pn = (pl y, pb y, pn y) := by
    intro y hy
    rw [f_X5_give, bd, atL_val _ hy (by decide), atL_val _ hy (by decide), atL_val _ hy (by decide)]; rfl
  have hm : maxI (nI (v + 1) - 1) 0 = nI v := by
    rw [nI_pred]
    unfold maxI
    rw [if_neg (nI_pos (by omega))]
  have e : f_X2_giveLatest (nI x) (nI (v + 1)) pl pb pn = (nI ((x + 9) % 10), nI v, pl ((x + 9) % 10), pb ((x + 9) % 10), pn ((x + 9) % 10)) := by
    unfold f_X2_giveLatest
    simp only [bd]
    rw [hm]
    by_cases q : x = 0
    · subst q
      rw [if_pos (by decide), show (9 : Int32) = nI 9 from rfl, hg 9 (by decide)]
    · obtain ⟨y, rfl⟩ : ∃ y, x = y + 1 := ⟨x - 1, by omega⟩
      rw [if_neg (nI_nle (by omega) (by omega)), nI_pred, hg y (by omega), show (y + 1 + 9) % 10 = y by omega]
  have hv := n3 (u := v) (by omega)
  rw [e, nI_pred, hv.1, hv.2.1, hv.2.2]
  refine ⟨rfl, ⟨(x + 9) % 10, v, by omega, by omega, rfl, rfl, rfl, fun i hi => ?_⟩, ?_⟩
  · have := h i (by omega)
    rw [show (x + 10 - (v + 1) + i) % 10 = ((x + 9) % 10 + 10 - v + i) % 10 by omega] at this
    exact this
  · have := h v (by omega)
    rw [show (x + 10 - (v + 1) + v) % 10 = (x + 9) % 10 by omega] at this
    exact this
/-- marking -/
theorem mark_sim {s k : Nat} {l b : Int64} {as : Int32} (hs : s ≤ 40) (hk : k < s) (h : bOK s l b) : f_X0_mark (nI k) as l b = f_X8_sets (shlL 1 (nI k)) as l b ∧ bOK s (f_X0_mark (nI k) as l b).1 (f_X0_mark (nI k) as l b).2 := by
  have hk64 : k < 64 := by omega
  have hd : ∀ i, (bt l i && bt b i) = false := fun i => by rw [← bt_and, h.1, bt_zero]
  unfold f_X0_mark f_X8_sets f_X7_bit
  have e1 : (l &&& (shlL 1 (nI k) ^^^ (-1))) ||| shlL 1 (nI k) = l ||| shlL 1 (nI k) := by
    apply bt_ext
    intro i hi
    simp only [bt_or, bt_and, bt_not _ hi]
    cases bt l i <;> cases bt (shlL 1 (nI k)) i <;> rfl
  have e2 : (b &&& (shlL 1 (nI k) ^^^ (-1))) ||| shlL 1 (nI k) = b ||| shlL 1 (nI k) := by
    apply bt_ext
    intro i hi
    simp only [bt_or, bt_and, bt_not _ hi]
    cases bt b i <;> cases bt (shlL 1 (nI k)) i <;> rfl
  rw [e1, e2]
  have key : ∀ x y : Int64, (∀ i, i < 64 → (bt x i && bt y i) = false) → (∀ i, s ≤ i → i < 64 → bt x i = false ∧ bt y i = false) → bOK s x y := by
    intro x y h1 h2
    refine ⟨bt_ext (fun i hi => by rw [bt_and, h1 i hi, bt_zero]), fun i hi => ?_⟩
    rcases Nat.lt_or_ge i 64 with q | q
    · exact h2 i hi q
    · exact ⟨bt_out _ q, bt_out _ q⟩
  by_cases h1 : as = 1
  · subst h1
    rw [if_pos rfl, if_pos rfl, if_neg (by decide)]
    refine ⟨rfl, key _ _ (fun i hi => ?_) (fun i hi hi2 => ?_)⟩
    · have := hd i
      simp only [bt_or, bt_and, bt_not _ hi]
      revert this
      cases bt l i <;> cases bt b i <;> cases bt (shlL 1 (nI k)) i <;> simp
    · obtain ⟨g1, g2⟩ := h.2 i hi
      simp only [bt_or, bt_and, g1, g2, bt_one_shl hk64]
      have : i ≠ k := by omega
      simp [this]
  · rw [if_neg h1, if_neg h1]
    by_cases h2 : as = 2
    · subst h2
      rw [if_pos rfl]
      refine ⟨rfl, key _ _ (fun i hi => ?_) (fun i hi hi2 => ?_)⟩
      · have := hd i
        simp only [bt_or, bt_and, bt_not _ hi]
        revert this
        cases bt l i <;> cases bt b i <;> cases bt (shlL 1 (nI k)) i <;> simp
      · obtain ⟨g1, g2⟩ := h.2 i hi
        simp only [bt_or, bt_and, g1, g2, bt_one_shl hk64]
        have : i ≠ k := by omega
        simp [this]
    · rw [if_neg h2]
      refine ⟨rfl, key _ _ (fun i hi => ?_) (fun i hi hi2 => ?_)⟩
      · have := hd i
        simp only [bt_and, bt_not _ hi]
        revert this
        cases bt l i <;> cases bt b i <;> cases bt (shlL 1 (nI k)) i <;> simp
      · obtain ⟨g1, g2⟩ := h.2 i hi
        simp only [bt_and, g1, g2]
        simp
