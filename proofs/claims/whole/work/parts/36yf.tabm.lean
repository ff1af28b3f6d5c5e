/-! the model's tables of a grid -/
theorem F_lg35 {β : Type} (k : (Nat → Int64) → (Nat → Int64) → β) : ∀ (f j : Nat) (ac ap : Nat → Int64), j ≤ 25 → 25 < j + f → (∀ p, p < j → ap p = 0) → (∀ c, c < j → c < 16 → ac c = 0) → ∃ ac' ap', F_X8_laysGrid_35 k f (nI j) ac ap = k ac' ap' ∧ (∀ p, p < 25 → ap' p = 0) ∧ ∀ c, c < 16 → ac' c = 0 := by
  intro f
  induction f with
  | zero => intro j ac ap h1 h2; exact absurd h2 (by omega)
  | succ f ih =>
    intro j ac ap h1 h2 h3 h4
    rw [F_X8_laysGrid_35]
    by_cases q : 25 ≤ j
    · rw [if_pos (lit_le 25 25 rfl q (by omega))]
      exact ⟨ac, ap, rfl, fun p hp => h3 p (by omega), fun c hc => h4 c (by omega) hc⟩
    · rw [if_neg (lit_nle 25 25 rfl (by omega) (by decide)), nI_1 j, nI_clamp (by omega), show (0 : Int32).toNatClampNeg = 0 from rfl]
      have hp : ∀ p, p < j + 1 → vp_updL ap j 0 p = 0 := fun p hp => by
        rw [updL_at]
        split
        · rfl
        · exact h3 p (by omega)
      by_cases q2 : 16 ≤ j
      · rw [if_pos (lit_le 16 16 rfl q2 (by omega))]
        refine ih (j + 1) _ _ (by omega) (by omega) hp (fun c hc h => ?_)
        rw [updL_at]
        split
        · rfl
        · exact h4 c (by omega) h
      · rw [if_neg (lit_nle 16 16 rfl (by omega) (by decide))]
        refine ih (j + 1) _ _ (by omega) (by omega) hp (fun c hc h => ?_)
        rw [updL_at]
        split
        · rfl
        · exact h4 c (by omega) h
theorem or2 {A : Nat → Int64} {p0 p1 : Nat} {v : Int64} (p k : Nat) : bt (vp_updL (vp_updL A p0 (A p0 ||| v)) p1 ((vp_updL A p0 (A p0 ||| v)) p1 ||| v) p) k = (bt (A p) k || ((decide (p = p0) || decide (p = p1)) && bt v k)) := by
  rw [updL_at, updL_at, updL_at]
  by_cases e1 : p = p1
  · subst e1
    rw [if_pos rfl, bt_or]
    by_cases e0 : p = p0
    · subst e0; rw [if_pos rfl, bt_or]; simp
    · rw [if_neg e0]; simp
  · rw [if_neg e1]
    by_cases e0 : p = p0
    · subst e0; rw [if_pos rfl, bt_or]; simp
    · rw [if_neg e0]; simp [e0, e1]
theorem or1 {A : Nat → Int64} {p0 : Nat} {v : Int64} (p k : Nat) : bt (vp_updL A p0 (A p0 ||| v) p) k = (bt (A p) k || (decide (p = p0) && bt v k)) := by
  rw [updL_at]
  by_cases e0 : p = p0
  · subst e0; rw [if_pos rfl, bt_or]; simp
  · rw [if_neg e0]; simp [e0]
theorem n2 {s : Nat} (hs : s < 1000) : (2 * nI s).toNatClampNeg = 2 * s ∧ (2 * nI s + 1).toNatClampNeg = 2 * s + 1 := by
  rw [show (2 : Int32) = nI 2 from rfl, pk_mul, nI_1, nI_clamp (by omega), nI_clamp (by omega)]
  exact ⟨rfl, rfl⟩
theorem joins_val {s h0 h1 p0 p1 : Nat} (hs : s < 40) (g0 : h0 ≤ 16) (g1 : h1 ≤ 16) (q0 : p0 < 25) (q1 : p1 < 25) (ho : Nat → Int32) (ac ap : Nat → Int64) :
    (∀ i, (f_X8_joins (nI s) (nI h0) (nI h1) (nI p0) (nI p1) ho ac ap).1 i = if i = 2 * s + 1 then nI h1 else if i = 2 * s then nI h0 else ho i) ∧ (∀ c, c < 16 → ∀ k, bt ((f_X8_joins (nI s) (nI h0) (nI h1) (nI p0) (nI p1) ho ac ap).2.1 c) k = (bt (ac c) k || ((decide (c = h0) || decide (c = h1)) && decide (k = s)))) ∧ ∀ p k, bt ((f_X8_joins (nI s) (nI h0) (nI h1) (nI p0) (nI p1) ho ac ap).2.2 p) k = (bt (ap p) k || ((decide (p = p0) || decide (p = p1)) && decide (k = s))) := by
  have hb : ∀ k, bt (shlL 1 (nI s)) k = decide (k = s) := bt_one_shl (show s < 64 by omega)
  have ha2 : ∀ i, upd (upd ho (2 * s) (nI h0)) (2 * s + 1) (nI h1) i = if i = 2 * s + 1 then nI h1 else if i = 2 * s then nI h0 else ho i := fun i => by rw [upd_at, upd_at]
  rw [f_X8_joins, (n2 (show s < 1000 by omega)).1, (n2 (show s < 1000 by omega)).2, nI_clamp (show h0 < 2 ^ 31 by omega), nI_clamp (show h1 < 2 ^ 31 by omega), nI_clamp (show p0 < 2 ^ 31 by omega), nI_clamp (show p1 < 2 ^ 31 by omega)]
  by_cases z0 : 16 ≤ h0
  · rw [if_pos (lit_le 16 16 rfl z0 (by omega))]
    by_cases z1 : 16 ≤ h1
    · rw [if_pos (lit_le 16 16 rfl z1 (by omega))]
      refine ⟨ha2, fun c hc k => ?_, fun p k => by rw [or2, hb]⟩
      rw [decide_eq_false (show ¬ c = h0 by omega), decide_eq_false (show ¬ c = h1 by omega)]; simp
    · rw [if_neg (lit_nle 16 16 rfl (by omega) (by decide))]
      refine ⟨ha2, fun c hc k => ?_, fun p k => by rw [or2, hb]⟩
      rw [or1, hb, decide_eq_false (show ¬ c = h0 by omega)]; simp
  · rw [if_neg (lit_nle 16 16 rfl (by omega) (by decide))]
    by_cases z1 : 16 ≤ h1
    · rw [if_pos (lit_le 16 16 rfl z1 (by omega))]
      refine ⟨ha2, fun c hc k => ?_, fun p k => by rw [or2, hb]⟩
      rw [or1, hb, decide_eq_false (show ¬ c = h1 by omega)]; simp
    · rw [if_neg (lit_nle 16 16 rfl (by omega) (by decide))]
      exact ⟨ha2, fun c hc k => by rw [or2, hb], fun p k => by rw [or2, hb]⟩
theorem beq_sw (x y : Nat) : (x == y) = decide (y = x) := by
  by_cases h : y = x
  · subst h; simp
  · rw [decide_eq_false h]; exact beq_false_of_ne (fun e => h e.symm)
def JM (a b n : Nat) (ho : Nat → Int32) (ac ap : Nat → Int64) : Prop := (∀ s, s < n → ∀ e, e < 2 → ho (2 * s + e) = nI (haN a b s e)) ∧ (∀ c, c < 16 → ∀ k, bt (ac c) k = (decide (k < n) && inC a b c k)) ∧ ∀ p, p < 25 → ∀ k, bt (ap p) k = (decide (k < n) && inP a b p k)
theorem dk_s {n k : Nat} (x y : Bool) (h : k = n → y = x) : ((decide (k < n) && x) || (y && decide (k = n))) = (decide (k < n + 1) && x) := by
  by_cases e : k = n
  · rw [h e, e, decide_eq_false (Nat.lt_irrefl n), decide_eq_true (show n < n + 1 by omega)]; simp
  · by_cases l : k < n
    · rw [decide_eq_true l, decide_eq_true (show k < n + 1 by omega), decide_eq_false e]; simp
    · rw [decide_eq_false l, decide_eq_false (show ¬ k < n + 1 by omega), decide_eq_false e]; simp
theorem JM_step {a b s : Nat} (hg : gOK a b) (hs : s < sdN a b) {ho : Nat → Int32} {ac ap : Nat → Int64} (h : JM a b s ho ac ap) : JM a b (s + 1) (f_X8_joins (nI s) (nI (haN a b s 0)) (nI (haN a b s 1)) (nI (enN a b s 0)) (nI (enN a b s 1)) ho ac ap).1 (f_X8_joins (nI s) (nI (haN a b s 0)) (nI (haN a b s 1)) (nI (enN a b s 0)) (nI (enN a b s 1)) ho ac ap).2.1 (f_X8_joins (nI s) (nI (haN a b s 0)) (nI (haN a b s 1)) (nI (enN a b s 0)) (nI (enN a b s 1)) ho ac ap).2.2 := by
  have hn := gOK_lt hg
  have hle := ha_le hg hs
  have l0 := en_lt hg hs 0 (by omega)
  have l1 := en_lt hg hs 1 (by omega)
  obtain ⟨j1, j2, j3⟩ := joins_val (s := s) (h0 := haN a b s 0) (h1 := haN a b s 1) (p0 := enN a b s 0) (p1 := enN a b s 1) (by omega) hle.1.1 hle.1.2 (by omega) (by omega) ho ac ap
  obtain ⟨h1, h2, h3⟩ := h
  refine ⟨fun t ht e he => ?_, fun c hc k => ?_, fun p hp k => ?_⟩
  · rw [j1]
    by_cases z : t = s
    · subst z
      rcases (show e = 0 ∨ e = 1 by omega) with rfl | rfl
      · rw [if_neg (by omega), if_pos (by omega)]
      · rw [if_pos rfl]
    · rw [if_neg (by omega), if_neg (by omega)]
      exact h1 t (by omega) e he
  · rw [j2 c hc k, h2 c hc k]
    refine dk_s _ _ (fun e => ?_)
    subst e
    unfold inC
    rw [decide_eq_true hs, Bool.true_and, beq_sw, beq_sw]
  · rw [j3 p k, h3 p hp k]
    refine dk_s _ _ (fun e => ?_)
    subst e
    unfold inP
    rw [decide_eq_true hs, Bool.true_and, beq_sw, beq_sw]
theorem lg_all : ∀ a b x y : Fin 5, 1 ≤ a.val → 1 ≤ b.val → x.val < a.val → y.val ≤ b.val → (f_X8_lying (nI x.val) (nI y.val) (nI a.val) = nI (y.val * a.val + x.val) ∧ y.val * a.val + x.val < sdN a.val b.val) ∧ f_X8_cellAt (nI x.val) (nI y.val - 1) (nI a.val) (nI b.val) = nI (haN a.val b.val (y.val * a.val + x.val) 0) ∧ f_X8_cellAt (nI x.val) (nI y.val) (nI a.val) (nI b.val) = nI (haN a.val b.val (y.val * a.val + x.val) 1) ∧ (nI y.val * (nI a.val + 1)) + nI x.val = nI (enN a.val b.val (y.val * a.val + x.val) 0) ∧ ((nI y.val * (nI a.val + 1)) + nI x.val) + 1 = nI (enN a.val b.val (y.val * a.val + x.val) 1) := by decide +kernel
theorem lh_all : ∀ a b x y : Fin 5, 1 ≤ a.val → 1 ≤ b.val → x.val ≤ a.val → y.val < b.val → (f_X8_standing (nI x.val) (nI y.val) (nI a.val) (nI b.val) = nI (a.val * (b.val + 1) + y.val * (a.val + 1) + x.val) ∧ a.val * (b.val + 1) + y.val * (a.val + 1) + x.val < sdN a.val b.val) ∧ f_X8_cellAt (nI x.val - 1) (nI y.val) (nI a.val) (nI b.val) = nI (haN a.val b.val (a.val * (b.val + 1) + y.val * (a.val + 1) + x.val) 0) ∧ f_X8_cellAt (nI x.val) (nI y.val) (nI a.val) (nI b.val) = nI (haN a.val b.val (a.val * (b.val + 1) + y.val * (a.val + 1) + x.val) 1) ∧ (nI y.val * (nI a.val + 1)) + nI x.val = nI (enN a.val b.val (a.val * (b.val + 1) + y.val * (a.val + 1) + x.val) 0) ∧ ((nI y.val + 1) * (nI a.val + 1)) + nI x.val = nI (enN a.val b.val (a.val * (b.val + 1) + y.val * (a.val + 1) + x.val) 1) := by decide +kernel
theorem F_lg83 {a b y : Nat} (hg : gOK a b) (hy : y ≤ b) {β : Type} (k : (Nat → Int32) → (Nat → Int64) → (Nat → Int64) → β) : ∀ (f x : Nat) (ho : Nat → Int32) (ac ap : Nat → Int64), x ≤ a → a < x + f → JM a b (y * a + x) ho ac ap → ∃ ho' ac' ap', F_X8_laysGrid_83 (nI y) (nI a) (nI b) k f (nI x) ho ac ap = k ho' ac' ap' ∧ JM a b (y * a + a) ho' ac' ap' := by
  have hn := gOK_lt hg
  obtain ⟨⟨ga1, ga2⟩, gb1, gb2⟩ := id hg
  intro f
  induction f with
  | zero => intro x ho ac ap h1 h2; exact absurd h2 (by omega)
  | succ f ih =>
    intro x ho ac ap h1 h2 hI
    rw [F_X8_laysGrid_83]
    by_cases q : a ≤ x
    · rw [if_pos (nI_le q (by omega))]
      have : x = a := by omega
      subst this
      exact ⟨ho, ac, ap, rfl, hI⟩
    · obtain ⟨⟨e1, e2⟩, e3, e4, e5, e6⟩ := lg_all ⟨a, by omega⟩ ⟨b, by omega⟩ ⟨x, by omega⟩ ⟨y, by omega⟩ ga1 gb1 (by show x < a; omega) hy
      simp only at e1 e2 e3 e4 e5 e6
      rw [if_neg (nI_ge (by omega) (by omega)), e1, e3, e4, e6, e5, nI_1 x, bd]
      exact ih (x + 1) _ _ _ (by omega) (by omega) (JM_step hg e2 hI)
theorem F_lg73 {a b : Nat} (hg : gOK a b) {β : Type} (k : (Nat → Int32) → (Nat → Int64) → (Nat → Int64) → β) : ∀ (f y : Nat) (ho : Nat → Int32) (ac ap : Nat → Int64), y ≤ b + 1 → b + 1 < y + f → JM a b (y * a) ho ac ap → ∃ ho' ac' ap', F_X8_laysGrid_73 (nI a) (nI b) k f (nI y) ho ac ap = k ho' ac' ap' ∧ JM a b ((b + 1) * a) ho' ac' ap' := by
  obtain ⟨⟨ga1, ga2⟩, gb1, gb2⟩ := id hg
  intro f
  induction f with
  | zero => intro y ho ac ap h1 h2; exact absurd h2 (by omega)
  | succ f ih =>
    intro y ho ac ap h1 h2 hI
    rw [F_X8_laysGrid_73]
    by_cases q : b < y
    · rw [if_pos (nI_lt q (by omega))]
      have : y = b + 1 := by omega
      subst this
      exact ⟨ho, ac, ap, rfl, hI⟩
    · rw [if_neg (nI_nlt (by omega) (by omega)), fuN (by omega), nI_1 y]
      obtain ⟨ho', ac', ap', e, h⟩ := F_lg83 hg (show y ≤ b by omega) (fun z5 z6 z7 => F_X8_laysGrid_73 (nI a) (nI b) k f (nI (y + 1)) z5 z6 z7) (a + 1) 0 ho ac ap (by omega) (by omega) hI
      rw [show nI 0 = (0 : Int32) from rfl] at e
      rw [e]
      rw [show y * a + a = (y + 1) * a by rw [Nat.succ_mul]] at h
      exact ih (y + 1) ho' ac' ap' (by omega) (by omega) h
theorem F_lg161 {a b y : Nat} (hg : gOK a b) (hy : y < b) {β : Type} (k : (Nat → Int32) → (Nat → Int64) → (Nat → Int64) → β) : ∀ (f x : Nat) (ho : Nat → Int32) (ac ap : Nat → Int64), x ≤ a + 1 → a + 1 < x + f → JM a b (a * (b + 1) + y * (a + 1) + x) ho ac ap → ∃ ho' ac' ap', F_X8_laysGrid_161 (nI y) (nI a) (nI b) k f (nI x) ho ac ap = k ho' ac' ap' ∧ JM a b (a * (b + 1) + y * (a + 1) + (a + 1)) ho' ac' ap' := by
  have hn := gOK_lt hg
  obtain ⟨⟨ga1, ga2⟩, gb1, gb2⟩ := id hg
  intro f
  induction f with
  | zero => intro x ho ac ap h1 h2; exact absurd h2 (by omega)
  | succ f ih =>
    intro x ho ac ap h1 h2 hI
    rw [F_X8_laysGrid_161]
    by_cases q : a < x
    · rw [if_pos (nI_lt q (by omega))]
      have : x = a + 1 := by omega
      subst this
      exact ⟨ho, ac, ap, rfl, hI⟩
    · obtain ⟨⟨e1, e2⟩, e3, e4, e5, e6⟩ := lh_all ⟨a, by omega⟩ ⟨b, by omega⟩ ⟨x, by omega⟩ ⟨y, by omega⟩ ga1 gb1 (by show x ≤ a; omega) hy
      simp only at e1 e2 e3 e4 e5 e6
      rw [if_neg (nI_nlt (by omega) (by omega)), e1, e3, e4, e6, e5, nI_1 x, bd]
      exact ih (x + 1) _ _ _ (by omega) (by omega) (JM_step hg e2 hI)
theorem F_lg151 {a b : Nat} (hg : gOK a b) {β : Type} (k : (Nat → Int32) → (Nat → Int64) → (Nat → Int64) → β) : ∀ (f y : Nat) (ho : Nat → Int32) (ac ap : Nat → Int64), y ≤ b → b < y + f → JM a b (a * (b + 1) + y * (a + 1)) ho ac ap → ∃ ho' ac' ap', F_X8_laysGrid_151 (nI a) (nI b) k f (nI y) ho ac ap = k ho' ac' ap' ∧ JM a b (a * (b + 1) + b * (a + 1)) ho' ac' ap' := by
  obtain ⟨⟨ga1, ga2⟩, gb1, gb2⟩ := id hg
  intro f
  induction f with
  | zero => intro y ho ac ap h1 h2; exact absurd h2 (by omega)
  | succ f ih =>
    intro y ho ac ap h1 h2 hI
    rw [F_X8_laysGrid_151]
    by_cases q : b ≤ y
    · rw [if_pos (nI_le q (by omega))]
      have : y = b := by omega
      subst this
      exact ⟨ho, ac, ap, rfl, hI⟩
    · rw [if_neg (nI_ge (by omega) (by omega)), fueN (by omega), nI_1 y]
      obtain ⟨ho', ac', ap', e, h⟩ := F_lg161 hg (show y < b by omega) (fun z5 z6 z7 => F_X8_laysGrid_151 (nI a) (nI b) k f (nI (y + 1)) z5 z6 z7) (a + 2) 0 ho ac ap (by omega) (by omega) hI
      rw [show nI 0 = (0 : Int32) from rfl] at e
      rw [e]
      rw [show a * (b + 1) + y * (a + 1) + (a + 1) = a * (b + 1) + (y + 1) * (a + 1) by rw [Nat.succ_mul]; omega] at h
      exact ih (y + 1) ho' ac' ap' (by omega) (by omega) h
theorem laysGrid_val {a b : Nat} (hg : gOK a b) {ho : Nat → Int32} {ac ap : Nat → Int64} {u : Int32 × Int32 × (Nat → Int32) × (Nat → Int64) × (Nat → Int64)} (hu : f_X8_laysGrid (nI a) (nI b) ho ac ap = u) : RGridM a b (nI a) (nI b) u.1 u.2.1 u.2.2.1 u.2.2.2.1 u.2.2.2.2 := by
  have hn := gOK_lt hg
  obtain ⟨⟨ga1, ga2⟩, gb1, gb2⟩ := id hg
  have es : ((2 * (nI a * nI b)) + nI a) + nI b = nI (sdN a b) := by
    rw [show (2 : Int32) = nI 2 from rfl, pk_mul, pk_mul, nI_add, nI_add]; rfl
  rw [f_X8_laysGrid, es, pk_mul, fuN (by omega), fueN (by omega), show fu 25 (0 : Int32) = 26 by decide] at hu
  obtain ⟨ac1, ap1, e1, z1, z2⟩ := F_lg35 (fun z1 z2 => F_X8_laysGrid_73 (nI a) (nI b) (fun z7 z8 z9 => F_X8_laysGrid_151 (nI a) (nI b) (fun z14 z15 z16 => (nI (a * b), nI (sdN a b), z14, z15, z16)) (b + 1) 0 z7 z8 z9) (b + 2) 0 ho z1 z2) 26 0 ac ap (by omega) (by omega) (fun p hp => absurd hp (by omega)) (fun c hc => absurd hc (by omega))
  rw [show nI 0 = (0 : Int32) from rfl] at e1
  rw [e1] at hu
  obtain ⟨ho2, ac2, ap2, e2, j2⟩ := F_lg73 hg (fun z7 z8 z9 => F_X8_laysGrid_151 (nI a) (nI b) (fun z14 z15 z16 => (nI (a * b), nI (sdN a b), z14, z15, z16)) (b + 1) 0 z7 z8 z9) (b + 2) 0 ho ac1 ap1 (by omega) (by omega) ⟨fun s hs => absurd hs (by omega), fun c hc k => by rw [z2 c hc, bt_zero]; simp, fun p hp k => by rw [z1 p hp, bt_zero]; simp⟩
  rw [show nI 0 = (0 : Int32) from rfl] at e2
  rw [e2] at hu
  obtain ⟨ho3, ac3, ap3, e3, j3⟩ := F_lg151 hg (fun z14 z15 z16 => (nI (a * b), nI (sdN a b), z14, z15, z16)) (b + 1) 0 ho2 ac2 ap2 (by omega) (by omega) (by rw [Nat.zero_mul, Nat.add_zero, Nat.mul_comm a (b + 1)]; exact j2)
  rw [show nI 0 = (0 : Int32) from rfl] at e3
  rw [e3] at hu
  rw [show a * (b + 1) + b * (a + 1) = sdN a b by rw [← sd_eq, Nat.mul_comm b (a + 1)]] at j3
  subst hu
  obtain ⟨k1, k2, k3⟩ := j3
  refine ⟨rfl, rfl, rfl, rfl, k1, fun c hc => bt_all_ext (fun k => ?_), fun p hp => bt_all_ext (fun k => ?_)⟩
  · show bt (ac3 c) k = _
    rw [k2 c (by omega) k, ro_bit' hg]
    by_cases z : k < sdN a b
    · rw [decide_eq_true z]; simp
    · rw [inC_out hg c k (by omega)]; simp
  · show bt (ap3 p) k = _
    rw [k3 p (by omega) k, me_bit' hg]
    by_cases z : k < sdN a b
    · rw [decide_eq_true z]; simp
    · rw [inP_out p k (by omega)]; simp
