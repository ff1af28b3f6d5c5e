/-! the class's tables of a grid -/
theorem upd_at (f : Nat → Int32) (k : Nat) (x : Int32) (i : Nat) : upd f k x i = if i = k then x else f i := by
  by_cases e : i = k
  · subst e; rw [pk_us, if_pos rfl]
  · rw [pk_un e, if_neg e]
def fsN (i : Nat) : Nat := if i = 0 then 1 else if i = 2 then 1 else 0
theorem fs_all : ∀ i : Fin 4, f_X4_firstOrSecond (nI i.val) = nI (fsN i.val) := by decide +kernel
theorem fs_le (i : Nat) : fsN i ≤ 1 := by unfold fsN; split <;> (try split) <;> decide
theorem F_fi (v : Int32) {n : Nat} (hn : n ≤ 100) {β : Type} (k : (Nat → Int32) → β) : ∀ (f j : Nat) (g : Nat → Int32), j ≤ n → n < j + f → ∃ g', F_J7_fill_53178_5 v (nI n) k f (nI j) g = k g' ∧ (∀ i, i < j → g' i = g i) ∧ ∀ i, j ≤ i → i < n → g' i = v := by
  intro f
  induction f with
  | zero => intro j g h1 h2; exact absurd h2 (by omega)
  | succ f ih =>
    intro j g h1 h2
    rw [F_J7_fill_53178_5]
    by_cases q : n ≤ j
    · rw [if_pos (nI_le q (by omega))]
      exact ⟨g, rfl, fun _ _ => rfl, fun i h3 h4 => absurd h4 (by omega)⟩
    · rw [if_neg (nI_ge (by omega) (by omega)), nI_clamp (by omega), nI_1 j]
      obtain ⟨g', e, g1, g2⟩ := ih (j + 1) (upd g j v) (by omega) (by omega)
      refine ⟨g', e, fun i hi => by rw [g1 i (by omega), pk_un (by omega)], fun i h3 h4 => ?_⟩
      by_cases ei : i = j
      · subst ei; rw [g1 i (by omega), pk_us]
      · exact g2 i (by omega) h4
theorem fi_val (v : Int32) {n : Nat} (hn : n ≤ 100) (g : Nat → Int32) : ∀ i, i < n → f_J7_fill_53178 v n g i = v := by
  intro i hi
  rw [f_J7_fill_53178, fuN (by omega)]
  obtain ⟨g', e, _, g2⟩ := F_fi v hn (fun z => z) (n + 1) 0 g (by omega) (by omega)
  rw [show nI 0 = (0 : Int32) from rfl] at e
  rw [e]
  exact g2 i (by omega) hi
theorem F_fl (v : Int64) {n : Nat} (hn : n ≤ 100) {β : Type} (k : (Nat → Int64) → β) : ∀ (f j : Nat) (g : Nat → Int64), j ≤ n → n < j + f → ∃ g', F_J7_fill_d0a16_6 v (nI n) k f (nI j) g = k g' ∧ (∀ i, i < j → g' i = g i) ∧ ∀ i, j ≤ i → i < n → g' i = v := by
  intro f
  induction f with
  | zero => intro j g h1 h2; exact absurd h2 (by omega)
  | succ f ih =>
    intro j g h1 h2
    rw [F_J7_fill_d0a16_6]
    by_cases q : n ≤ j
    · rw [if_pos (nI_le q (by omega))]
      exact ⟨g, rfl, fun _ _ => rfl, fun i h3 h4 => absurd h4 (by omega)⟩
    · rw [if_neg (nI_ge (by omega) (by omega)), nI_clamp (by omega), nI_1 j]
      obtain ⟨g', e, g1, g2⟩ := ih (j + 1) (vp_updL g j v) (by omega) (by omega)
      refine ⟨g', e, fun i hi => by rw [g1 i (by omega), pk_uLn (by omega)], fun i h3 h4 => ?_⟩
      by_cases ei : i = j
      · subst ei; rw [g1 i (by omega), pk_uLs]
      · exact g2 i (by omega) h4
theorem fl_val (v : Int64) {n : Nat} (hn : n ≤ 100) (g : Nat → Int64) : ∀ i, i < n → f_J7_fill_d0a16 v n g i = v := by
  intro i hi
  rw [f_J7_fill_d0a16, fuN (by omega)]
  obtain ⟨g', e, _, g2⟩ := F_fl v hn (fun z => z) (n + 1) 0 g (by omega) (by omega)
  rw [show nI 0 = (0 : Int32) from rfl] at e
  rw [e]
  exact g2 i (by omega) hi
theorem lcs {c i s : Nat} (hc : c < 16) (hi : i < 4) (hs : s < 40) (cs ha : Nat → Int32) (ro : Nat → Int64) : f_X4_layCellSide (nI c) (nI i) (nI s) cs ha ro = (upd cs (4 * c + i) (nI s), upd ha (2 * s + fsN i) (nI c), vp_updL ro c (ro c ||| shlL 1 (nI s))) := by
  have hf := fs_le i
  have e1 : (nI c * 4) + nI i = nI (4 * c + i) := by rw [show (4 : Int32) = nI 4 from rfl, pk_mul, nI_add, Nat.mul_comm c 4]
  have e2 : (nI s * 2) + f_X4_firstOrSecond (nI i) = nI (2 * s + fsN i) := by rw [fs_all ⟨i, hi⟩, show (2 : Int32) = nI 2 from rfl, pk_mul, nI_add, Nat.mul_comm s 2]
  rw [f_X4_layCellSide, e1, e2, putI_val _ _ (by omega) (by decide), putI_val _ _ (by omega) (by decide), putL_val _ _ (by omega) (by decide), ro_at (by omega), f_X7_bit]
def CI (a b n : Nat) (cs ha : Nat → Int32) (ro : Nat → Int64) : Prop := (∀ c, c < n → ∀ i, i < 4 → cs (4 * c + i) = nI (csN a b c i)) ∧ (∀ s, s < sdN a b → ∀ e, e < 2 → ha (2 * s + e) = nI (if haN a b s e < n then haN a b s e else 16)) ∧ (∀ c, c < n → ro c = lN (roN a b c)) ∧ ∀ c, n ≤ c → c < 17 → ro c = 0
theorem hc_all : ∀ a b : Fin 5, 1 ≤ a.val → 1 ≤ b.val → ∀ c : Fin 16, c.val < a.val * b.val → ((∀ i : Fin 4, csN a.val b.val c.val i.val < sdN a.val b.val) ∧ ((((0 ||| shlL 1 (nI (csN a.val b.val c.val 0))) ||| shlL 1 (nI (csN a.val b.val c.val 1))) ||| shlL 1 (nI (csN a.val b.val c.val 2))) ||| shlL 1 (nI (csN a.val b.val c.val 3))) = lN (roN a.val b.val c.val)) ∧ ∀ s : Fin 40, s.val < sdN a.val b.val → ∀ e : Fin 2, haN a.val b.val s.val e.val = c.val ↔ ((s.val = csN a.val b.val c.val 0 ∧ e.val = 1) ∨ (s.val = csN a.val b.val c.val 1 ∧ e.val = 0) ∨ (s.val = csN a.val b.val c.val 2 ∧ e.val = 1) ∨ (s.val = csN a.val b.val c.val 3 ∧ e.val = 0)) := by decide +kernel
theorem CI_step {a b c : Nat} (hg : gOK a b) (hc : c < a * b) {cs cs1 cs2 cs3 cs4 ha ha1 ha2 ha3 ha4 : Nat → Int32} {ro ro1 ro2 ro3 ro4 : Nat → Int64} (h : CI a b c cs ha ro)
    (x1 : cs1 = upd cs (4 * c + 0) (nI (csN a b c 0))) (x2 : cs2 = upd cs1 (4 * c + 1) (nI (csN a b c 1))) (x3 : cs3 = upd cs2 (4 * c + 2) (nI (csN a b c 2))) (x4 : cs4 = upd cs3 (4 * c + 3) (nI (csN a b c 3)))
    (y1 : ha1 = upd ha (2 * csN a b c 0 + fsN 0) (nI c)) (y2 : ha2 = upd ha1 (2 * csN a b c 1 + fsN 1) (nI c)) (y3 : ha3 = upd ha2 (2 * csN a b c 2 + fsN 2) (nI c)) (y4 : ha4 = upd ha3 (2 * csN a b c 3 + fsN 3) (nI c))
    (z1 : ro1 = vp_updL ro c (ro c ||| shlL 1 (nI (csN a b c 0)))) (z2 : ro2 = vp_updL ro1 c (ro1 c ||| shlL 1 (nI (csN a b c 1)))) (z3 : ro3 = vp_updL ro2 c (ro2 c ||| shlL 1 (nI (csN a b c 2)))) (z4 : ro4 = vp_updL ro3 c (ro3 c ||| shlL 1 (nI (csN a b c 3)))) : CI a b (c + 1) cs4 ha4 ro4 := by
  have hn := gOK_lt hg
  obtain ⟨⟨ga1, ga2⟩, gb1, gb2⟩ := id hg
  obtain ⟨⟨_, hr⟩, hh⟩ := hc_all ⟨a, by omega⟩ ⟨b, by omega⟩ ga1 gb1 ⟨c, by omega⟩ hc
  simp only at hr hh
  obtain ⟨h1, h2, h3, h4⟩ := h
  refine ⟨fun c' hc' i hi => ?_, fun s hs e he => ?_, fun c' hc' => ?_, fun c' hc' hc2 => ?_⟩
  · rw [x4, x3, x2, x1, upd_at, upd_at, upd_at, upd_at]
    by_cases e : c' = c
    · subst e
      rcases (show i = 0 ∨ i = 1 ∨ i = 2 ∨ i = 3 by omega) with rfl | rfl | rfl | rfl
      · rw [if_neg (by omega), if_neg (by omega), if_neg (by omega), if_pos rfl]
      · rw [if_neg (by omega), if_neg (by omega), if_pos rfl]
      · rw [if_neg (by omega), if_pos rfl]
      · rw [if_pos rfl]
    · rw [if_neg (by omega), if_neg (by omega), if_neg (by omega), if_neg (by omega)]
      exact h1 c' (by omega) i hi
  · have hq := hh ⟨s, by omega⟩ hs ⟨e, he⟩
    simp only at hq
    rw [y4, y3, y2, y1, upd_at, upd_at, upd_at, upd_at, show fsN 0 = 1 from rfl, show fsN 1 = 0 from rfl, show fsN 2 = 1 from rfl, show fsN 3 = 0 from rfl]
    by_cases q : haN a b s e = c
    · have hq := hq.mp q
      rw [q, if_pos (show c < c + 1 by omega)]
      repeat' split
      all_goals first | rfl | (exfalso; omega)
    · rw [if_neg (fun z => q (hq.mpr (by omega))), if_neg (fun z => q (hq.mpr (by omega))), if_neg (fun z => q (hq.mpr (by omega))), if_neg (fun z => q (hq.mpr (by omega))), h2 s hs e he]
      by_cases z : haN a b s e < c
      · rw [if_pos z, if_pos (by omega)]
      · rw [if_neg z, if_neg (by omega)]
  · by_cases e : c' = c
    · subst e
      rw [z4, pk_uLs, z3, pk_uLs, z2, pk_uLs, z1, pk_uLs, h4 c' (Nat.le_refl _) (by omega)]
      exact hr
    · rw [z4, pk_uLn e, z3, pk_uLn e, z2, pk_uLn e, z1, pk_uLn e]
      exact h3 c' (by omega)
  · have e : c' ≠ c := by omega
    rw [z4, pk_uLn e, z3, pk_uLn e, z2, pk_uLn e, z1, pk_uLn e]
    exact h4 c' (by omega) hc2
theorem lyg (a x y : Nat) : f_X4_lying (nI x) (nI y) (nI a) = nI (lyN a x y) := by rw [f_X4_lying, pk_mul, nI_add]; rfl
theorem dmu {a x y : Nat} (hx : x < a) : (y * a + x) / a = y ∧ (y * a + x) % a = x := (Nat.div_mod_unique (by omega)).mpr ⟨by rw [Nat.mul_comm a y]; omega, hx⟩
theorem row_lt {a b x y : Nat} (hx : x < a) (hy : y < b) : y * a + x < a * b := by
  have h1 : (y + 1) * a ≤ b * a := Nat.mul_le_mul_right a hy
  rw [Nat.succ_mul, Nat.mul_comm b a] at h1
  omega
theorem F_lc12 {a b y : Nat} (hg : gOK a b) (hy : y < b) {β : Type} (k : (Nat → Int32) → (Nat → Int32) → (Nat → Int64) → β) : ∀ (f x : Nat) (cs ha : Nat → Int32) (ro : Nat → Int64), x ≤ a → a < x + f → CI a b (y * a + x) cs ha ro → ∃ cs' ha' ro', F_X4_layCells_12 (nI y) (nI a) (nI b) k f (nI x) cs ha ro = k cs' ha' ro' ∧ CI a b (y * a + a) cs' ha' ro' := by
  have hn := gOK_lt hg
  obtain ⟨⟨ga1, ga2⟩, gb1, gb2⟩ := id hg
  intro f
  induction f with
  | zero => intro x cs ha ro h1 h2; exact absurd h2 (by omega)
  | succ f ih =>
    intro x cs ha ro h1 h2 hI
    rw [F_X4_layCells_12]
    by_cases q : a ≤ x
    · rw [if_pos (nI_le q (by omega))]
      have : x = a := by omega
      subst this
      exact ⟨cs, ha, ro, rfl, hI⟩
    · have hc := row_lt (show x < a by omega) hy
      obtain ⟨d1, d2⟩ := dmu (y := y) (show x < a by omega)
      obtain ⟨⟨hcs, _⟩, _⟩ := hc_all ⟨a, by omega⟩ ⟨b, by omega⟩ ga1 gb1 ⟨y * a + x, by omega⟩ hc
      simp only at hcs
      have l0 := hcs ⟨0, by omega⟩
      have l1 := hcs ⟨1, by omega⟩
      have l2 := hcs ⟨2, by omega⟩
      have l3 := hcs ⟨3, by omega⟩
      simp only at l0 l1 l2 l3
      have e0 : lyN a x y = csN a b (y * a + x) 0 := by unfold csN; rw [if_pos rfl, d1, d2]
      have e1 : lyN a x (y + 1) = csN a b (y * a + x) 1 := by unfold csN; rw [if_neg (by decide), if_pos rfl, d1, d2]
      have e2 : stN a b x y = csN a b (y * a + x) 2 := by unfold csN; rw [if_neg (by decide), if_neg (by decide), if_pos rfl, d1, d2]
      have e3 : stN a b (x + 1) y = csN a b (y * a + x) 3 := by unfold csN; rw [if_neg (by decide), if_neg (by decide), if_neg (by decide), d1, d2]
      rw [if_neg (nI_ge (by omega) (by omega)), nI_1 x, nI_1 y, lyg, lyg, std_x4, std_x4, e0, e1, e2, e3, pk_mul, nI_add]
      rw [show (0 : Int32) = nI 0 from rfl, show (1 : Int32) = nI 1 from rfl, show (2 : Int32) = nI 2 from rfl, show (3 : Int32) = nI 3 from rfl]
      rw [bd, lcs (by omega) (by omega) (by omega), bd, lcs (by omega) (by omega) (by omega), bd, lcs (by omega) (by omega) (by omega), bd, lcs (by omega) (by omega) (by omega)]
      exact ih (x + 1) _ _ _ (by omega) (by omega) (CI_step hg hc hI rfl rfl rfl rfl rfl rfl rfl rfl rfl rfl rfl rfl)
theorem F_lc2 {a b : Nat} (hg : gOK a b) {β : Type} (k : (Nat → Int32) → (Nat → Int32) → (Nat → Int64) → β) : ∀ (f y : Nat) (cs ha : Nat → Int32) (ro : Nat → Int64), y ≤ b → b < y + f → CI a b (y * a) cs ha ro → ∃ cs' ha' ro', F_X4_layCells_2 (nI a) (nI b) k f (nI y) cs ha ro = k cs' ha' ro' ∧ CI a b (b * a) cs' ha' ro' := by
  have hn := gOK_lt hg
  obtain ⟨⟨ga1, ga2⟩, gb1, gb2⟩ := id hg
  intro f
  induction f with
  | zero => intro y cs ha ro h1 h2; exact absurd h2 (by omega)
  | succ f ih =>
    intro y cs ha ro h1 h2 hI
    rw [F_X4_layCells_2]
    by_cases q : b ≤ y
    · rw [if_pos (nI_le q (by omega))]
      have : y = b := by omega
      subst this
      exact ⟨cs, ha, ro, rfl, hI⟩
    · rw [if_neg (nI_ge (by omega) (by omega)), fuN (by omega), nI_1 y]
      obtain ⟨cs', ha', ro', e, h⟩ := F_lc12 hg (show y < b by omega) (fun z5 z6 z7 => F_X4_layCells_2 (nI a) (nI b) k f (nI (y + 1)) z5 z6 z7) (a + 1) 0 cs ha ro (by omega) (by omega) hI
      rw [show nI 0 = (0 : Int32) from rfl] at e
      rw [e]
      rw [show y * a + a = (y + 1) * a by rw [Nat.succ_mul]] at h
      exact ih (y + 1) cs' ha' ro' (by omega) (by omega) h
theorem F_lc95 {a b : Nat} (hg : gOK a b) {ha : Nat → Int32} (hha : ∀ s, s < sdN a b → ∀ e, e < 2 → ha (2 * s + e) = nI (haN a b s e)) {β : Type} (k : (Nat → Int64) → β) : ∀ (f j : Nat) (ro : Nat → Int64), j ≤ sdN a b → sdN a b < j + f → (∀ i, bt (ro 16) i = (decide (i < j) && inC a b 16 i)) → ∃ ro', F_X4_layCells_95 (nI (sdN a b)) ha k f (nI j) ro = k ro' ∧ (∀ c, c < 16 → ro' c = ro c) ∧ ro' 16 = lN (roN a b 16) := by
  have hn := gOK_lt hg
  intro f
  induction f with
  | zero => intro j ro h1 h2; exact absurd h2 (by omega)
  | succ f ih =>
    intro j ro h1 h2 hb
    rw [F_X4_layCells_95]
    by_cases q : sdN a b ≤ j
    · rw [if_pos (nI_le q (by omega))]
      refine ⟨ro, rfl, fun _ _ => rfl, bt_all_ext (fun i => ?_)⟩
      rw [hb i, ro_bit' hg]
      by_cases z : i < j
      · rw [decide_eq_true z]; rfl
      · rw [inC_out hg 16 i (by omega)]; simp
    · have hj : j < sdN a b := by omega
      have hle := ha_le hg hj
      rw [if_neg (nI_ge (by omega) (by omega)), show (0 : Int32) = nI 0 from rfl, show (1 : Int32) = nI 1 from rfl, hand_val hg hj (by omega) hha, hand_val hg hj (by omega) hha, show nI j + nI 1 = nI (j + 1) from nI_1 j, show (16 : Int32) = nI 16 from rfl, putL_val _ _ (by omega) (by decide), ro_at (by omega), f_X7_bit]
      have put : inC a b 16 j = true → ∃ ro', F_X4_layCells_95 (nI (sdN a b)) ha k f (nI (j + 1)) (vp_updL ro 16 (ro 16 ||| shlL 1 (nI j))) = k ro' ∧ (∀ c, c < 16 → ro' c = ro c) ∧ ro' 16 = lN (roN a b 16) := fun hin => by
        obtain ⟨ro', e, g1, g2⟩ := ih (j + 1) (vp_updL ro 16 (ro 16 ||| shlL 1 (nI j))) (by omega) (by omega) (fun i => by
          rw [pk_uLs, bt_put (by omega), hb i]
          by_cases z : i = j
          · subst z; rw [hin]; simp
          · by_cases z2 : i < j
            · simp [z, z2, show i < j + 1 by omega]
            · simp [z, z2, show ¬ i < j + 1 by omega])
        exact ⟨ro', e, fun c hc => by rw [g1 c hc, pk_uLn (by omega)], g2⟩
      by_cases q0 : haN a b j 0 = 16
      · rw [if_pos (by rw [q0])]
        exact put (by unfold inC; rw [decide_eq_true hj, q0]; simp)
      · rw [if_neg (fun e => q0 ((nI_eq (by omega) (by omega)).mp e))]
        by_cases q1 : haN a b j 1 = 16
        · rw [if_pos (by rw [q1])]
          exact put (by unfold inC; rw [decide_eq_true hj, q1]; simp)
        · rw [if_neg (fun e => q1 ((nI_eq (by omega) (by omega)).mp e))]
          have hin : inC a b 16 j = false := by unfold inC; simp [q0, q1]
          exact ih (j + 1) ro (by omega) (by omega) (fun i => by
            rw [hb i]
            by_cases z : i = j
            · subst z; rw [hin]; simp
            · by_cases z2 : i < j
              · simp [z2, show i < j + 1 by omega]
              · simp [z2, show ¬ i < j + 1 by omega])
theorem layCells_val {a b : Nat} (hg : gOK a b) {cs ha : Nat → Int32} {ro : Nat → Int64} (h1 : ∀ i, i < 80 → ha i = 16) (h2 : ∀ i, i < 17 → ro i = 0) :
    (∀ c, c < a * b → ∀ i, i < 4 → (f_X4_layCells (nI a) (nI b) (nI (sdN a b)) cs ha ro).1 (4 * c + i) = nI (csN a b c i)) ∧ (∀ s, s < sdN a b → ∀ e, e < 2 → (f_X4_layCells (nI a) (nI b) (nI (sdN a b)) cs ha ro).2.1 (2 * s + e) = nI (haN a b s e)) ∧ (∀ c, c < a * b → (f_X4_layCells (nI a) (nI b) (nI (sdN a b)) cs ha ro).2.2 c = lN (roN a b c)) ∧ (f_X4_layCells (nI a) (nI b) (nI (sdN a b)) cs ha ro).2.2 16 = lN (roN a b 16) := by
  have hn := gOK_lt hg
  obtain ⟨⟨ga1, ga2⟩, gb1, gb2⟩ := id hg
  rw [f_X4_layCells, fuN (by omega), fuN (by omega)]
  obtain ⟨cs', ha', ro', e, i1, i2, i3, i4⟩ := F_lc2 hg (fun z8 z9 z10 => F_X4_layCells_95 (nI (sdN a b)) z9 (fun z11 => (z8, z9, z11)) (sdN a b + 1) 0 z10) (b + 1) 0 cs ha ro (by omega) (by omega) ⟨fun c hc => absurd hc (by omega), fun s hs e he => by rw [h1 _ (by omega), if_neg (by omega)]; rfl, fun c hc => absurd hc (by omega), fun c _ hc => h2 c hc⟩
  rw [show nI 0 = (0 : Int32) from rfl] at e
  rw [e]
  rw [Nat.mul_comm b a] at i1 i2 i3 i4
  have hha : ∀ s, s < sdN a b → ∀ e, e < 2 → ha' (2 * s + e) = nI (haN a b s e) := fun s hs e he => by
    rw [i2 s hs e he]
    rcases hands_ok hg hs he with z | z
    · rw [if_pos z]
    · rw [z, if_neg (by omega)]
  obtain ⟨ro2, e2, g1, g2⟩ := F_lc95 hg hha (fun z11 => (cs', ha', z11)) (sdN a b + 1) 0 ro' (by omega) (by omega) (fun i => by rw [i4 16 (by omega) (by omega), bt_zero]; simp)
  rw [show nI 0 = (0 : Int32) from rfl] at e2
  rw [e2]
  exact ⟨i1, hha, fun c hc => (g1 c (by omega)).trans (i3 c hc), g2⟩
