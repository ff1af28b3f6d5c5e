/-! the class's tables of a grid: points, neighbours, what is settled -/
def sbit (v : Int32) : Int64 := if v = -9 then 0 else shlL 1 v
theorem nI_ne9 {s : Nat} (hs : s < 2 ^ 31) : ¬ nI s = -9 := fun e => by
  have := congrArg Int32.toInt e
  rw [nI_toInt hs, show (-9 : Int32).toInt = -9 from rfl] at this
  omega
theorem lps {p i s : Nat} (hp : p < 25) (hi : i < 4) (hs : s < 40) (ps en : Nat → Int32) (me : Nat → Int64) : f_X4_layPointSide (nI p) (nI i) (nI s) ps en me = (upd ps (4 * p + i) (nI s), upd en (2 * s + fsN i) (nI p), vp_updL me p (me p ||| sbit (nI s))) := by
  have hf := fs_le i
  have e1 : (nI p * 4) + nI i = nI (4 * p + i) := by rw [show (4 : Int32) = nI 4 from rfl, pk_mul, nI_add, Nat.mul_comm p 4]
  have e2 : (nI s * 2) + f_X4_firstOrSecond (nI i) = nI (2 * s + fsN i) := by rw [fs_all ⟨i, hi⟩, show (2 : Int32) = nI 2 from rfl, pk_mul, nI_add, Nat.mul_comm s 2]
  have h9 := nI_ne9 (show s < 2 ^ 31 by omega)
  rw [f_X4_layPointSide, if_neg h9, e1, e2, putI_val _ _ (by omega) (by decide), putI_val _ _ (by omega) (by decide), putL_val _ _ (by omega) (by decide), me_at (by omega), f_X7_bit, sbit, if_neg h9]
theorem lps9 {p i : Nat} (hp : p < 25) (hi : i < 4) (ps en : Nat → Int32) (me : Nat → Int64) : f_X4_layPointSide (nI p) (nI i) (-9) ps en me = (upd ps (4 * p + i) (-9), en, vp_updL me p (me p ||| sbit (-9))) := by
  have e1 : (nI p * 4) + nI i = nI (4 * p + i) := by rw [show (4 : Int32) = nI 4 from rfl, pk_mul, nI_add, Nat.mul_comm p 4]
  have e3 : vp_updL me p (me p ||| sbit (-9)) = me := by
    funext j
    rw [updL_at, sbit, if_pos rfl]
    split
    · rename_i e; rw [e]; simp
    · rfl
  rw [e3, f_X4_layPointSide, if_pos rfl, e1, putI_val _ _ (by omega) (by decide)]
/-- what one side of a point does -/
def PS (a b p i : Nat) (ps en : Nat → Int32) (me : Nat → Int64) (ps' en' : Nat → Int32) (me' : Nat → Int64) : Prop :=
  (∀ j, ps' j = if j = 4 * p + i then psI a b p i else ps j) ∧ (∀ s, s < sdN a b → ∀ e, e < 2 → en' (2 * s + e) = if psI a b p i = nI s ∧ e = fsN i then nI p else en (2 * s + e)) ∧ me' = vp_updL me p (me p ||| sbit (psI a b p i))
theorem ps_all : ∀ a b : Fin 5, 1 ≤ a.val → 1 ≤ b.val → ∀ p : Fin 25, p.val < (a.val + 1) * (b.val + 1) → (∀ i : Fin 4, psI a.val b.val p.val i.val = -9 ∨ ∃ s : Fin 40, s.val < sdN a.val b.val ∧ psI a.val b.val p.val i.val = nI s.val) ∧ ((((0 ||| sbit (psI a.val b.val p.val 0)) ||| sbit (psI a.val b.val p.val 1)) ||| sbit (psI a.val b.val p.val 2)) ||| sbit (psI a.val b.val p.val 3)) = lN (meN a.val b.val p.val) := by decide +kernel
theorem pe_all : ∀ a b : Fin 5, 1 ≤ a.val → 1 ≤ b.val → ∀ p : Fin 25, p.val < (a.val + 1) * (b.val + 1) → ∀ s : Fin 40, s.val < sdN a.val b.val → ∀ e : Fin 2, enN a.val b.val s.val e.val = p.val ↔ ((psI a.val b.val p.val 0 = nI s.val ∧ e.val = 1) ∨ (psI a.val b.val p.val 1 = nI s.val ∧ e.val = 0) ∨ (psI a.val b.val p.val 2 = nI s.val ∧ e.val = 1) ∨ (psI a.val b.val p.val 3 = nI s.val ∧ e.val = 0)) := by decide +kernel
theorem lps_PS {a b p i : Nat} (hg : gOK a b) (hp : p < (a + 1) * (b + 1)) (hi : i < 4) (ps en : Nat → Int32) (me : Nat → Int64) : PS a b p i ps en me (f_X4_layPointSide (nI p) (nI i) (psI a b p i) ps en me).1 (f_X4_layPointSide (nI p) (nI i) (psI a b p i) ps en me).2.1 (f_X4_layPointSide (nI p) (nI i) (psI a b p i) ps en me).2.2 := by
  have hn := gOK_lt hg
  obtain ⟨⟨ga1, ga2⟩, gb1, gb2⟩ := id hg
  have hf := fs_le i
  have h := (ps_all ⟨a, by omega⟩ ⟨b, by omega⟩ ga1 gb1 ⟨p, by omega⟩ hp).1 ⟨i, hi⟩
  simp only at h
  rcases h with h | ⟨s, hs, h⟩
  · unfold PS
    rw [h, lps9 (by omega) hi]
    refine ⟨fun j => upd_at _ _ _ _, fun s hs e he => ?_, rfl⟩
    rw [if_neg (fun z => nI_ne9 (show s < 2 ^ 31 by omega) z.1.symm)]
  · unfold PS
    rw [h, lps (by omega) hi s.isLt]
    refine ⟨fun j => upd_at _ _ _ _, fun t ht e he => ?_, rfl⟩
    show upd en (2 * s.val + fsN i) (nI p) (2 * t + e) = _
    rw [upd_at]
    have h40 := s.isLt
    by_cases z : s.val = t ∧ e = fsN i
    · rw [if_pos (by omega), if_pos ⟨by rw [z.1], z.2⟩]
    · rw [if_neg (fun y => z (by omega)), if_neg (fun y => z ⟨(nI_eq (by omega) (by omega)).mp y.1, y.2⟩)]
def PI (a b n : Nat) (ps en : Nat → Int32) (me : Nat → Int64) : Prop := (∀ p, p < n → ∀ i, i < 4 → ps (4 * p + i) = psI a b p i) ∧ (∀ s, s < sdN a b → ∀ e, e < 2 → enN a b s e < n → en (2 * s + e) = nI (enN a b s e)) ∧ (∀ p, p < n → me p = lN (meN a b p)) ∧ ∀ p, n ≤ p → p < 25 → me p = 0
theorem PI_step {a b p : Nat} (hg : gOK a b) (hp : p < (a + 1) * (b + 1)) {ps ps1 ps2 ps3 ps4 en en1 en2 en3 en4 : Nat → Int32} {me me1 me2 me3 me4 : Nat → Int64} (h : PI a b p ps en me)
    (x1 : PS a b p 0 ps en me ps1 en1 me1) (x2 : PS a b p 1 ps1 en1 me1 ps2 en2 me2) (x3 : PS a b p 2 ps2 en2 me2 ps3 en3 me3) (x4 : PS a b p 3 ps3 en3 me3 ps4 en4 me4) : PI a b (p + 1) ps4 en4 me4 := by
  have hn := gOK_lt hg
  obtain ⟨⟨ga1, ga2⟩, gb1, gb2⟩ := id hg
  have hm := (ps_all ⟨a, by omega⟩ ⟨b, by omega⟩ ga1 gb1 ⟨p, by omega⟩ hp).2
  simp only at hm
  obtain ⟨h1, h2, h3, h4⟩ := h
  obtain ⟨a1, b1, c1⟩ := x1
  obtain ⟨a2, b2, c2⟩ := x2
  obtain ⟨a3, b3, c3⟩ := x3
  obtain ⟨a4, b4, c4⟩ := x4
  refine ⟨fun p' hp' i hi => ?_, fun s hs e he hen => ?_, fun p' hp' => ?_, fun p' hp' hp2 => ?_⟩
  · rw [a4, a3, a2, a1]
    by_cases e : p' = p
    · subst e
      rcases (show i = 0 ∨ i = 1 ∨ i = 2 ∨ i = 3 by omega) with rfl | rfl | rfl | rfl
      · rw [if_neg (by omega), if_neg (by omega), if_neg (by omega), if_pos rfl]
      · rw [if_neg (by omega), if_neg (by omega), if_pos rfl]
      · rw [if_neg (by omega), if_pos rfl]
      · rw [if_pos rfl]
    · rw [if_neg (by omega), if_neg (by omega), if_neg (by omega), if_neg (by omega)]
      exact h1 p' (by omega) i hi
  · have hq := pe_all ⟨a, by omega⟩ ⟨b, by omega⟩ ga1 gb1 ⟨p, by omega⟩ hp ⟨s, by omega⟩ hs ⟨e, he⟩
    simp only at hq
    rw [b4 s hs e he, b3 s hs e he, b2 s hs e he, b1 s hs e he, show fsN 0 = 1 from rfl, show fsN 1 = 0 from rfl, show fsN 2 = 1 from rfl, show fsN 3 = 0 from rfl]
    by_cases q : enN a b s e = p
    · rw [q]
      rcases hq.mp q with z | z | z | z
      · rw [if_pos z]; repeat' split <;> try rfl
      · rw [if_pos z]; repeat' split <;> try rfl
      · rw [if_pos z]; repeat' split <;> try rfl
      · rw [if_pos z]
    · rw [if_neg (fun z => q (hq.mpr (Or.inr (Or.inr (Or.inr z))))), if_neg (fun z => q (hq.mpr (Or.inr (Or.inr (Or.inl z))))), if_neg (fun z => q (hq.mpr (Or.inr (Or.inl z)))), if_neg (fun z => q (hq.mpr (Or.inl z)))]
      exact h2 s hs e he (by omega)
  · by_cases e : p' = p
    · subst e
      rw [c4, pk_uLs, c3, pk_uLs, c2, pk_uLs, c1, pk_uLs, h4 p' (Nat.le_refl _) (by omega)]
      exact hm
    · rw [c4, pk_uLn e, c3, pk_uLn e, c2, pk_uLn e, c1, pk_uLn e]
      exact h3 p' (by omega)
  · have e : p' ≠ p := by omega
    rw [c4, pk_uLn e, c3, pk_uLn e, c2, pk_uLn e, c1, pk_uLn e]
    exact h4 p' (by omega) hp2
theorem pv_all : ∀ a b x y : Fin 5, 1 ≤ a.val → 1 ≤ b.val → x.val ≤ a.val → y.val ≤ b.val →
    (psI a.val b.val (y.val * (a.val + 1) + x.val) 0 = if nI x.val ≤ 0 then -9 else f_X4_lying (nI x.val - 1) (nI y.val) (nI a.val)) ∧ (psI a.val b.val (y.val * (a.val + 1) + x.val) 1 = if nI a.val ≤ nI x.val then -9 else f_X4_lying (nI x.val) (nI y.val) (nI a.val)) ∧ (psI a.val b.val (y.val * (a.val + 1) + x.val) 2 = if nI y.val ≤ 0 then -9 else f_X4_standing (nI x.val) (nI y.val - 1) (nI a.val) (nI b.val)) ∧ (psI a.val b.val (y.val * (a.val + 1) + x.val) 3 = if nI b.val ≤ nI y.val then -9 else f_X4_standing (nI x.val) (nI y.val) (nI a.val) (nI b.val)) := by decide +kernel
theorem F_lp12 {a b y : Nat} (hg : gOK a b) (hy : y ≤ b) {β : Type} (k : (Nat → Int32) → (Nat → Int32) → (Nat → Int64) → β) : ∀ (f x : Nat) (ps en : Nat → Int32) (me : Nat → Int64), x ≤ a + 1 → a + 1 < x + f → PI a b (y * (a + 1) + x) ps en me → ∃ ps' en' me', F_X4_layPoints_12 (nI y) (nI a) (nI b) k f (nI x) ps en me = k ps' en' me' ∧ PI a b (y * (a + 1) + (a + 1)) ps' en' me' := by
  have hn := gOK_lt hg
  obtain ⟨⟨ga1, ga2⟩, gb1, gb2⟩ := id hg
  intro f
  induction f with
  | zero => intro x ps en me h1 h2; exact absurd h2 (by omega)
  | succ f ih =>
    intro x ps en me h1 h2 hI
    rw [F_X4_layPoints_12]
    by_cases q : a < x
    · rw [if_pos (nI_lt q (by omega))]
      have : x = a + 1 := by omega
      subst this
      exact ⟨ps, en, me, rfl, hI⟩
    · have hp := row_lt (a := a + 1) (b := b + 1) (x := x) (y := y) (by omega) (by omega)
      obtain ⟨e0, e1, e2, e3⟩ := pv_all ⟨a, by omega⟩ ⟨b, by omega⟩ ⟨x, by omega⟩ ⟨y, by omega⟩ ga1 gb1 (by show x ≤ a; omega) hy
      simp only at e0 e1 e2 e3
      rw [if_neg (nI_nlt (by omega) (by omega)), nI_1 x, nI_1 a, pk_mul, nI_add]
      have key : ∀ v0 v1 v2 v3 : Int32, v0 = psI a b (y * (a + 1) + x) 0 → v1 = psI a b (y * (a + 1) + x) 1 → v2 = psI a b (y * (a + 1) + x) 2 → v3 = psI a b (y * (a + 1) + x) 3 → ∃ ps' en' me', (bd (f_X4_layPointSide (nI (y * (a + 1) + x)) 0 v0 ps en me) (fun u1 => (bd (f_X4_layPointSide (nI (y * (a + 1) + x)) 1 v1 u1.1 u1.2.1 u1.2.2) (fun u2 => (bd (f_X4_layPointSide (nI (y * (a + 1) + x)) 2 v2 u2.1 u2.2.1 u2.2.2) (fun u3 => (bd (f_X4_layPointSide (nI (y * (a + 1) + x)) 3 v3 u3.1 u3.2.1 u3.2.2) (fun u4 => F_X4_layPoints_12 (nI y) (nI a) (nI b) k f (nI (x + 1)) u4.1 u4.2.1 u4.2.2)))))))) = k ps' en' me' ∧ PI a b (y * (a + 1) + (a + 1)) ps' en' me' := by
        intro v0 v1 v2 v3 w0 w1 w2 w3
        subst w0; subst w1; subst w2; subst w3
        simp only [bd]
        exact ih (x + 1) _ _ _ (by omega) (by omega) (PI_step hg hp hI (lps_PS (i := 0) hg hp (by omega) _ _ _) (lps_PS (i := 1) hg hp (by omega) _ _ _) (lps_PS (i := 2) hg hp (by omega) _ _ _) (lps_PS (i := 3) hg hp (by omega) _ _ _))
      repeat' split
      all_goals exact key _ _ _ _ (by first | rw [e0, if_pos (by assumption)] | rw [e0, if_neg (by assumption)]) (by first | rw [e1, if_pos (by assumption)] | rw [e1, if_neg (by assumption)]) (by first | rw [e2, if_pos (by assumption)] | rw [e2, if_neg (by assumption)]) (by first | rw [e3, if_pos (by assumption)] | rw [e3, if_neg (by assumption)])
theorem F_lp2 {a b : Nat} (hg : gOK a b) {β : Type} (k : (Nat → Int32) → (Nat → Int32) → (Nat → Int64) → β) : ∀ (f y : Nat) (ps en : Nat → Int32) (me : Nat → Int64), y ≤ b + 1 → b + 1 < y + f → PI a b (y * (a + 1)) ps en me → ∃ ps' en' me', F_X4_layPoints_2 (nI a) (nI b) k f (nI y) ps en me = k ps' en' me' ∧ PI a b ((b + 1) * (a + 1)) ps' en' me' := by
  have hn := gOK_lt hg
  obtain ⟨⟨ga1, ga2⟩, gb1, gb2⟩ := id hg
  intro f
  induction f with
  | zero => intro y ps en me h1 h2; exact absurd h2 (by omega)
  | succ f ih =>
    intro y ps en me h1 h2 hI
    rw [F_X4_layPoints_2]
    by_cases q : b < y
    · rw [if_pos (nI_lt q (by omega))]
      have : y = b + 1 := by omega
      subst this
      exact ⟨ps, en, me, rfl, hI⟩
    · rw [if_neg (nI_nlt (by omega) (by omega)), fueN (by omega), nI_1 y]
      obtain ⟨ps', en', me', e, h⟩ := F_lp12 hg (show y ≤ b by omega) (fun z5 z6 z7 => F_X4_layPoints_2 (nI a) (nI b) k f (nI (y + 1)) z5 z6 z7) (a + 2) 0 ps en me (by omega) (by omega) hI
      rw [show nI 0 = (0 : Int32) from rfl] at e
      rw [e]
      rw [show y * (a + 1) + (a + 1) = (y + 1) * (a + 1) by rw [Nat.succ_mul]] at h
      exact ih (y + 1) ps' en' me' (by omega) (by omega) h
theorem layPoints_val {a b : Nat} (hg : gOK a b) {ps en : Nat → Int32} {me : Nat → Int64} (h2 : ∀ i, i < 25 → me i = 0) :
    (∀ p, p < (a + 1) * (b + 1) → ∀ i, i < 4 → (f_X4_layPoints (nI a) (nI b) ps en me).1 (4 * p + i) = psI a b p i) ∧ (∀ s, s < sdN a b → ∀ e, e < 2 → (f_X4_layPoints (nI a) (nI b) ps en me).2.1 (2 * s + e) = nI (enN a b s e)) ∧ ∀ p, p < (a + 1) * (b + 1) → (f_X4_layPoints (nI a) (nI b) ps en me).2.2 p = lN (meN a b p) := by
  have hn := gOK_lt hg
  obtain ⟨⟨ga1, ga2⟩, gb1, gb2⟩ := id hg
  rw [f_X4_layPoints, fueN (by omega)]
  obtain ⟨ps', en', me', e, i1, i2, i3, i4⟩ := F_lp2 hg (fun z34 z35 z36 => (z34, z35, z36)) (b + 2) 0 ps en me (by omega) (by omega) ⟨fun p hp => absurd hp (by omega), fun s hs e he h => absurd h (by omega), fun p hp => absurd hp (by omega), fun p _ hp => h2 p hp⟩
  rw [show nI 0 = (0 : Int32) from rfl] at e
  rw [e]
  rw [Nat.mul_comm (b + 1) (a + 1)] at i1 i2 i3
  exact ⟨i1, fun s hs e he => i2 s hs e he (en_lt hg hs e he), i3⟩
theorem end_val {a b s e : Nat} (hg : gOK a b) (hs : s < sdN a b) (he : e < 2) {en : Nat → Int32} (hen : ∀ s, s < sdN a b → ∀ e, e < 2 → en (2 * s + e) = nI (enN a b s e)) : f_X4_end (nI s) (nI e) en = nI (enN a b s e) := by
  have hn := gOK_lt hg
  rw [f_X4_end, show (2 : Int32) = nI 2 from rfl, pk_mul, nI_add, atI_val _ (by omega) (by decide), Nat.mul_comm s 2]
  exact hen s hs e he
theorem F_lb2 {a b : Nat} (hg : gOK a b) {en : Nat → Int32} {me : Nat → Int64} (hen : ∀ s, s < sdN a b → ∀ e, e < 2 → en (2 * s + e) = nI (enN a b s e)) (hme : ∀ p, p < (a + 1) * (b + 1) → me p = lN (meN a b p)) {β : Type} (k : (Nat → Int64) → β) : ∀ (f j : Nat) (be : Nat → Int64), j ≤ sdN a b → sdN a b < j + f → (∀ s, s < j → be s = lN (beN a b s)) → ∃ be', F_X4_layBesides_2 (nI (sdN a b)) en me k f (nI j) be = k be' ∧ ∀ s, s < sdN a b → be' s = lN (beN a b s) := by
  have hn := gOK_lt hg
  intro f
  induction f with
  | zero => intro j be h1 h2; exact absurd h2 (by omega)
  | succ f ih =>
    intro j be h1 h2 hI
    rw [F_X4_layBesides_2]
    by_cases q : sdN a b ≤ j
    · rw [if_pos (nI_le q (by omega))]
      exact ⟨be, rfl, fun s hs => hI s (by omega)⟩
    · have hj : j < sdN a b := by omega
      have l0 := en_lt hg hj 0 (by omega)
      have l1 := en_lt hg hj 1 (by omega)
      have v0 := end_val (e := 0) hg hj (by omega) hen
      have v1 := end_val (e := 1) hg hj (by omega) hen
      rw [show nI 0 = (0 : Int32) from rfl] at v0
      rw [show nI 1 = (1 : Int32) from rfl] at v1
      rw [if_neg (nI_ge (by omega) (by omega)), v0, v1, me_at (by omega), me_at (by omega), hme _ l0, hme _ l1, nI_1 j, putL_val _ _ (by omega) (by decide)]
      refine ih (j + 1) _ (by omega) (by omega) (fun s hs => ?_)
      rw [updL_at]
      by_cases e : s = j
      · subst e
        rw [if_pos rfl]
        exact bt_ext (fun i hi => by rw [bt_or, me_bit hg _ hi, me_bit hg _ hi, be_bit hg _ hi])
      · rw [if_neg e]
        exact hI s (by omega)
theorem F_ls28 {N s m : Nat} (hN : N ≤ 16) (hs : s < 64) (hm : m ≤ 16) {β : Type} (k : (Nat → Int64) → β) : ∀ (f j : Nat) (se : Nat → Int64), j ≤ N → N < j + f → ∃ se', F_X4_laySettled_28 (nI s) (nI m) (nI N) k f (nI j) se = k se' ∧ ∀ c, c < N → ∀ i, bt (se' c) i = (bt (se c) i || (decide (j ≤ c) && decide (c ≤ m) && decide (i = s))) := by
  intro f
  induction f with
  | zero => intro j se h1 h2; exact absurd h2 (by omega)
  | succ f ih =>
    intro j se h1 h2
    rw [F_X4_laySettled_28]
    by_cases q : m < j
    · rw [if_pos (nI_lt q (by omega))]
      refine ⟨se, rfl, fun c hc i => ?_⟩
      have : (decide (j ≤ c) && decide (c ≤ m)) = false := by
        by_cases z : j ≤ c
        · rw [decide_eq_false (show ¬ c ≤ m by omega)]; simp
        · rw [decide_eq_false z]; simp
      rw [this]; simp
    · rw [if_neg (nI_nlt (by omega) (by omega))]
      by_cases q2 : N ≤ j
      · rw [if_pos (nI_le q2 (by omega))]
        refine ⟨se, rfl, fun c hc i => ?_⟩
        rw [decide_eq_false (show ¬ j ≤ c by omega)]; simp
      · rw [if_neg (nI_ge (by omega) (by omega)), nI_1 j, putL_val _ _ (show j < 16 by omega) (by decide), f_X7_bit]
        have es : f_X4_settledFrom (nI j) se = se j := by
          rw [f_X4_settledFrom, if_neg (nI_pos (by omega)), if_neg (lit_nle 16 16 rfl (by omega) (by decide)), nI_clamp (by omega)]
        rw [es]
        obtain ⟨se', e, g⟩ := ih (j + 1) (vp_updL se j (se j ||| shlL 1 (nI s))) (by omega) (by omega)
        refine ⟨se', e, fun c hc i => ?_⟩
        rw [g c hc i, updL_at]
        by_cases z : c = j
        · subst z
          rw [if_pos rfl, bt_put hs, decide_eq_false (show ¬ c + 1 ≤ c by omega), decide_eq_true (Nat.le_refl c), decide_eq_true (show c ≤ m by omega)]
          simp
        · rw [if_neg z]
          by_cases z2 : j ≤ c
          · rw [decide_eq_true z2, decide_eq_true (show j + 1 ≤ c by omega)]
          · rw [decide_eq_false z2, decide_eq_false (show ¬ j + 1 ≤ c by omega)]
theorem F_ls2 {a b : Nat} (hg : gOK a b) {ha : Nat → Int32} (hha : ∀ s, s < sdN a b → ∀ e, e < 2 → ha (2 * s + e) = nI (haN a b s e)) {β : Type} (k : (Nat → Int64) → β) : ∀ (f j : Nat) (se : Nat → Int64), j ≤ sdN a b → sdN a b < j + f → (∀ c, c < a * b → ∀ i, bt (se c) i = (decide (i < j) && inS a b c i)) → ∃ se', F_X4_laySettled_2 (nI (a * b)) (nI (sdN a b)) ha k f (nI j) se = k se' ∧ ∀ c, c < a * b → se' c = lN (seN a b c) := by
  have hn := gOK_lt hg
  intro f
  induction f with
  | zero => intro j se h1 h2; exact absurd h2 (by omega)
  | succ f ih =>
    intro j se h1 h2 hI
    rw [F_X4_laySettled_2]
    by_cases q : sdN a b ≤ j
    · rw [if_pos (nI_le q (by omega))]
      refine ⟨se, rfl, fun c hc => bt_all_ext (fun i => ?_)⟩
      rw [hI c hc i, se_bit' hg]
      by_cases z : i < j
      · rw [decide_eq_true z]; simp
      · rw [inS_out c i (by omega)]; simp
    · have hj : j < sdN a b := by omega
      have hle := ha_le hg hj
      have v0 := hand_val (e := 0) hg hj (by omega) hha
      have v1 := hand_val (e := 1) hg hj (by omega) hha
      rw [show nI 0 = (0 : Int32) from rfl] at v0
      rw [show nI 1 = (1 : Int32) from rfl] at v1
      rw [if_neg (nI_ge (by omega) (by omega)), v0, v1, minI_nI (by omega) (by omega), fuN (by omega), nI_1 j]
      obtain ⟨se', e, g⟩ := F_ls28 (N := a * b) (s := j) (m := min (haN a b j 1) (haN a b j 0)) (by omega) (by omega) (by omega) (fun z1 => F_X4_laySettled_2 (nI (a * b)) (nI (sdN a b)) ha k f (nI (j + 1)) z1) (a * b + 1) 0 se (by omega) (by omega)
      rw [show nI 0 = (0 : Int32) from rfl] at e
      rw [e]
      refine ih (j + 1) se' (by omega) (by omega) (fun c hc i => ?_)
      rw [g c hc i, hI c hc i, decide_eq_true (Nat.zero_le c), Bool.true_and]
      by_cases z : i = j
      · subst z
        rw [decide_eq_false (Nat.lt_irrefl i), decide_eq_true (show i < i + 1 by omega), decide_eq_true (rfl : i = i), inS, decide_eq_true hj]
        simp only [Bool.false_and, Bool.false_or, Bool.true_and, Bool.and_true]
        by_cases y0 : c ≤ haN a b i 0
        · by_cases y1 : c ≤ haN a b i 1
          · rw [decide_eq_true y0, decide_eq_true y1, decide_eq_true (show c ≤ min (haN a b i 1) (haN a b i 0) by omega)]; rfl
          · rw [decide_eq_false y1, decide_eq_false (show ¬ c ≤ min (haN a b i 1) (haN a b i 0) by omega)]; simp
        · rw [decide_eq_false y0, decide_eq_false (show ¬ c ≤ min (haN a b i 1) (haN a b i 0) by omega)]; simp
      · rw [decide_eq_false z]
        by_cases z2 : i < j
        · rw [decide_eq_true z2, decide_eq_true (show i < j + 1 by omega)]; simp
        · rw [decide_eq_false z2, decide_eq_false (show ¬ i < j + 1 by omega)]; simp
theorem co_all : ∀ a b : Fin 5, 1 ≤ a.val → 1 ≤ b.val → ∀ c : Fin 16, c.val < a.val * b.val → csN a.val b.val c.val 1 < sdN a.val b.val ∧ enN a.val b.val (csN a.val b.val c.val 1) 1 = cnN a.val b.val c.val := by decide +kernel
theorem F_lo2 {a b : Nat} (hg : gOK a b) {cs en : Nat → Int32} {me : Nat → Int64} (hcs : ∀ c, c < a * b → ∀ i, i < 4 → cs (4 * c + i) = nI (csN a b c i)) (hen : ∀ s, s < sdN a b → ∀ e, e < 2 → en (2 * s + e) = nI (enN a b s e)) (hme : ∀ p, p < (a + 1) * (b + 1) → me p = lN (meN a b p)) {β : Type} (k : (Nat → Int64) → β) : ∀ (f j : Nat) (co : Nat → Int64), j ≤ a * b → a * b < j + f → (∀ c, c < j → co c = lN (meN a b (cnN a b c))) → ∃ co', F_X4_layCorners_2 (nI (a * b)) cs en me k f (nI j) co = k co' ∧ ∀ c, c < a * b → co' c = lN (meN a b (cnN a b c)) := by
  have hn := gOK_lt hg
  obtain ⟨⟨ga1, ga2⟩, gb1, gb2⟩ := id hg
  intro f
  induction f with
  | zero => intro j co h1 h2; exact absurd h2 (by omega)
  | succ f ih =>
    intro j co h1 h2 hI
    rw [F_X4_layCorners_2]
    by_cases q : a * b ≤ j
    · rw [if_pos (nI_le q (by omega))]
      exact ⟨co, rfl, fun s hs => hI s (by omega)⟩
    · have hj : j < a * b := by omega
      obtain ⟨k1, k2⟩ := co_all ⟨a, by omega⟩ ⟨b, by omega⟩ ga1 gb1 ⟨j, by omega⟩ hj
      simp only at k1 k2
      have l1 := en_lt hg k1 1 (by omega)
      have v1 := end_val (e := 1) hg k1 (by omega) hen
      rw [show nI 1 = (1 : Int32) from rfl] at v1
      have vs : f_X4_sideOfCell (nI j) 1 cs = nI (csN a b j 1) := by
        rw [f_X4_sideOfCell, show (4 : Int32) = nI 4 from rfl, pk_mul, show (1 : Int32) = nI 1 from rfl, nI_add, atI_val _ (by omega) (by decide), Nat.mul_comm j 4]
        exact hcs j hj 1 (by omega)
      rw [if_neg (nI_ge (by omega) (by omega)), vs, v1, me_at (by omega), hme _ l1, k2, nI_1 j, putL_val _ _ (by omega) (by decide)]
      refine ih (j + 1) _ (by omega) (by omega) (fun s hs => ?_)
      rw [updL_at]
      by_cases e : s = j
      · subst e; rw [if_pos rfl]
      · rw [if_neg e]
        exact hI s (by omega)
theorem sd_eq (a b : Nat) : a * (b + 1) + (a + 1) * b = sdN a b := by
  rw [Nat.mul_add, Nat.add_mul, sdN]; omega
/-- the whole of it -/
theorem become_val {a b : Nat} (hg : gOK a b) {s_cs s_ps s_ha s_en : Nat → Int32} {s_ro s_me s_be s_se s_co : Nat → Int64} {u : Int32 × Int32 × Int32 × Int32 × Int32 × (Nat → Int32) × (Nat → Int32) × (Nat → Int32) × (Nat → Int32) × (Nat → Int64) × (Nat → Int64) × (Nat → Int64) × (Nat → Int64) × (Nat → Int64)} (hu : f_X4_become (nI a) (nI b) s_cs s_ps s_ha s_en s_ro s_me s_be s_se s_co = u) :
    RGridC a b u.1 u.2.1 u.2.2.1 u.2.2.2.1 u.2.2.2.2.1 u.2.2.2.2.2.1 u.2.2.2.2.2.2.1 u.2.2.2.2.2.2.2.1 u.2.2.2.2.2.2.2.2.1 u.2.2.2.2.2.2.2.2.2.1 u.2.2.2.2.2.2.2.2.2.2.1 u.2.2.2.2.2.2.2.2.2.2.2.1 u.2.2.2.2.2.2.2.2.2.2.2.2.1 u.2.2.2.2.2.2.2.2.2.2.2.2.2 := by
  have hn := gOK_lt hg
  rw [f_X4_become, nI_1 a, nI_1 b, pk_mul, pk_mul, pk_mul, pk_mul, nI_add, sd_eq] at hu
  simp only [bd] at hu
  obtain ⟨c1, c2, c3, c4⟩ := layCells_val hg (cs := s_cs) (fi_val 16 (by decide) s_ha) (fl_val 0 (by decide) s_ro)
  obtain ⟨p1, p2, p3⟩ := layPoints_val hg (ps := s_ps) (en := s_en) (fl_val 0 (by decide) s_me)
  generalize f_X4_layCells (nI a) (nI b) (nI (sdN a b)) s_cs (f_J7_fill_53178 16 80 s_ha) (f_J7_fill_d0a16 0 17 s_ro) = v at hu c1 c2 c3 c4
  generalize f_X4_layPoints (nI a) (nI b) s_ps s_en (f_J7_fill_d0a16 0 25 s_me) = w at hu p1 p2 p3
  have fb := fl_val 0 (show 40 ≤ 100 by decide) s_be
  have fs := fl_val 0 (show 16 ≤ 100 by decide) s_se
  rw [f_X4_layBesides, f_X4_laySettled, f_X4_layCorners, fuN (by omega), fuN (by omega)] at hu
  obtain ⟨be, e1, b1⟩ := F_lb2 hg p2 p3 (fun z => z) (sdN a b + 1) 0 (f_J7_fill_d0a16 0 40 s_be) (by omega) (by omega) (fun s hs => absurd hs (by omega))
  obtain ⟨se, e2, s1⟩ := F_ls2 hg c2 (fun z => z) (sdN a b + 1) 0 (f_J7_fill_d0a16 0 16 s_se) (by omega) (by omega) (fun c hc i => by rw [fs c (by omega), bt_zero]; simp)
  obtain ⟨co, e3, o1⟩ := F_lo2 hg c1 p2 p3 (fun z => z) (a * b + 1) 0 s_co (by omega) (by omega) (fun s hs => absurd hs (by omega))
  rw [show nI 0 = (0 : Int32) from rfl] at e1 e2 e3
  rw [e1, e2, e3] at hu
  subst hu
  exact ⟨rfl, rfl, rfl, rfl, rfl, c1, p1, c2, p2, c3, c4, p3, b1, s1, o1⟩
