/-! loops: what the model lays -/
theorem F_ar {a b W : Nat} (hg : gOK a b) (hW : W < 2 ^ 16) {ho : Nat → Int32} (hho : ∀ s, s < sdN a b → ∀ e, e < 2 → ho (2 * s + e) = nI (haN a b s e)) {β : Type} (k : Int64 → β) : ∀ (n j : Nat) (x : Int64), j ≤ sdN a b → sdN a b < j + n → (∀ i, bt x i = (decide (i < j) && inA a b (fun c => W.testBit c) i)) → ∃ z, F_X8_around_5 (nI W) (nI (sdN a b)) ho k n x (nI j) = k z ∧ ∀ i, bt z i = inA a b (fun c => W.testBit c) i := by
  have hn := gOK_lt hg
  have h16 : ∀ c, 16 ≤ c → W.testBit c = false := fun c hc => Nat.testBit_lt_two_pow (Nat.lt_of_lt_of_le hW (Nat.pow_le_pow_right (by decide) hc))
  intro n
  induction n with
  | zero => intro j x h1 h2; exact absurd h2 (by omega)
  | succ n ih =>
    intro j x h1 h2 hx
    rw [F_X8_around_5]
    by_cases hj : sdN a b ≤ j
    · rw [if_pos (nI_le hj (by omega))]
      refine ⟨x, rfl, fun i => ?_⟩
      rw [hx i]
      rcases Nat.lt_or_ge i j with q | q
      · simp [q]
      · rw [inA_out _ i (by omega)]; simp
    · have hjs : j < sdN a b := by omega
      have hle := ha_le hg hjs
      have n2 : (2 * nI j).toNatClampNeg = 2 * j ∧ (2 * nI j + 1).toNatClampNeg = 2 * j + 1 := by
        have e : 2 * nI j = nI (2 * j) := pk_mul 2 j
        rw [e, show nI (2 * j) + 1 = nI (2 * j + 1) from nI_add _ 1]
        exact ⟨nI_clamp (by omega), nI_clamp (by omega)⟩
      have v0 : ho (2 * j) = nI (haN a b j 0) := hho j hjs 0 (by decide)
      have v1 : ho (2 * j + 1) = nI (haN a b j 1) := hho j hjs 1 (by decide)
      rw [if_neg (nI_ge (by omega) (by omega)), n2.1, n2.2, v0, v1, nI_1, nI_l (by omega)]
      have hb : ∀ h, h ≤ 16 → f_X8_has (lN W) (nI h) = if W.testBit h = true then 1 else 0 := fun h hh => by rw [has_val _ (by omega), bt_lN h (by omega)]
      have no : inA a b (fun c => W.testBit c) j = false → ∃ z, F_X8_around_5 (nI W) (nI (sdN a b)) ho k n (x ||| 0) (nI (j + 1)) = k z ∧ ∀ i, bt z i = inA a b (fun c => W.testBit c) i := fun hA => ih (j + 1) _ (by omega) (by omega) (fun i => by
        rw [bt_or, bt_zero, hx i]
        by_cases e : i = j
        · subst e; rw [hA]; simp
        · by_cases e2 : i < j
          · simp [e2, show i < j + 1 by omega]
          · simp [e2, show ¬ i < j + 1 by omega])
      have ye : inA a b (fun c => W.testBit c) j = true → ∃ z, F_X8_around_5 (nI W) (nI (sdN a b)) ho k n (x ||| shlL 1 (nI j)) (nI (j + 1)) = k z ∧ ∀ i, bt z i = inA a b (fun c => W.testBit c) i := fun hA => ih (j + 1) _ (by omega) (by omega) (fun i => by
        rw [bt_put (by omega), hx i]
        by_cases e : i = j
        · subst e; rw [hA]; simp
        · by_cases e2 : i < j
          · simp [e2, show i < j + 1 by omega, e]
          · simp [e2, show ¬ i < j + 1 by omega, e])
      have eA : inA a b (fun c => W.testBit c) j = (W.testBit (haN a b j 0) ^^ W.testBit (haN a b j 1)) := by
        unfold inA
        rw [decide_eq_true hjs]; rfl
      rw [hb _ hle.1.1, hb _ hle.1.2]
      rw [eA] at no ye
      by_cases p0 : 16 ≤ haN a b j 0
      · have w0 := h16 _ p0
        rw [w0] at no ye
        rw [if_pos (lit_le 16 16 rfl p0 (by omega))]
        by_cases p1 : 16 ≤ haN a b j 1
        · have w1 := h16 _ p1
          rw [w1] at no
          rw [if_pos (lit_le 16 16 rfl p1 (by omega))]
          exact no rfl
        · rw [if_neg (lit_nle 16 16 rfl (show haN a b j 1 < 16 by omega) (by decide))]
          cases c1 : W.testBit (haN a b j 1) with
          | true =>
            rw [c1] at ye
            rw [if_neg (show ¬ (if true = true then (1 : Int32) else 0) = 0 by decide)]
            exact ye rfl
          | false =>
            rw [c1] at no
            rw [if_pos (show (if false = true then (1 : Int32) else 0) = 0 by decide)]
            exact no rfl
      · rw [if_neg (lit_nle 16 16 rfl (show haN a b j 0 < 16 by omega) (by decide))]
        by_cases p1 : 16 ≤ haN a b j 1
        · have w1 := h16 _ p1
          rw [w1] at no ye
          cases c0 : W.testBit (haN a b j 0) with
          | true =>
            rw [c0] at ye
            rw [if_neg (show ¬ (if true = true then (1 : Int32) else 0) = 0 by decide), if_pos (lit_le 16 16 rfl p1 (by omega))]
            exact ye rfl
          | false =>
            rw [c0] at no
            rw [if_pos (show (if false = true then (1 : Int32) else 0) = 0 by decide), if_pos (lit_le 16 16 rfl p1 (by omega))]
            exact no rfl
        · have L1 := lit_nle 16 16 rfl (show haN a b j 1 < 16 by omega) (by decide)
          cases c0 : W.testBit (haN a b j 0) with
          | true =>
            rw [if_neg (show ¬ (if true = true then (1 : Int32) else 0) = 0 by decide), if_neg L1]
            cases c1 : W.testBit (haN a b j 1) with
            | true =>
              rw [c0, c1] at no
              rw [if_neg (show ¬ (if true = true then (1 : Int32) else 0) = 0 by decide)]
              exact no rfl
            | false =>
              rw [c0, c1] at ye
              rw [if_pos (show (if false = true then (1 : Int32) else 0) = 0 by decide)]
              exact ye rfl
          | false =>
            rw [if_pos (show (if false = true then (1 : Int32) else 0) = 0 by decide), if_neg L1]
            cases c1 : W.testBit (haN a b j 1) with
            | true =>
              rw [c0, c1] at ye
              rw [if_neg (show ¬ (if true = true then (1 : Int32) else 0) = 0 by decide)]
              exact ye rfl
            | false =>
              rw [c0, c1] at no
              rw [if_pos (show (if false = true then (1 : Int32) else 0) = 0 by decide)]
              exact no rfl
theorem ar_val {a b W : Nat} (hg : gOK a b) (hW : W < 2 ^ 16) {ho : Nat → Int32} (hho : ∀ s, s < sdN a b → ∀ e, e < 2 → ho (2 * s + e) = nI (haN a b s e)) : f_X8_around (nI W) (nI (sdN a b)) ho = aR a b (fun c => W.testBit c) := by
  have hn := gOK_lt hg
  rw [f_X8_around, fuN (by omega), show (0 : Int32) = nI 0 from rfl]
  obtain ⟨z, e, h⟩ := F_ar hg hW hho (fun z1 => z1) (sdN a b + 1) 0 0 (by omega) (by omega) (fun i => by rw [bt_zero]; simp)
  rw [e]
  exact bt_all_ext (fun i => by rw [h i, aR_bit hg])
theorem F_ri0 (y : Int64) (w h : Int32) (ap : Nat → Int64) {β : Type} (k : Int32 → β) : ∀ (n : Nat) (x : Int32), F_X8_isRing_5 y w h ap k n 0 x = k 0 := by
  intro n x
  cases n with
  | zero => rfl
  | succ n =>
    rw [F_X8_isRing_5]
    split
    · rfl
    · rw [if_pos rfl]
theorem F_ri {a b : Nat} (hg : gOK a b) {y : Int64} {ap : Nat → Int64} (hap : ∀ p, p < (a + 1) * (b + 1) → ap p = lN (meN a b p)) {β : Type} (k : Int32 → β) : ∀ (n j : Nat), j ≤ (a + 1) * (b + 1) → (a + 1) * (b + 1) < j + n → ((∀ p, j ≤ p → p < (a + 1) * (b + 1) → cnt (lN (meN a b p) &&& y) = 0 ∨ cnt (lN (meN a b p) &&& y) = 2) ∧ F_X8_isRing_5 y (nI a) (nI b) ap k n 1 (nI j) = k 1) ∨ (¬ (∀ p, j ≤ p → p < (a + 1) * (b + 1) → cnt (lN (meN a b p) &&& y) = 0 ∨ cnt (lN (meN a b p) &&& y) = 2) ∧ F_X8_isRing_5 y (nI a) (nI b) ap k n 1 (nI j) = k 0) := by
  have hn := gOK_lt hg
  intro n
  induction n with
  | zero => intro j h1 h2; exact absurd h2 (by omega)
  | succ n ih =>
    intro j h1 h2
    rw [F_X8_isRing_5, pts_nI]
    by_cases hj : (a + 1) * (b + 1) ≤ j
    · rw [if_pos (nI_le hj (by omega))]
      exact Or.inl ⟨fun p h3 h4 => absurd h4 (by omega), rfl⟩
    · have hc := cnt_le (lN (meN a b j) &&& y)
      rw [if_neg (nI_ge (by omega) (by omega)), if_neg (show ¬ (1 : Int32) = 0 by decide), nI_clamp (by omega), hap j (by omega), ones_cnt, nI_1]
      have go : (cnt (lN (meN a b j) &&& y) = 0 ∨ cnt (lN (meN a b j) &&& y) = 2) → (((∀ p, j ≤ p → p < (a + 1) * (b + 1) → cnt (lN (meN a b p) &&& y) = 0 ∨ cnt (lN (meN a b p) &&& y) = 2) ∧ F_X8_isRing_5 y (nI a) (nI b) ap k n 1 (nI (j + 1)) = k 1) ∨ (¬ (∀ p, j ≤ p → p < (a + 1) * (b + 1) → cnt (lN (meN a b p) &&& y) = 0 ∨ cnt (lN (meN a b p) &&& y) = 2) ∧ F_X8_isRing_5 y (nI a) (nI b) ap k n 1 (nI (j + 1)) = k 0)) := fun hh => by
        rcases ih (j + 1) (by omega) (by omega) with ⟨g1, g2⟩ | ⟨g1, g2⟩
        · left
          refine ⟨fun p h3 h4 => ?_, g2⟩
          by_cases e : p = j
          · subst e; exact hh
          · exact g1 p (by omega) h4
        · right
          exact ⟨fun q => g1 (fun p h3 h4 => q p (by omega) h4), g2⟩
      by_cases q0 : cnt (lN (meN a b j) &&& y) = 0
      · rw [if_pos (by rw [q0]; rfl)]
        exact go (Or.inl q0)
      · rw [if_neg (lit_ne 0 0 rfl q0 (by omega) (by decide))]
        by_cases q2 : cnt (lN (meN a b j) &&& y) = 2
        · rw [if_pos (by rw [q2]; rfl)]
          exact go (Or.inr q2)
        · rw [if_neg (lit_ne 2 2 rfl q2 (by omega) (by decide)), F_ri0]
          exact Or.inr ⟨fun q => by rcases q j (by omega) (by omega) with e | e <;> omega, rfl⟩
theorem neg_bit {x : Int64} {t : Nat} (ht : t < 64) (hl : ∀ j, j < t → bt x j = false) (hb : bt x t = true) (hm : ∀ k, bt (x - 1) k = if k < t then true else if k = t then false else bt x k) : x &&& (-x) = shlL 1 (nI t) := by
  have e : -x = (x - 1) ^^^ (-1) := by
    apply Int64.toBitVec_inj.mp
    rw [Int64.toBitVec_neg, Int64.toBitVec_xor, Int64.toBitVec_sub, show (-1 : Int64).toBitVec = BitVec.allOnes 64 by decide, BitVec.xor_allOnes, show (1 : Int64).toBitVec = 1#64 by decide, BitVec.not_sub_one_eq_not_add_one, BitVec.neg_eq_not_add]
  rw [e]
  apply bt_ext
  intro k hk
  rw [bt_and, bt_not _ hk, hm k, bt_one_shl ht]
  by_cases q : k < t
  · rw [hl k q, decide_eq_false (by omega)]; rfl
  · by_cases q2 : k = t
    · subst q2; simp [hb]
    · simp [q, q2]
theorem ring_iff {a b : Nat} (hg : gOK a b) {ap : Nat → Int64} (hap : ∀ p, p < (a + 1) * (b + 1) → ap p = lN (meN a b p)) {x : Int64} (hx : ∀ i, sdN a b ≤ i → bt x i = false) (h0 : x ≠ 0) : ¬ f_X8_isRing x (nI a) (nI b) ap = 0 ↔ ((∀ p, p < (a + 1) * (b + 1) → cnt (lN (meN a b p) &&& x) = 0 ∨ cnt (lN (meN a b p) &&& x) = 2) ∧ Cn a b x) := by
  have hn := gOK_lt hg
  rw [f_X8_isRing, pts_nI, fuN (by omega), show (0 : Int32) = nI 0 from rfl]
  obtain ⟨t, ht64, htb, htl, htm⟩ := low_bit h0
  have hts : t < sdN a b := by
    rcases Nat.lt_or_ge t (sdN a b) with z | z
    · exact z
    · rw [hx t z] at htb; cases htb
  have hL := chain_least hg (S := x) (T := x &&& (-x)) hap
  rw [neg_bit ht64 htl htb htm] at hL ⊢
  rcases F_ri hg (y := x) hap (fun z1 => (if z1 = nI 0 then nI 0 else (if (lg_cmp (f_X8_chain (shlL 1 (nI t)) x (nI a) (nI b) ap) x) = nI 0 then (1 : Int32) else nI 0))) ((a + 1) * (b + 1) + 1) 0 (by omega) (by omega) with ⟨g1, g2⟩ | ⟨g1, g2⟩
  · rw [g2, if_neg (show ¬ (1 : Int32) = nI 0 by decide)]
    by_cases q : lg_cmp (f_X8_chain (shlL 1 (nI t)) x (nI a) (nI b) ap) x = nI 0
    · rw [if_pos q]
      have e := (lg_cmp_eq _ _).mp q
      rw [e] at hL
      exact ⟨fun _ => ⟨fun p hp => g1 p (by omega) hp, t, hts, htb, htl, hL⟩, fun _ => by decide⟩
    · rw [if_neg q]
      refine ⟨fun h => absurd rfl h, fun h => ?_⟩
      obtain ⟨_, u, _, hub, hul, hLu⟩ := h
      have e := low_uniq htb htl hub hul
      subst e
      exact absurd ((lg_cmp_eq _ _).mpr (hL.uniq hLu (fun _ _ h => h) (fun _ _ h => h))) q
  · rw [g2, if_pos (show (0 : Int32) = nI 0 from rfl)]
    exact ⟨fun h => absurd rfl h, fun h => absurd (fun p _ hp => h.1 p hp) g1⟩
theorem aR_inj {a b : Nat} (hg : gOK a b) {v v' : Nat → Bool} (h1 : Sp a b v) (h2 : Sp a b v') (e : aR a b v = aR a b v') : ∀ k, v k = v' k := by
  have hn := gOK_lt hg
  have key : ∀ d k, a * b - d ≤ k → v k = v' k := by
    intro d
    induction d with
    | zero => intro k hk; rw [h1 k (by omega), h2 k (by omega)]
    | succ d ih =>
      intro k hk
      by_cases q : a * b - d ≤ k
      · exact ih k q
      · have hk2 : k < a * b := by omega
        obtain ⟨⟨r1, r2, r3, _⟩, _⟩ := rt_ok hg hk2
        have eb : bt (aR a b v) (csN a b k 3) = bt (aR a b v') (csN a b k 3) := by rw [e]
        rw [aR_bit hg, aR_bit hg] at eb
        unfold inA at eb
        rw [decide_eq_true r1, r2] at eb
        have en : v (haN a b (csN a b k 3) 1) = v' (haN a b (csN a b k 3) 1) := by
          rcases r3 with z | z <;> rw [z]
          · exact ih (k + 1) (by omega)
          · exact ih 16 (by omega)
        rw [en] at eb
        revert eb
        cases v k <;> cases v' k <;> cases v' (haN a b (csN a b k 3) 1) <;> simp
  intro k
  exact key (a * b) k (by omega)
theorem Sp_W {a b W : Nat} (hW : W < 2 ^ (a * b)) : Sp a b (fun c => W.testBit c) := fun c hc => Nat.testBit_lt_two_pow (Nat.lt_of_lt_of_le hW (Nat.pow_le_pow_right (by decide) hc))
theorem W_ne {a b W : Nat} (hg : gOK a b) (hW : W < 2 ^ (a * b)) (h1 : W ≠ 0) : aR a b (fun c => W.testBit c) ≠ 0 := by
  intro e
  rw [← aR_0 hg] at e
  have := aR_inj hg (Sp_W hW) (fun _ _ => rfl) e
  apply h1
  apply Nat.eq_of_testBit_eq
  intro k
  rw [this k]; simp
def isW (a b W : Nat) : Prop := (∀ p, p < (a + 1) * (b + 1) → cnt (lN (meN a b p) &&& aR a b (fun c => W.testBit c)) = 0 ∨ cnt (lN (meN a b p) &&& aR a b (fun c => W.testBit c)) = 2) ∧ Cn a b (aR a b (fun c => W.testBit c))
theorem Rg_W {a b : Nat} (hg : gOK a b) (x : Int64) : Rg a b x ↔ ∃ W, 1 ≤ W ∧ W < 2 ^ (a * b) ∧ isW a b W ∧ x = aR a b (fun c => W.testBit c) := by
  constructor
  · rintro ⟨⟨v, hv, rfl⟩, r1, r2, r3⟩
    have eb : ∀ k, (mkOf v (a * b)).testBit k = v k := fun k => by
      rw [mk_bit]
      rcases Nat.lt_or_ge k (a * b) with q | q
      · simp [q]
      · rw [hv k q]; simp
    have ee : aR a b (fun c => (mkOf v (a * b)).testBit c) = aR a b v := aR_ext hg (fun k _ => eb k)
    refine ⟨mkOf v (a * b), ?_, mk_lt v _, ?_, ee.symm⟩
    · rcases Nat.eq_zero_or_pos (mkOf v (a * b)) with q | q
      · exfalso
        apply r1
        rw [← ee, q, ← aR_0 hg]
        exact aR_ext hg (fun k _ => by simp)
      · exact q
    · unfold isW
      rw [ee]
      exact ⟨r2, r3⟩
  · rintro ⟨W, h1, h2, h3, rfl⟩
    exact ⟨⟨_, Sp_W h2, rfl⟩, W_ne hg h2 (by omega), h3.1, h3.2⟩
