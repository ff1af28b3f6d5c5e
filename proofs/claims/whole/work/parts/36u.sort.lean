/-! loops: the model's list, laid and sorted -/
def Good (n : Nat) (P : Int64 → Prop) (f : Nat → Int64) : Prop := (∀ i j, i < n → j < n → f i = f j → i = j) ∧ ∀ x, P x ↔ ∃ i, i < n ∧ f i = x
def Srt (n : Nat) (f : Nat → Int64) : Prop := ∀ i j, i < j → j < n → (f i).toInt ≤ (f j).toInt
theorem sh_all : ∀ q : Fin 17, ((1 : Int32) <<< (nI q.val &&& 31)) = nI (2 ^ q.val) := by decide +kernel
theorem F_la {a b : Nat} (hg : gOK a b) {ho : Nat → Int32} {ap : Nat → Int64} (hho : ∀ s, s < sdN a b → ∀ e, e < 2 → ho (2 * s + e) = nI (haN a b s e)) (hap : ∀ p, p < (a + 1) * (b + 1) → ap p = lN (meN a b p)) {β : Type} (k0 : Int32 → (Nat → Int64) → β) : ∀ (f k n : Nat) (ri : Nat → Int64), 1 ≤ k → k ≤ 2 ^ (a * b) → 2 ^ (a * b) < k + f → n = rcnt (nI a) (nI b) (nI (sdN a b)) ho ap k → n ≤ k → Good n (fun x => ∃ W, 1 ≤ W ∧ W < k ∧ isW a b W ∧ x = aR a b (fun c => W.testBit c)) ri →
    ∃ ri', F_X8_laysRings_46 (nI a) (nI b) (nI (a * b)) (nI (sdN a b)) ho ap k0 f (nI k) (nI n) ri = k0 (nI (rcnt (nI a) (nI b) (nI (sdN a b)) ho ap (2 ^ (a * b)))) ri' ∧ Good (rcnt (nI a) (nI b) (nI (sdN a b)) ho ap (2 ^ (a * b))) (fun x => ∃ W, 1 ≤ W ∧ W < 2 ^ (a * b) ∧ isW a b W ∧ x = aR a b (fun c => W.testBit c)) ri' := by
  have hn := gOK_lt hg
  have hp : 2 ^ (a * b) ≤ 2 ^ 16 := Nat.pow_le_pow_right (by decide) (by omega)
  have hsh : ((1 : Int32) <<< (nI (a * b) &&& 31)) = nI (2 ^ (a * b)) := sh_all ⟨a * b, by omega⟩
  intro f
  induction f with
  | zero => intro k n ri h1 h2 h3; exact absurd h3 (by omega)
  | succ f ih =>
    intro k n ri h1 h2 h3 h4 h5 hG
    rw [F_X8_laysRings_46, hsh]
    by_cases hk : 2 ^ (a * b) ≤ k
    · have e : k = 2 ^ (a * b) := by omega
      rw [if_pos (nI_le hk (by omega))]
      rw [e] at h4 hG
      rw [← h4]
      exact ⟨ri, rfl, hG⟩
    · rw [if_neg (nI_ge (by omega) (by omega)), nI_1, ar_val hg (by omega) hho]
      have hne := W_ne hg (show k < 2 ^ (a * b) by omega) (by omega)
      have hri := ring_iff hg hap (fun i hi => by rw [aR_bit hg, inA_out _ i hi]) hne
      have hrc : rcnt (nI a) (nI b) (nI (sdN a b)) ho ap (k + 1) = rcnt (nI a) (nI b) (nI (sdN a b)) ho ap k + (if f_X8_isRing (aR a b (fun c => k.testBit c)) (nI a) (nI b) ap = 0 then 0 else 1) := by
        rw [rcnt, if_neg (by omega), ar_val hg (by omega) hho]
      by_cases q : f_X8_isRing (aR a b (fun c => k.testBit c)) (nI a) (nI b) ap = 0
      · rw [if_pos q]
        rw [if_pos q] at hrc
        have hnk : ¬ isW a b k := fun h => hri.mpr h q
        refine ih (k + 1) n ri (by omega) (by omega) (by omega) (by omega) (by omega) ⟨hG.1, fun x => ?_⟩
        rw [← hG.2 x]
        constructor
        · rintro ⟨W, w1, w2, w3, w4⟩
          refine ⟨W, w1, ?_, w3, w4⟩
          by_cases e : W = k
          · subst e; exact absurd w3 hnk
          · omega
        · rintro ⟨W, w1, w2, w3, w4⟩
          exact ⟨W, w1, by omega, w3, w4⟩
      · rw [if_neg q]
        rw [if_neg q] at hrc
        have hyk : isW a b k := hri.mp q
        rw [nI_1, nI_clamp (by omega)]
        refine ih (k + 1) (n + 1) _ (by omega) (by omega) (by omega) (by omega) (by omega) ⟨fun i j hi hj he => ?_, fun x => ?_⟩
        · have old : ∀ i, i < n → ri i ≠ aR a b (fun c => k.testBit c) := fun i hi e => by
            obtain ⟨W, w1, w2, w3, w4⟩ := (hG.2 (ri i)).mpr ⟨i, hi, rfl⟩
            rw [e] at w4
            have := aR_inj hg (Sp_W (show k < 2 ^ (a * b) by omega)) (Sp_W (show W < 2 ^ (a * b) by omega)) w4
            have : k = W := Nat.eq_of_testBit_eq (fun c => this c)
            omega
          by_cases ei : i = n
          · by_cases ej : j = n
            · omega
            · subst ei
              rw [pk_uLs, pk_uLn ej] at he
              exact absurd he.symm (old j (by omega))
          · by_cases ej : j = n
            · subst ej
              rw [pk_uLs, pk_uLn ei] at he
              exact absurd he (old i (by omega))
            · rw [pk_uLn ei, pk_uLn ej] at he
              exact hG.1 i j (by omega) (by omega) he
        · constructor
          · rintro ⟨W, w1, w2, w3, w4⟩
            by_cases e : W = k
            · subst e
              exact ⟨n, by omega, by rw [pk_uLs]; exact w4.symm⟩
            · obtain ⟨i, hi, hx⟩ := (hG.2 x).mp ⟨W, w1, by omega, w3, w4⟩
              exact ⟨i, by omega, by rw [pk_uLn (by omega)]; exact hx⟩
          · rintro ⟨i, hi, hx⟩
            by_cases e : i = n
            · subst e
              rw [pk_uLs] at hx
              exact ⟨k, h1, by omega, hyk, hx.symm⟩
            · rw [pk_uLn e] at hx
              obtain ⟨W, w1, w2, w3, w4⟩ := (hG.2 x).mpr ⟨i, by omega, hx⟩
              exact ⟨W, w1, by omega, w3, w4⟩
/-- two places changed with each other -/
theorem Good_swap {n p q : Nat} {P : Int64 → Prop} {f g : Nat → Int64} (hG : Good n P f) (hp : p < n) (hq : q < n) (h1 : g p = f q) (h2 : g q = f p) (h3 : ∀ i, i ≠ p → i ≠ q → g i = f i) : Good n P g := by
  let σ : Nat → Nat := fun i => if i = p then q else if i = q then p else i
  have hσ : ∀ i, g i = f (σ i) := fun i => by
    show g i = f (if i = p then q else if i = q then p else i)
    by_cases e1 : i = p
    · rw [if_pos e1, e1]; exact h1
    · by_cases e2 : i = q
      · rw [if_neg e1, if_pos e2, e2]; exact h2
      · rw [if_neg e1, if_neg e2]; exact h3 i e1 e2
  have hlt : ∀ i, i < n → σ i < n := fun i hi => by
    show (if i = p then q else if i = q then p else i) < n
    split
    · exact hq
    · split
      · exact hp
      · exact hi
  have hinv : ∀ i, σ (σ i) = i := fun i => by
    show (if (if i = p then q else if i = q then p else i) = p then q else if (if i = p then q else if i = q then p else i) = q then p else (if i = p then q else if i = q then p else i)) = i
    by_cases e1 : i = p
    · by_cases e2 : q = p
      · simp [e1, e2]
      · simp [e1, e2]
    · by_cases e2 : i = q
      · simp [e2]
      · simp [e1, e2]
  refine ⟨fun i j hi hj he => ?_, fun x => ?_⟩
  · rw [hσ, hσ] at he
    have := hG.1 _ _ (hlt i hi) (hlt j hj) he
    rw [← hinv i, this, hinv]
  · rw [hG.2 x]
    constructor
    · rintro ⟨i, hi, hx⟩
      exact ⟨σ i, hlt i hi, by rw [hσ, hinv]; exact hx⟩
    · rintro ⟨i, hi, hx⟩
      exact ⟨σ i, hlt i hi, by rw [← hσ]; exact hx⟩
theorem updL_at (f : Nat → Int64) (k : Nat) (x : Int64) (i : Nat) : vp_updL f k x i = if i = k then x else f i := by
  by_cases e : i = k
  · subst e; rw [pk_uLs, if_pos rfl]
  · rw [pk_uLn e, if_neg e]
def HS (m : Nat → Int64) (t k : Nat) (x : Int64) : Prop := (∀ i j, i < j → j ≤ k → i ≠ t → j ≠ t → (m i).toInt ≤ (m j).toInt) ∧ ∀ j, t < j → j ≤ k → x.toInt < (m j).toInt
theorem F_124 {n k g : Nat} (hn : n < 2 ^ 20) (hk : k < n) (hg1 : 1 ≤ g) (hg2 : g < 2 ^ 20) {P : Int64 → Prop} {x : Int64} {β : Type} (k0 : Int32 → (Nat → Int64) → β) : ∀ (f t : Nat) (m : Nat → Int64), t ≤ k → t < f → Good n P (vp_updL m t x) → (g = 1 → HS m t k x) → ∃ t' m', F_X8_laysRings_124 (nI g) x k0 f (nI t) m = k0 (nI t') m' ∧ t' ≤ k ∧ Good n P (vp_updL m' t' x) ∧ (g = 1 → Srt (k + 1) (vp_updL m' t' x)) := by
  intro f
  induction f with
  | zero => intro t m h1 h2; exact absurd h2 (by omega)
  | succ f ih =>
    intro t m h1 h2 hG hS
    rw [F_X8_laysRings_124]
    have fin : (g = 1 → t = 0 ∨ (m (t - 1)).toInt ≤ x.toInt) → ∃ t' m', k0 (nI t) m = k0 (nI t') m' ∧ t' ≤ k ∧ Good n P (vp_updL m' t' x) ∧ (g = 1 → Srt (k + 1) (vp_updL m' t' x)) := fun hh => by
      refine ⟨t, m, rfl, h1, hG, fun e i j hij hj => ?_⟩
      obtain ⟨s1, s2⟩ := hS e
      rw [updL_at, updL_at]
      by_cases ej : j = t
      · subst ej
        rw [if_pos rfl, if_neg (by omega)]
        rcases hh e with z | z
        · omega
        · by_cases ei : i = j - 1
          · rw [ei]; exact z
          · exact Int.le_trans (s1 i (j - 1) (by omega) (by omega) (by omega) (by omega)) z
      · rw [if_neg ej]
        by_cases ei : i = t
        · subst ei
          rw [if_pos rfl]
          exact Int.le_of_lt (s2 j (by omega) (by omega))
        · rw [if_neg ei]
          exact s1 i j hij (by omega) ei ej
    by_cases q : t < g
    · rw [if_pos (nI_lt q (by omega))]
      exact fin (fun e => Or.inl (by omega))
    · have es : nI t - nI g = nI (t - g) := by
        rw [show nI t = nI (t - g) + nI g by rw [nI_add]; congr 1; omega]
        simp
      rw [if_neg (nI_nlt (by omega) (by omega)), es, nI_clamp (by omega), nI_clamp (by omega)]
      have hc : (lg_cmp (m (t - g)) x ≤ 0) ↔ (m (t - g)).toInt ≤ x.toInt := by
        have := lg_cmp_gt (m (t - g)) x
        rw [Int64.lt_iff_toInt_lt] at this
        rw [← Int32.not_lt, this]
        omega
      by_cases q2 : (m (t - g)).toInt ≤ x.toInt
      · rw [if_pos (hc.mpr q2)]
        exact fin (fun e => Or.inr (by rw [← e]; exact q2))
      · rw [if_neg (fun h => q2 (hc.mp h))]
        refine ih (t - g) (vp_updL m t (m (t - g))) (by omega) (by omega) ?_ (fun e => ?_)
        · refine Good_swap (p := t) (q := t - g) hG (by omega) (by omega) ?_ ?_ ?_
          · rw [updL_at, if_neg (by omega), updL_at, if_pos rfl, updL_at, if_neg (by omega)]
          · rw [updL_at, if_pos rfl, updL_at, if_pos rfl]
          · intro i e1 e2
            rw [updL_at, if_neg e2, updL_at, if_neg e1, updL_at, if_neg e1]
        · obtain ⟨s1, s2⟩ := hS e
          subst e
          refine ⟨fun i j hij hj e1 e2 => ?_, fun j hj hjk => ?_⟩
          · rw [updL_at, updL_at]
            by_cases ei : i = t
            · rw [if_pos ei, if_neg (by omega)]
              exact s1 (t - 1) j (by omega) hj (by omega) (by omega)
            · rw [if_neg ei]
              by_cases ej : j = t
              · rw [if_pos ej]
                exact s1 i (t - 1) (by omega) (by omega) ei (by omega)
              · rw [if_neg ej]
                exact s1 i j hij hj ei ej
          · rw [updL_at]
            by_cases ej : j = t
            · rw [if_pos ej]; omega
            · rw [if_neg ej]
              exact s2 j (by omega) hjk
theorem F_106 {n g : Nat} (hn : n < 2 ^ 20) (hg1 : 1 ≤ g) (hg2 : g < 2 ^ 20) {P : Int64 → Prop} {β : Type} (k0 : (Nat → Int64) → β) : ∀ (f k : Nat) (m : Nat → Int64), g ≤ k → k < 2 ^ 20 → n < k + f → 1 ≤ f → Good n P m → (g = 1 → Srt (min k n) m) → ∃ m', F_X8_laysRings_106 (nI g) (nI n) k0 f (nI k) m = k0 m' ∧ Good n P m' ∧ (g = 1 → Srt n m') := by
  intro f
  induction f with
  | zero => intro k m h1 h2 h3 h4; exact absurd h4 (by omega)
  | succ f ih =>
    intro k m h1 h2 h3 h4 hG hS
    rw [F_X8_laysRings_106]
    by_cases q : n ≤ k
    · rw [if_pos (nI_le q (by omega))]
      refine ⟨m, rfl, hG, fun e => ?_⟩
      have := hS e
      rw [Nat.min_eq_right q] at this
      exact this
    · rw [if_neg (nI_ge (by omega) (by omega)), nI_clamp (by omega), nI_1, nI_toInt (by omega), show ((k : Int).toNat + 1) = k + 1 by omega]
      have eid : vp_updL m k (m k) = m := by
        funext i
        rw [updL_at]
        split
        · rename_i e; rw [e]
        · rfl
      obtain ⟨t', m', e1, e2, e3, e4⟩ := F_124 hn (show k < n by omega) hg1 hg2 (P := P) (x := m k) (fun z3 z4 => F_X8_laysRings_106 (nI g) (nI n) k0 f (nI (k + 1)) (vp_updL z4 z3.toNatClampNeg (m k))) (k + 1) k m (by omega) (by omega) (by rw [eid]; exact hG) (fun e => by
        have := hS e
        rw [Nat.min_eq_left (by omega)] at this
        exact ⟨fun i j hij hj a1 a2 => this i j hij (by omega), fun j a1 a2 => absurd a1 (by omega)⟩)
      rw [e1, nI_clamp (by omega)]
      exact ih (k + 1) _ (by omega) (by omega) (by omega) (by omega) e3 (fun e => by
        rw [Nat.min_eq_left (by omega)]
        exact e4 e)
theorem hv_all : ∀ e : Fin 13, nI (2 ^ e.val) / 2 = nI (2 ^ e.val / 2) := by decide +kernel
theorem F_100 {n : Nat} (hn : n < 2 ^ 20) {P : Int64 → Prop} {β : Type} (k0 : (Nat → Int64) → β) : ∀ (e f : Nat) (m : Nat → Int64), e ≤ 12 → e + 1 < f → Good n P m → ∃ m', F_X8_laysRings_100 (nI n) k0 f (nI (2 ^ e)) m = k0 m' ∧ Good n P m' ∧ Srt n m' := by
  intro e
  induction e with
  | zero =>
    intro f m h1 h2 hG
    obtain ⟨f, rfl⟩ : ∃ g, f = g + 2 := ⟨f - 2, by omega⟩
    rw [F_X8_laysRings_100, if_neg (show ¬ nI (2 ^ 0) ≤ 0 by decide)]
    have hf : n < 1 + fu (nI n) (nI 1) ∧ 1 ≤ fu (nI n) (nI 1) := by
      unfold fu
      rw [nI_toInt (by omega), nI_toInt (by omega)]
      omega
    obtain ⟨m', e1, e2, e3⟩ := F_106 hn (g := 1) (by decide) (by decide) (P := P) (fun z5 => F_X8_laysRings_100 (nI n) k0 (f + 1) (nI (2 ^ 0) / 2) z5) (fu (nI n) (nI 1)) 1 m (by decide) (by decide) hf.1 hf.2 hG (fun _ i j hij hj => absurd hj (by omega))
    rw [show nI (2 ^ 0) = nI 1 from rfl] at e1 ⊢
    rw [e1, show nI 1 / 2 = 0 by decide, F_X8_laysRings_100, if_pos (show (0 : Int32) ≤ 0 by decide)]
    exact ⟨m', rfl, e2, e3 rfl⟩
  | succ e ih =>
    intro f m h1 h2 hG
    obtain ⟨f, rfl⟩ : ∃ g, f = g + 1 := ⟨f - 1, by omega⟩
    have hp : 2 ^ (e + 1) ≤ 2 ^ 12 := Nat.pow_le_pow_right (by decide) h1
    have hp1 : 1 ≤ 2 ^ (e + 1) := Nat.one_le_two_pow
    rw [F_X8_laysRings_100, if_neg (nI_nle (by omega) (by omega))]
    have hf : n < 2 ^ (e + 1) + fu (nI n) (nI (2 ^ (e + 1))) ∧ 1 ≤ fu (nI n) (nI (2 ^ (e + 1))) := by
      unfold fu
      rw [nI_toInt (by omega), nI_toInt (by omega)]
      omega
    obtain ⟨m', e1, e2, e3⟩ := F_106 hn (g := 2 ^ (e + 1)) hp1 (by omega) (P := P) (fun z5 => F_X8_laysRings_100 (nI n) k0 f (nI (2 ^ (e + 1)) / 2) z5) (fu (nI n) (nI (2 ^ (e + 1)))) (2 ^ (e + 1)) m (by omega) (by omega) hf.1 hf.2 hG (fun h => by
      exfalso
      rw [Nat.pow_succ] at h
      omega)
    rw [e1, hv_all ⟨e + 1, by omega⟩, show 2 ^ (e + 1) / 2 = 2 ^ e by rw [Nat.pow_succ]; omega]
    exact ih f m' (by omega) (by omega) e2
