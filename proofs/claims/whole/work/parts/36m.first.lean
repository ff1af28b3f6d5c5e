/-! the hint: the first place at which a look tells something -/
def UK (s : Nat) (u : Int32 × Int64) : Prop := (u.1 = 0 ∧ u.2 = 0) ∨ ((u.1 = 1 ∨ u.1 = 2) ∧ ∀ i, s ≤ i → bt u.2 i = false) ∨ (u.1 = 3 ∧ u.2 = 0)
theorem UK_cell {s : Nat} {n : Int32} {m l b : Int64} (hm : ∀ i, s ≤ i → bt m i = false) : UK s (f_X3_lookAtCell n m 0 l b 0) := by
  have hO : ∀ i, s ≤ i → bt (f_X3_openOf m l b) i = false := fun i hi => by rw [f_X3_openOf, bt_and, bt_and, hm i hi]; rfl
  unfold f_X3_lookAtCell
  simp only [bd, f_X3_tell]
  repeat' split
  all_goals first | exact Or.inl ⟨rfl, rfl⟩ | exact Or.inr (Or.inl ⟨Or.inl rfl, hO⟩) | exact Or.inr (Or.inl ⟨Or.inr rfl, hO⟩) | exact Or.inr (Or.inr ⟨rfl, rfl⟩)
theorem UK_point {s : Nat} {m l b : Int64} (hm : ∀ i, s ≤ i → bt m i = false) : UK s (f_X3_lookAtPoint m 0 l b 0) := by
  have hO : ∀ i, s ≤ i → bt (f_X3_openOf m l b) i = false := fun i hi => by rw [f_X3_openOf, bt_and, bt_and, hm i hi]; rfl
  unfold f_X3_lookAtPoint
  simp only [bd, f_X3_tell]
  repeat' split
  all_goals first | exact Or.inl ⟨rfl, rfl⟩ | exact Or.inr (Or.inl ⟨Or.inl rfl, hO⟩) | exact Or.inr (Or.inl ⟨Or.inr rfl, hO⟩) | exact Or.inr (Or.inr ⟨rfl, rfl⟩)
theorem one_out {s x : Nat} (hx : x < s) (h : x < 64) : ∀ i, s ≤ i → bt (shlL 1 (nI x)) i = false := fun i hi => by
  rw [bt_one_shl h]
  have : i ≠ x := by omega
  simp [this]
theorem UK_chain {s x : Nat} (hx : x < s) (h : x < 64) {st c p : Int32} {l n : Int64} {en : Nat → Int32} {ro me be : Nat → Int64} : UK s (f_X3_lookAtChain (nI x) st c p 0 l n 0 en ro me be) := by
  have hO : ∀ i, s ≤ i → bt (f_X7_bit (nI x)) i = false := one_out hx h
  unfold f_X3_lookAtChain
  simp only [bd, f_X3_tell]
  repeat' split
  all_goals first | exact Or.inl ⟨rfl, rfl⟩ | exact Or.inr (Or.inl ⟨Or.inl rfl, hO⟩) | exact Or.inr (Or.inl ⟨Or.inr rfl, hO⟩) | exact Or.inr (Or.inr ⟨rfl, rfl⟩)
theorem UK_hands {s x : Nat} (hx : x < s) (h : x < 64) {st : Int32} {l b : Int64} {ha : Nat → Int32} {ro : Nat → Int64} : UK s (f_X3_lookAtHands (nI x) st 0 l b 0 ha ro) := by
  have hO : ∀ i, s ≤ i → bt (f_X7_bit (nI x)) i = false := one_out hx h
  unfold f_X3_lookAtHands
  simp only [bd, f_X3_tell]
  repeat' split
  all_goals first | exact Or.inl ⟨rfl, rfl⟩ | exact Or.inr (Or.inl ⟨Or.inl rfl, hO⟩) | exact Or.inr (Or.inl ⟨Or.inr rfl, hO⟩) | exact Or.inr (Or.inr ⟨rfl, rfl⟩)
/-- a loop of the class over places -/
def SkG {β : Type} (N : Int32) (L : Int32 → Int32 → Int64 → Int32 × Int64) (k0 : Int32 → Int32 → Int64 → β) (G : Nat → Int32 → Int32 → Int32 → Int64 → β) : Prop :=
  ∀ n x rk rp rt, G (n + 1) x rk rp rt = (if N ≤ x then k0 rk rp rt else (if rk = 0 then (bd (L x rk rt) (fun u => G n (x + 1) u.1 x u.2)) else k0 rk rp rt))
theorem Sk_past {β : Type} {N : Int32} {L : Int32 → Int32 → Int64 → Int32 × Int64} {k0 : Int32 → Int32 → Int64 → β} {G : Nat → Int32 → Int32 → Int32 → Int64 → β} (hG : SkG N L k0 G) (n : Nat) (x rk rp : Int32) (rt : Int64) (h : ¬ rk = 0) : G (n + 1) x rk rp rt = k0 rk rp rt := by
  rw [hG, if_neg h]
  split <;> rfl
theorem Sk_none {β : Type} {N : Nat} (hN : N < 2 ^ 30) {L : Int32 → Int32 → Int64 → Int32 × Int64} {k0 : Int32 → Int32 → Int64 → β} {G : Nat → Int32 → Int32 → Int32 → Int64 → β} (hG : SkG (nI N) L k0 G) (hU : ∀ p, p < N → L (nI p) 0 0 = (0, 0)) : ∀ (n j : Nat) (rp : Int32), j ≤ N → N < j + n → ∃ rp', G n (nI j) 0 rp 0 = k0 0 rp' 0 := by
  intro n
  induction n with
  | zero => intro j rp h1 h2; exact absurd h2 (by omega)
  | succ n ih =>
    intro j rp h1 h2
    rw [hG]
    by_cases hj : N ≤ j
    · rw [if_pos (nI_le hj (by omega))]
      exact ⟨rp, rfl⟩
    · rw [if_neg (nI_ge (by omega) (by omega)), if_pos rfl, bd, hU j (by omega), nI_1]
      exact ih (j + 1) (nI j) (by omega) (by omega)
theorem Sk_hit {β : Type} {N p : Nat} (hN : N < 2 ^ 30) (hp : p < N) {L : Int32 → Int32 → Int64 → Int32 × Int64} {k0 : Int32 → Int32 → Int64 → β} {G : Nat → Int32 → Int32 → Int32 → Int64 → β} (hG : SkG (nI N) L k0 G) (hU : ∀ q, q < p → L (nI q) 0 0 = (0, 0)) (hH : ¬ (L (nI p) 0 0).1 = 0) : ∀ (n j : Nat) (rp : Int32), j ≤ p → N < j + n → G n (nI j) 0 rp 0 = k0 (L (nI p) 0 0).1 (nI p) (L (nI p) 0 0).2 := by
  intro n
  induction n with
  | zero => intro j rp h1 h2; exact absurd h2 (by omega)
  | succ n ih =>
    intro j rp h1 h2
    rw [hG, if_neg (nI_ge (by omega) (by omega)), if_pos rfl, bd]
    by_cases hj : j = p
    · subst hj
      obtain ⟨m, rfl⟩ : ∃ m, n = m + 1 := ⟨n - 1, by omega⟩
      rw [Sk_past hG m _ _ _ _ hH]
    · rw [hU j (by omega), nI_1]
      exact ih (j + 1) (nI j) (by omega) (by omega)
/-- a loop of the model over places -/
theorem Hn_none {w h c s : Int32} {n0 l b : Int64} {ho : Nat → Int32} {ac ap : Nat → Int64} {r : Int32} {N : Nat} (hN : N < 2 ^ 30) {U : Nat → Int32 × Int64} (hL : ∀ p, p < N → ∀ hi hr hp hs, Lk r (nI p) (U p) (f_X8_isAt r (nI p) w h c s hi hr hp n0 l b hs ho ac ap)) (hU : ∀ p, p < N → (U p).1 = 0) {β : Type} (k0 k1 : Int32 → Int32 → Int32 → Int64 → β) : ∀ (n j : Nat) (hi hr hp : Int32) (hs : Int64), j ≤ N → N < j + n → ∃ z1 z2 z3 z4, F_X8_hints_37 r (nI N) w h c s n0 l b ho ac ap k0 k1 n (nI j) hi hr hp hs = k0 z1 z2 z3 z4 := by
  intro n
  induction n with
  | zero => intro j hi hr hp hs h1 h2; exact absurd h2 (by omega)
  | succ n ih =>
    intro j hi hr hp hs h1 h2
    rw [F_X8_hints_37]
    by_cases hj : N ≤ j
    · rw [if_pos (nI_le hj (by omega))]
      exact ⟨_, _, _, _, rfl⟩
    · rw [if_neg (nI_ge (by omega) (by omega)), bd, nI_1]
      rcases hL j (by omega) hi hr hp hs with ⟨_, e⟩ | ⟨e, _⟩
      · rw [if_pos e]
        exact ih (j + 1) _ _ _ _ (by omega) (by omega)
      · exact absurd (hU j (by omega)) e
theorem Hn_hit {w h c s : Int32} {n0 l b : Int64} {ho : Nat → Int32} {ac ap : Nat → Int64} {r : Int32} {N p : Nat} (hN : N < 2 ^ 30) (hp : p < N) {U : Nat → Int32 × Int64} (hL : ∀ p, p < N → ∀ hi hr hp hs, Lk r (nI p) (U p) (f_X8_isAt r (nI p) w h c s hi hr hp n0 l b hs ho ac ap)) (hU : ∀ q, q < p → (U q).1 = 0) (hH : ¬ (U p).1 = 0) {β : Type} (k0 k1 : Int32 → Int32 → Int32 → Int64 → β) : ∀ (n j : Nat) (hi hr hq : Int32) (hs : Int64), j ≤ p → N < j + n → F_X8_hints_37 r (nI N) w h c s n0 l b ho ac ap k0 k1 n (nI j) hi hr hq hs = k1 (U p).1 r (nI p) (U p).2 := by
  intro n
  induction n with
  | zero => intro j hi hr hq hs h1 h2; exact absurd h2 (by omega)
  | succ n ih =>
    intro j hi hr hq hs h1 h2
    rw [F_X8_hints_37, if_neg (nI_ge (by omega) (by omega)), bd, nI_1]
    rcases hL j (by omega) hi hr hq hs with ⟨e1, e⟩ | ⟨e1, e⟩
    · rw [if_pos e]
      have : j ≠ p := fun q => hH (q ▸ e1)
      exact ih (j + 1) _ _ _ _ (by omega) (by omega)
    · have : j = p := by
        rcases Nat.lt_or_ge j p with q | q
        · exact absurd (hU j q) e1
        · omega
      subst this
      rw [e, if_neg (show ¬ (1 : Int32) = 0 by decide)]
theorem hit_or (N : Nat) (U : Nat → Int32 × Int64) : (∀ p, p < N → (U p).1 = 0) ∨ ∃ p, p < N ∧ ¬ (U p).1 = 0 ∧ ∀ q, q < p → (U q).1 = 0 := by
  by_cases h : ∀ p, p < N → (U p).1 = 0
  · exact Or.inl h
  · right
    have : ∃ p, p < N ∧ ¬ (U p).1 = 0 := by
      apply Classical.byContradiction
      intro q
      exact h (fun p hp => Classical.byContradiction (fun z => q ⟨p, hp, z⟩))
    obtain ⟨p, hp, hl⟩ := pk_least (fun p => p < N ∧ ¬ (U p).1 = 0) this
    exact ⟨p, hp.1, hp.2, fun q hq => Classical.byContradiction (fun z => hl q hq ⟨by omega, z⟩)⟩
