/-! tables as bits; the rules of cells and of points -/
theorem mk_lt (p : Nat → Bool) : ∀ n, mkOf p n < 2 ^ n := by
  intro n
  induction n with
  | zero => exact Nat.one_pos
  | succ n ih =>
    rw [mkOf, Nat.pow_succ]
    split <;> omega
theorem mk_bit (p : Nat → Bool) (k : Nat) : ∀ n, (mkOf p n).testBit k = (decide (k < n) && p k) := by
  intro n
  induction n with
  | zero => simp [mkOf]
  | succ n ih =>
    rw [mkOf]
    by_cases h : p n = true
    · rw [if_pos h, Nat.add_comm, show 2 ^ n + mkOf p n = 2 ^ n * 1 + mkOf p n by omega, Nat.testBit_two_pow_mul_add 1 (mk_lt p n)]
      by_cases q : k < n
      · rw [if_pos q, ih]
        simp [q, show k < n + 1 by omega]
      · rw [if_neg q]
        by_cases e : k = n
        · subst e; simp [h]
        · have h1 : ¬ k < n + 1 := by omega
          have h2 : k - n ≠ 0 := by omega
          rw [Nat.testBit_lt_two_pow (Nat.one_lt_two_pow h2)]
          simp [h1]
    · rw [if_neg h, Nat.add_zero, ih]
      by_cases e : k = n
      · subst e; simp [h]
      · by_cases q : k < n
        · simp [q, show k < n + 1 by omega]
        · simp [q, show ¬ k < n + 1 by omega]
theorem tab_bit {p : Nat → Bool} (hp : ∀ k, 40 ≤ k → p k = false) {k : Nat} (hk : k < 64) : bt (lN (mkOf p 40)) k = p k := by
  rw [bt_lN k hk, mk_bit]
  by_cases q : k < 40
  · simp [q]
  · simp [q, hp k (by omega)]
theorem inC_out {a b : Nat} (h : gOK a b) (c k : Nat) (hk : sdN a b ≤ k) : inC a b c k = false := by
  unfold inC; rw [decide_eq_false (by omega)]; rfl
theorem inP_out {a b : Nat} (c k : Nat) (hk : sdN a b ≤ k) : inP a b c k = false := by
  unfold inP; rw [decide_eq_false (by omega)]; rfl
theorem inS_out {a b : Nat} (c k : Nat) (hk : sdN a b ≤ k) : inS a b c k = false := by
  unfold inS; rw [decide_eq_false (by omega)]; rfl
theorem ro_bit {a b : Nat} (h : gOK a b) (c : Nat) {k : Nat} (hk : k < 64) : bt (lN (roN a b c)) k = inC a b c k := tab_bit (fun j hj => inC_out h c j (by have := gOK_lt h; omega)) hk
theorem me_bit {a b : Nat} (h : gOK a b) (c : Nat) {k : Nat} (hk : k < 64) : bt (lN (meN a b c)) k = inP a b c k := tab_bit (fun j hj => inP_out c j (by have := gOK_lt h; omega)) hk
theorem se_bit {a b : Nat} (h : gOK a b) (c : Nat) {k : Nat} (hk : k < 64) : bt (lN (seN a b c)) k = inS a b c k := tab_bit (fun j hj => inS_out c j (by have := gOK_lt h; omega)) hk
theorem be_bit {a b : Nat} (h : gOK a b) (s : Nat) {k : Nat} (hk : k < 64) : bt (lN (beN a b s)) k = (inP a b (enN a b s 0) k || inP a b (enN a b s 1) k) := tab_bit (p := fun k => inP a b (enN a b s 0) k || inP a b (enN a b s 1) k) (fun j hj => by
  have := gOK_lt h
  rw [inP_out _ j (by omega), inP_out _ j (by omega)]; rfl) hk
/-- sides within all: what is open of them -/
theorem open_of {a b : Nat} (h : gOK a b) {m l bb : Int64} (hm : ∀ k, sdN a b ≤ k → k < 64 → bt m k = false) : f_X3_openOf m l bb = m &&& f_X8_open (nI (sdN a b)) l bb := by
  have := gOK_lt h
  apply bt_ext
  intro k hk
  simp only [f_X3_openOf, f_X8_open, bt_and, bt_not _ hk, all_bit (show sdN a b < 64 by omega)]
  by_cases q : k < sdN a b
  · simp only [q, decide_true]
    cases bt m k <;> cases bt l k <;> cases bt bb k <;> rfl
  · rw [hm k (by omega) hk]; simp
/-- the picture of a look at a place: class (kind, told) and model (answer, is, rule, place, sides) -/
def Lk (r x : Int32) (u : Int32 × Int64) (v : Int32 × Int32 × Int32 × Int32 × Int64) : Prop := (u.1 = 0 ∧ v.1 = 0) ∨ (¬ u.1 = 0 ∧ v = (1, u.1, r, x, u.2))
theorem finds_eq (r p i : Int32) (s : Int64) : f_X8_finds r p i s = (if i = 0 then 0 else 1, i, r, p, if i = 3 then 0 else s) := by
  unfold f_X8_finds
  by_cases h3 : i = 3
  · subst h3; rfl
  · rw [if_neg h3, if_neg h3]
    by_cases h0 : i = 0
    · rw [if_pos h0, if_pos h0]
    · rw [if_neg h0, if_neg h0]
theorem Lk_of {r x i : Int32} {s : Int64} {u : Int32 × Int64} (h0 : i = 0 → u.1 = 0) (h3 : i = 3 → u = (3, 0)) (h12 : ¬ i = 0 → ¬ i = 3 → u = (i, s)) : Lk r x u (f_X8_finds r x i s) := by
  rw [finds_eq]
  by_cases q0 : i = 0
  · left
    rw [if_pos q0]
    exact ⟨h0 q0, rfl⟩
  · right
    rw [if_neg q0]
    by_cases q3 : i = 3
    · rw [h3 q3, q3]; exact ⟨by decide, rfl⟩
    · rw [h12 q0 q3, if_neg q3]; exact ⟨q0, rfl⟩
theorem Lk_cell {a b : Nat} (h : gOK a b) {m l bb n mn hs : Int64} {ac : Nat → Int64} {x : Nat} {hi hr hp : Int32} (hx : x < 16) (hN : nRel n mn) (hm : ∀ k, sdN a b ≤ k → k < 64 → bt m k = false) (hac : ac x = m) :
    Lk 0 (nI x) (f_X3_lookAtCell (f_X0_numberOf (nI x) n) m 0 l bb 0) (f_X8_atCells (nI x) (nI (sdN a b)) hi hr hp mn l bb hs ac) := by
  have h5 := (hN x hx).1
  unfold f_X8_atCells f_X3_lookAtCell
  simp only [bd, f_X3_tell]
  rw [f_X0_numberOf, nRel_in hN hx, nAt_val mn hx, nI_clamp (by omega), hac, open_of h hm, bc_cnt, bc_cnt, ones_cnt, ones_cnt]
  have c1 := cnt_le (m &&& l)
  have c2 := cnt_le (m &&& f_X8_open (nI (sdN a b)) l bb)
  generalize cnt (m &&& l) = L at c1 ⊢
  generalize cnt (m &&& f_X8_open (nI (sdN a b)) l bb) = O at c2 ⊢
  generalize m &&& f_X8_open (nI (sdN a b)) l bb = S
  by_cases q : fld 3 mn x = 5
  · rw [if_pos q, q, if_neg (by decide), if_pos (show nI 5 = 5 from rfl)]
    exact Or.inl ⟨rfl, rfl⟩
  · rw [if_neg q, if_neg (lit_ne 5 5 rfl q (by omega) (by decide)), if_pos (nI_pos' (by omega))]
    generalize fld 3 mn x = v at h5 q ⊢
    rw [nI_add]
    by_cases g1 : v < L
    · rw [if_pos (nI_lt g1 (by omega)), if_pos (nI_lt g1 (by omega))]
      exact Lk_of (fun e => absurd e (by decide)) (fun _ => rfl) (fun _ e => absurd rfl e)
    · rw [if_neg (nI_nlt (by omega) (by omega)), if_neg (nI_nlt (by omega) (by omega))]
      by_cases g2 : v ≤ L + O
      · rw [if_pos (nI_le g2 (by omega)), if_pos (nI_le g2 (by omega))]
        by_cases g3 : O = 0
        · subst g3
          rw [if_pos (show nI 0 ≤ 0 by decide), if_pos (show nI 0 ≤ 0 by decide), if_pos (show nI 0 = 0 from rfl)]
          exact Lk_of (fun _ => rfl) (fun e => absurd e (by decide)) (fun e => absurd rfl e)
        · rw [if_neg (nI_nle (by omega) (by omega)), if_neg (lit_ne 0 0 rfl g3 (by omega) (by decide))]
          by_cases g4 : L = v
          · subst g4
            rw [if_pos rfl, if_pos rfl]
            exact Lk_of (fun e => absurd e (by decide)) (fun e => absurd e (by decide)) (fun _ _ => rfl)
          · have g4' : ¬ nI L = nI v := fun e => g4 ((nI_eq (by omega) (by omega)).mp e)
            rw [if_neg g4', if_neg g4', if_neg (nI_nle (by omega) (by omega))]
            by_cases g5 : L + O = v
            · rw [if_pos (by rw [g5]), if_pos (by rw [g5])]
              exact Lk_of (fun e => absurd e (by decide)) (fun e => absurd e (by decide)) (fun _ _ => rfl)
            · have g5' : ¬ nI (L + O) = nI v := fun e => g5 ((nI_eq (by omega) (by omega)).mp e)
              rw [if_neg g5', if_neg g5']
              exact Lk_of (fun _ => rfl) (fun e => absurd e (by decide)) (fun e => absurd rfl e)
      · rw [if_neg (nI_ge (by omega) (by omega)), if_neg (nI_ge (by omega) (by omega))]
        exact Lk_of (fun e => absurd e (by decide)) (fun _ => rfl) (fun _ e => absurd rfl e)
theorem Lk_point {a b : Nat} (h : gOK a b) {m l bb : Int64} {ap : Nat → Int64} {x : Nat} (hx : x < 25) (hm : ∀ k, sdN a b ≤ k → k < 64 → bt m k = false) (hap : ap x = m) :
    Lk 1 (nI x) (f_X3_lookAtPoint m 0 l bb 0) (f_X8_atPoints (nI x) (nI (sdN a b)) l bb ap) := by
  unfold f_X8_atPoints f_X3_lookAtPoint
  simp only [bd, f_X3_tell]
  rw [nI_clamp (by omega), hap, open_of h hm, bc_cnt, bc_cnt, ones_cnt, ones_cnt]
  generalize nI (cnt (m &&& l)) = L
  generalize nI (cnt (m &&& f_X8_open (nI (sdN a b)) l bb)) = O
  generalize m &&& f_X8_open (nI (sdN a b)) l bb = S
  repeat' split
  all_goals first
    | exact Lk_of (fun e => absurd e (by decide)) (fun _ => rfl) (fun _ e => absurd rfl e)
    | exact Lk_of (fun e => absurd e (by decide)) (fun e => absurd e (by decide)) (fun _ _ => rfl)
    | exact Lk_of (fun _ => rfl) (fun e => absurd e (by decide)) (fun e => absurd rfl e)
    | contradiction
theorem sc_all : ∀ a b : Fin 5, 1 ≤ a.val → 1 ≤ b.val → ∀ c : Fin 16, c.val < a.val * b.val → ∀ i : Fin 4, f_X8_sideOfCell (nI c.val) (nI i.val) (nI a.val) (nI b.val) = nI (csN a.val b.val c.val i.val) := by decide +kernel
theorem sp_all : ∀ a b : Fin 5, 1 ≤ a.val → 1 ≤ b.val → ∀ c : Fin 25, c.val < (a.val + 1) * (b.val + 1) → ∀ i : Fin 4, f_X8_sideOfPoint (nI c.val) (nI i.val) (nI a.val) (nI b.val) = psI a.val b.val c.val i.val := by decide +kernel
