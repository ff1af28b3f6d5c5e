/-! loops: the sides between what is inside and what is not -/
def inA (a b : Nat) (w : Nat → Bool) (s : Nat) : Bool := decide (s < sdN a b) && (w (haN a b s 0) ^^ w (haN a b s 1))
def aR (a b : Nat) (w : Nat → Bool) : Int64 := lN (mkOf (inA a b w) 40)
def Sp (a b : Nat) (w : Nat → Bool) : Prop := ∀ c, a * b ≤ c → w c = false
def wX (w : Nat → Bool) (c : Nat) : Nat → Bool := fun k => w k ^^ decide (k = c)
def rs (c : Nat) (w : Nat → Bool) : Nat → Bool := fun k => decide (c ≤ k) && w k
theorem inA_out {a b : Nat} (w : Nat → Bool) (k : Nat) (hk : sdN a b ≤ k) : inA a b w k = false := by
  unfold inA; rw [decide_eq_false (by omega)]; rfl
theorem aR_bit {a b : Nat} (hg : gOK a b) (w : Nat → Bool) (s : Nat) : bt (aR a b w) s = inA a b w s := by
  have hn := gOK_lt hg
  rcases Nat.lt_or_ge s 64 with q | q
  · exact tab_bit (fun j hj => inA_out w j (by omega)) q
  · rw [bt_out _ q, inA_out w s (by omega)]
theorem ro_bit' {a b : Nat} (hg : gOK a b) (c k : Nat) : bt (lN (roN a b c)) k = inC a b c k := by
  have hn := gOK_lt hg
  rcases Nat.lt_or_ge k 64 with q | q
  · exact ro_bit hg c q
  · rw [bt_out _ q, inC_out hg c k (by omega)]
theorem me_bit' {a b : Nat} (hg : gOK a b) (c k : Nat) : bt (lN (meN a b c)) k = inP a b c k := by
  have hn := gOK_lt hg
  rcases Nat.lt_or_ge k 64 with q | q
  · exact me_bit hg c q
  · rw [bt_out _ q, inP_out c k (by omega)]
theorem se_bit' {a b : Nat} (hg : gOK a b) (c k : Nat) : bt (lN (seN a b c)) k = inS a b c k := by
  have hn := gOK_lt hg
  rcases Nat.lt_or_ge k 64 with q | q
  · exact se_bit hg c q
  · rw [bt_out _ q, inS_out c k (by omega)]
theorem bt_all_ext {x y : Int64} (h : ∀ k, bt x k = bt y k) : x = y := bt_ext (fun k _ => h k)
theorem aR_xor {a b : Nat} (hg : gOK a b) (w : Nat → Bool) (c : Nat) : aR a b (wX w c) = aR a b w ^^^ lN (roN a b c) := by
  apply bt_all_ext
  intro s
  rw [bt_xor, aR_bit hg, aR_bit hg, ro_bit' hg]
  unfold inA inC wX
  by_cases hs : s < sdN a b
  · have hne := (ha_le hg hs).2
    rw [decide_eq_true hs]
    by_cases e0 : haN a b s 0 = c
    · have e1 : ¬ haN a b s 1 = c := fun e => hne (e0.trans e.symm)
      rw [decide_eq_true e0, decide_eq_false e1]
      have b0 : (haN a b s 0 == c) = true := by simp [e0]
      rw [b0]
      cases w (haN a b s 0) <;> cases w (haN a b s 1) <;> rfl
    · rw [decide_eq_false e0]
      have b0 : (haN a b s 0 == c) = false := by simp [e0]
      rw [b0]
      by_cases e1 : haN a b s 1 = c
      · have b1 : (haN a b s 1 == c) = true := by simp [e1]
        rw [decide_eq_true e1, b1]
        cases w (haN a b s 0) <;> cases w (haN a b s 1) <;> rfl
      · have b1 : (haN a b s 1 == c) = false := by simp [e1]
        rw [decide_eq_false e1, b1]
        cases w (haN a b s 0) <;> cases w (haN a b s 1) <;> rfl
  · rw [decide_eq_false hs]; rfl
theorem aR_ext {a b : Nat} {w w' : Nat → Bool} (hg : gOK a b) (h : ∀ k, k ≤ 16 → w k = w' k) : aR a b w = aR a b w' := by
  apply bt_all_ext
  intro s
  rw [aR_bit hg, aR_bit hg]
  unfold inA
  by_cases hs : s < sdN a b
  · have := ha_le hg hs
    rw [h _ this.1.1, h _ this.1.2]
  · rw [decide_eq_false hs]; rfl
/-- what is the same on settled sides -/
theorem aR_set {a b c s : Nat} {w w' : Nat → Bool} (hg : gOK a b) (h : ∀ k, c ≤ k → k ≤ 16 → w k = w' k) (hs : inS a b c s = true) : bt (aR a b w) s = bt (aR a b w') s := by
  rw [aR_bit hg, aR_bit hg]
  unfold inS at hs
  have h1 := (Bool.and_eq_true _ _ ▸ hs)
  have h2 := (Bool.and_eq_true _ _ ▸ h1.2)
  have hs' : s < sdN a b := by simpa using h1.1
  have := ha_le hg hs'
  unfold inA
  rw [h _ (by simpa using h2.1) this.1.1, h _ (by simpa using h2.2) this.1.2]
/-- facts of the grids -/
theorem rt_all : ∀ a b : Fin 5, 1 ≤ a.val → 1 ≤ b.val → ∀ c : Fin 16, c.val < a.val * b.val → csN a.val b.val c.val 3 < sdN a.val b.val ∧ haN a.val b.val (csN a.val b.val c.val 3) 0 = c.val ∧ (haN a.val b.val (csN a.val b.val c.val 3) 1 = c.val + 1 ∨ haN a.val b.val (csN a.val b.val c.val 3) 1 = 16) ∧ csN a.val b.val c.val 1 < sdN a.val b.val ∧ ∀ s : Fin 40, csN a.val b.val c.val 3 < s.val → s.val < sdN a.val b.val → inS a.val b.val (c.val + 1) s.val = true := by decide +kernel
theorem rt_ok {a b c : Nat} (hg : gOK a b) (hc : c < a * b) : (csN a b c 3 < sdN a b ∧ haN a b (csN a b c 3) 0 = c ∧ (haN a b (csN a b c 3) 1 = c + 1 ∨ haN a b (csN a b c 3) 1 = 16) ∧ csN a b c 1 < sdN a b) ∧ ∀ s, csN a b c 3 < s → s < sdN a b → inS a b (c + 1) s = true := by
  have hn := gOK_lt hg
  obtain ⟨⟨h1, h2⟩, h3, h4⟩ := hg
  have := rt_all ⟨a, by omega⟩ ⟨b, by omega⟩ h1 h3 ⟨c, by omega⟩ hc
  exact ⟨⟨this.1, this.2.1, this.2.2.1, this.2.2.2.1⟩, fun s hs1 hs2 => this.2.2.2.2 ⟨s, by omega⟩ hs1 hs2⟩
theorem tn_lt_of {x y : Int64} {r : Nat} (hx : bt x r = false) (hy : bt y r = true) (h : ∀ j, r < j → bt x j = bt y j) : x.toBitVec.toNat < y.toBitVec.toNat := by
  have hx : x.toBitVec.toNat.testBit r = false := hx
  have hy : y.toBitVec.toNat.testBit r = true := hy
  have h : ∀ j, r < j → x.toBitVec.toNat.testBit j = y.toBitVec.toNat.testBit j := h
  generalize x.toBitVec.toNat = X at hx h ⊢
  generalize y.toBitVec.toNat = Y at hy h ⊢
  have e : X / 2 ^ (r + 1) = Y / 2 ^ (r + 1) := by
    apply Nat.eq_of_testBit_eq
    intro i
    rw [Nat.testBit_div_two_pow, Nat.testBit_div_two_pow]
    exact h _ (by omega)
  rw [Nat.testBit_eq_decide_div_mod_eq] at hx hy
  have hx : X / 2 ^ r % 2 ≠ 1 := by simpa using hx
  have hy : Y / 2 ^ r % 2 = 1 := by simpa using hy
  rw [Nat.pow_succ, ← Nat.div_div_eq_div_mul, ← Nat.div_div_eq_div_mul] at e
  rcases Nat.lt_or_ge X Y with q | q
  · exact q
  · have := Nat.div_le_div_right (c := 2 ^ r) q
    omega
/-- the list of the leaves -/
def dl (ft : Nat → Int64 → Bool) (tk : Int64 → Bool) (ro : Nat → Int64) (rt : Nat → Nat) : Nat → Int64 → List Int64
  | 0, x => if tk x = true then [x] else []
  | c + 1, x => if bt x (rt c) = true then (if ft c (x ^^^ ro c) = true then dl ft tk ro rt c (x ^^^ ro c) else []) ++ (if ft c x = true then dl ft tk ro rt c x else []) else (if ft c x = true then dl ft tk ro rt c x else []) ++ (if ft c (x ^^^ ro c) = true then dl ft tk ro rt c (x ^^^ ro c) else [])
def pt (cap : Nat) (u : Nat × (Nat → Int64)) (x : Int64) : Nat × (Nat → Int64) := if u.1 < cap then (u.1 + 1, vp_updL u.2 u.1 x) else u
theorem pt_full {cap : Nat} {A : Nat → Int64} : ∀ L : List Int64, L.foldl (pt cap) (cap, A) = (cap, A) := by
  intro L
  induction L with
  | nil => rfl
  | cons x L ih =>
    rw [List.foldl_cons, pt, if_neg (by simp)]
    exact ih
theorem pt_val {cap : Nat} : ∀ (L : List Int64) (z : Nat) (A : Nat → Int64), z ≤ cap → (L.foldl (pt cap) (z, A)).1 = min cap (z + L.length) ∧ (∀ i, i < z → (L.foldl (pt cap) (z, A)).2 i = A i) ∧ ∀ i (hi : i < L.length), z + i < cap → (L.foldl (pt cap) (z, A)).2 (z + i) = L[i] := by
  intro L
  induction L with
  | nil => intro z A hz; exact ⟨by simp; omega, fun i _ => rfl, fun i hi => absurd hi (by simp)⟩
  | cons x L ih =>
    intro z A hz
    rw [List.foldl_cons, pt]
    by_cases q : z < cap
    · rw [if_pos q]
      obtain ⟨h1, h2, h3⟩ := ih (z + 1) (vp_updL A z x) (by omega)
      refine ⟨by rw [h1, List.length_cons]; omega, fun i hi => ?_, fun i hi hc => ?_⟩
      · have := h2 i (by omega)
        rw [pk_uLn (by omega)] at this
        exact this
      · cases i with
        | zero =>
          have := h2 z (by omega)
          rw [pk_uLs] at this
          exact this
        | succ i =>
          have := h3 i (by simpa using hi) (by omega)
          rw [show z + 1 + i = z + (i + 1) by omega] at this
          exact this
    · rw [if_neg q]
      have e : z = cap := by omega
      subst e
      rw [pt_full]
      exact ⟨by simp, fun i _ => rfl, fun i _ hc => absurd hc (by omega)⟩
theorem lt_Pw {α : Type} {R : α → α → Prop} {L1 L2 : List α} (h1 : L1.Pairwise R) (h2 : L2.Pairwise R) (h : ∀ x, x ∈ L1 → ∀ y, y ∈ L2 → R x y) : (L1 ++ L2).Pairwise R := List.pairwise_append.mpr ⟨h1, h2, h⟩
