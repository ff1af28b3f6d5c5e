/-! rule 3: ways over marked sides; both searches find the least closed set -/
def oth (a b h s : Nat) : Nat := if haN a b s 0 = h then haN a b s 1 else haN a b s 0
def cdN (a b : Nat) (l : Int64) (w h s : Nat) (t : Bool) : Nat := oth a b h s + w * (t ^^ bt l s).toNat
def ClH (a b : Nat) (l Y : Int64) (C : Nat → Bool → Prop) : Prop := ∀ h t s, h ≤ 16 → C h t → bt Y s = true → inC a b h s = true → C (oth a b h s) (t ^^ bt l s)
theorem ha_all : ∀ a b : Fin 5, 1 ≤ a.val → 1 ≤ b.val → ∀ k : Fin 40, k.val < sdN a.val b.val → (haN a.val b.val k.val 0 ≤ 16 ∧ haN a.val b.val k.val 1 ≤ 16) ∧ haN a.val b.val k.val 0 ≠ haN a.val b.val k.val 1 := by decide +kernel
theorem ha_le {a b k : Nat} (hg : gOK a b) (hk : k < sdN a b) : (haN a b k 0 ≤ 16 ∧ haN a b k 1 ≤ 16) ∧ haN a b k 0 ≠ haN a b k 1 := by
  have hn := gOK_lt hg
  obtain ⟨⟨h1, h2⟩, h3, h4⟩ := hg
  exact ha_all ⟨a, by omega⟩ ⟨b, by omega⟩ h1 h3 ⟨k, by omega⟩ hk
theorem oth_le {a b s : Nat} (hg : gOK a b) (hs : s < sdN a b) (h : Nat) : oth a b h s ≤ 16 := by
  have := ha_le hg hs
  unfold oth
  split <;> omega
theorem tN_le (t : Bool) : t.toNat ≤ 1 := by cases t <;> decide
theorem cd_lt {a b s : Nat} (hg : gOK a b) (hs : s < sdN a b) (l : Int64) (h : Nat) (t : Bool) {w : Nat} (hw : w ≤ 32) : cdN a b l w h s t ≤ 16 + w := by
  have := oth_le hg hs h
  have h2 : w * (t ^^ bt l s).toNat ≤ w * 1 := Nat.mul_le_mul_left w (tN_le _)
  unfold cdN
  omega
theorem hand_val {a b s e : Nat} (hg : gOK a b) (hs : s < sdN a b) (he : e < 2) {ha : Nat → Int32} (hha : ∀ s, s < sdN a b → ∀ e, e < 2 → ha (2 * s + e) = nI (haN a b s e)) : f_X4_hand (nI s) (nI e) ha = nI (haN a b s e) := by
  have hn := gOK_lt hg
  rw [f_X4_hand, show (2 : Int32) = nI 2 from rfl, pk_mul, nI_add, atI_val _ (by omega) (by decide), Nat.mul_comm s 2]
  exact hha s hs e he
theorem cnt_z {x : Int64} (h : cnt x = 0) : x = 0 := by
  by_cases q : x = 0
  · exact q
  · have := cnt_low q
    omega
theorem bt_rm {x : Int64} {u : Nat} (hu : u < 64) (i : Nat) : bt (x &&& (shlL 1 (nI u) ^^^ (-1))) i = (bt x i && decide (i ≠ u)) := by
  rcases Nat.lt_or_ge i 64 with q | q
  · rw [bt_and, bt_not _ q, bt_one_shl hu]
    by_cases e : i = u <;> simp [e]
  · rw [bt_out _ q, bt_out _ q]; rfl
theorem rm_low {x : Int64} {u : Nat} (hu : u < 64) (hl : ∀ j, j < u → bt x j = false) (hm : ∀ k, bt (x - 1) k = if k < u then true else if k = u then false else bt x k) : x &&& (shlL 1 (nI u) ^^^ (-1)) = x &&& (x - 1) := by
  apply bt_ext
  intro i _
  rw [bt_rm hu, bt_and, hm i]
  by_cases q : i < u
  · rw [hl i q]; simp
  · by_cases e : i = u
    · simp [e]
    · simp [q, e]
theorem bt_put {x : Int64} {u : Nat} (hu : u < 64) (i : Nat) : bt (x ||| shlL 1 (nI u)) i = (bt x i || decide (i = u)) := by rw [bt_or, bt_one_shl hu]
theorem sub32 (t : Bool) : (32 : Int32) - nI (32 * t.toNat) = nI (32 * (!t).toNat) := by cases t <;> decide
theorem F_nw {a b : Nat} (hg : gOK a b) {ha : Nat → Int32} (hha : ∀ s, s < sdN a b → ∀ e, e < 2 → ha (2 * s + e) = nI (haN a b s e)) {l : Int64} {h : Nat} (hh : h ≤ 16) (t : Bool) {β : Type} (k : Int64 → β) : ∀ (n j : Nat) (x6 x8 : Int64), cnt x8 + j ≤ 40 → 40 < j + n → (∀ i, sdN a b ≤ i → bt x8 i = false) → ∃ z, F_X3_nextOnWay_41 (nI h) (nI (32 * t.toNat)) l ha k n x6 x8 (nI j) = k z ∧ ∀ i, bt z i = true ↔ (bt x6 i = true ∨ ∃ s, bt x8 s = true ∧ i = cdN a b l 32 h s t) := by
  have hn := gOK_lt hg
  intro n
  induction n with
  | zero => intro j x6 x8 h1 h2; exact absurd h2 (by omega)
  | succ n ih =>
    intro j x6 x8 h1 h2 h3
    rw [F_X3_nextOnWay_41]
    have done : x8 = 0 → ∀ i, bt x6 i = true ↔ (bt x6 i = true ∨ ∃ s, bt x8 s = true ∧ i = cdN a b l 32 h s t) := fun e i => by
      rw [e]
      refine ⟨Or.inl, fun q => ?_⟩
      rcases q with q | ⟨s, hs, _⟩
      · exact q
      · rw [bt_zero] at hs; cases hs
    by_cases hj : 40 ≤ j
    · rw [if_pos (lit_le 40 40 rfl hj (by omega))]
      exact ⟨x6, rfl, done (cnt_z (by omega))⟩
    · rw [if_neg (lit_nle 40 40 rfl (show j < 40 by omega) (by decide))]
      by_cases hf : lg_cmp x8 0 = 0
      · rw [if_pos hf]
        exact ⟨x6, rfl, done (lgz2 hf)⟩
      · rw [if_neg hf]
        obtain ⟨u, hu64, hu, hub, hul, hum⟩ := ntz_spec (lgz hf)
        have hus : u < sdN a b := by
          rcases Nat.lt_or_ge u (sdN a b) with z | z
          · exact z
          · rw [h3 u z] at hub; cases hub
        have hle := ha_le hg hus
        have v0 : f_X4_hand (nI u) 0 ha = nI (haN a b u 0) := hand_val hg hus (e := 0) (by decide) hha
        have v1 : f_X4_hand (nI u) 1 ha = nI (haN a b u 1) := hand_val hg hus (e := 1) (by decide) hha
        have hcl := cd_lt hg hus l h t (w := 32) (by decide)
        have step : ∃ z, F_X3_nextOnWay_41 (nI h) (nI (32 * t.toNat)) l ha k n (x6 ||| shlL 1 (nI (cdN a b l 32 h u t))) (x8 &&& (shlL 1 (nI u) ^^^ (-1))) (nI (j + 1)) = k z ∧ ∀ i, bt z i = true ↔ (bt x6 i = true ∨ ∃ s, bt x8 s = true ∧ i = cdN a b l 32 h s t) := by
          obtain ⟨z, g1, g2⟩ := ih (j + 1) (x6 ||| shlL 1 (nI (cdN a b l 32 h u t))) (x8 &&& (shlL 1 (nI u) ^^^ (-1))) (by
            have := cnt_low (lgz hf)
            rw [rm_low hu64 hul hum]
            omega) (by omega) (fun i hi => by rw [bt_rm hu64, h3 i hi]; rfl)
          refine ⟨z, g1, fun i => (g2 i).trans ?_⟩
          rw [bt_put (by omega)]
          constructor
          · rintro (q | ⟨s, hs, e⟩)
            · by_cases q1 : bt x6 i = true
              · exact Or.inl q1
              · have : i = cdN a b l 32 h u t := by simpa [q1] using q
                exact Or.inr ⟨u, hub, this⟩
            · rw [bt_rm hu64] at hs
              have : bt x8 s = true := by
                revert hs; cases bt x8 s <;> simp
              exact Or.inr ⟨s, this, e⟩
          · rintro (q | ⟨s, hs, e⟩)
            · exact Or.inl (by rw [q]; rfl)
            · by_cases es : s = u
              · subst es; exact Or.inl (by simp [e])
              · exact Or.inr ⟨s, by rw [bt_rm hu64, hs]; simp [es], e⟩
        have ecd : cdN a b l 32 h u t = oth a b h u + 32 * (t ^^ bt l u).toNat := rfl
        rw [hu, v0, v1, nI_1]
        simp only [bd, f_X7_bit, nI_add, sub32]
        by_cases q1 : haN a b u 0 = h
        · have eo : oth a b h u = haN a b u 1 := if_pos q1
          rw [if_pos (by rw [q1])]
          by_cases q2 : bt l u = true
          · rw [if_neg (by rw [and_one_iff hu64, q2]; simp)]
            rw [ecd, eo, q2, show (t ^^ true) = !t by cases t <;> rfl] at step
            exact step
          · rw [if_pos ((and_one_iff hu64).mpr (by simpa using q2))]
            rw [ecd, eo, show bt l u = false by simpa using q2, show (t ^^ false) = t by cases t <;> rfl] at step
            exact step
        · have eo : oth a b h u = haN a b u 0 := if_neg q1
          rw [if_neg (fun e => q1 ((nI_eq (by omega) (by omega)).mp e))]
          by_cases q2 : bt l u = true
          · rw [if_neg (by rw [and_one_iff hu64, q2]; simp)]
            rw [ecd, eo, q2, show (t ^^ true) = !t by cases t <;> rfl] at step
            exact step
          · rw [if_pos ((and_one_iff hu64).mpr (by simpa using q2))]
            rw [ecd, eo, show bt l u = false by simpa using q2, show (t ^^ false) = t by cases t <;> rfl] at step
            exact step
theorem cnt_le' {x : Int64} {s : Nat} (hx : ∀ i, s ≤ i → bt x i = false) (hs : s ≤ 63) : cnt x ≤ s := by
  have := cnt_full (x := x) (s := s + 1) (k := s) (by omega) (fun i hi => hx i (by omega)) (by omega) (hx s (by omega))
  omega
theorem nw_val {a b : Nat} (hg : gOK a b) {ha : Nat → Int32} (hha : ∀ s, s < sdN a b → ∀ e, e < 2 → ha (2 * s + e) = nI (haN a b s e)) {ro : Nat → Int64} (hro : ∀ h, h ≤ 16 → (∃ s, s < sdN a b ∧ inC a b h s = true) → ro h = lN (roN a b h)) {l Y : Int64} (hY : ∀ i, sdN a b ≤ i → bt Y i = false) {h : Nat} (hh : h ≤ 16) (hx : ∃ s, s < sdN a b ∧ inC a b h s = true) (t : Bool) : ∀ i, bt (f_X3_nextOnWay (nI (h + 32 * t.toNat)) Y l ha ro) i = true ↔ ∃ s, bt Y s = true ∧ inC a b h s = true ∧ i = cdN a b l 32 h s t := by
  have hn := gOK_lt hg
  have ht := tN_le t
  have hb : ∀ s, bt (ro h &&& Y) s = (inC a b h s && bt Y s) := fun s => by
    rcases Nat.lt_or_ge s 64 with q | q
    · rw [bt_and, hro h hh hx, ro_bit hg h q]
    · rw [bt_out _ q, bt_out Y q]; simp
  have hb0 : ∀ s, sdN a b ≤ s → bt (ro h &&& Y) s = false := fun s hs => by rw [hb s, hY s hs]; simp
  have hc := cnt_le' (s := 40) (x := ro h &&& Y) (fun i hi => hb0 i (by omega)) (by decide)
  obtain ⟨z, g1, g2⟩ := F_nw hg hha (l := l) hh t (fun z : Int64 => z) (fu 40 (0 : Int32)) 0 0 (ro h &&& Y) (by omega) (by decide) hb0
  have e : f_X3_nextOnWay (nI (h + 32 * t.toNat)) Y l ha ro = z := by
    unfold f_X3_nextOnWay
    cases t with
    | true =>
      rw [show h + 32 * Bool.toNat true = h + 32 from rfl, if_pos (lit_le 32 32 rfl (by omega) (by omega))]
      have e1 : nI (h + 32) - 32 = nI h := by
        rw [← nI_add, show nI 32 = 32 from rfl]; simp
      have e2 : nI (h + 32) - nI h = nI (32 * Bool.toNat true) := by
        rw [← nI_add, show nI h + nI 32 - nI h = nI 32 by rw [Int32.add_comm]; simp]; rfl
      rw [e1, e2, ro_at (by omega)]
      exact g1
    | false =>
      rw [show h + 32 * Bool.toNat false = h from rfl, if_neg (lit_nle 32 32 rfl (show h < 32 by omega) (by decide))]
      have e2 : nI h - nI h = nI (32 * Bool.toNat false) := by simp; rfl
      rw [e2, ro_at (by omega)]
      exact g1
  intro i
  rw [e, g2 i]
  constructor
  · rintro (q | ⟨s, hs, e⟩)
    · rw [bt_zero] at q; cases q
    · rw [hb s] at hs
      have : inC a b h s = true ∧ bt Y s = true := by simpa using hs
      exact ⟨s, this.2, this.1, e⟩
  · rintro ⟨s, h1, h2, e⟩
    exact Or.inr ⟨s, by rw [hb s, h1, h2]; rfl, e⟩
