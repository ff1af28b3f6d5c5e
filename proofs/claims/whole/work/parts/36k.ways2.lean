/-! rule 3, the class's search and the model's -/
theorem inC_oth {a b h s : Nat} (hs : inC a b h s = true) : inC a b (oth a b h s) s = true ∧ s < sdN a b := by
  unfold inC at hs ⊢
  have h1 : s < sdN a b := by
    have := (Bool.and_eq_true _ _ ▸ hs).1
    simpa using this
  have h2 := (Bool.and_eq_true _ _ ▸ hs).2
  refine ⟨?_, h1⟩
  rw [decide_eq_true h1]
  unfold oth
  split
  · simp
  · simp
theorem cd_dec {h h' w : Nat} {t t' : Bool} (h1 : h ≤ 16) (h2 : h' ≤ 16) (hw : 17 ≤ w) (e : h + w * t.toNat = h' + w * t'.toNat) : h = h' ∧ t = t' := by
  cases t <;> cases t' <;> simp at e ⊢ <;> omega
def WInv (a b : Nat) (l Y : Int64) (x w : Nat) (R : Int64) : Prop := bt R (haN a b x 0) = true ∧ (∀ i, bt R i = true → ∃ h t, h ≤ 16 ∧ i = h + w * Bool.toNat t ∧ (∃ s, s < sdN a b ∧ inC a b h s = true) ∧ ∀ C : Nat → Bool → Prop, C (haN a b x 0) false → ClH a b l Y C → C h t)
theorem F_wp {a b x : Nat} (hg : gOK a b) {ha : Nat → Int32} (hha : ∀ s, s < sdN a b → ∀ e, e < 2 → ha (2 * s + e) = nI (haN a b s e)) {ro : Nat → Int64} (hro : ∀ h, h ≤ 16 → (∃ s, s < sdN a b ∧ inC a b h s = true) → ro h = lN (roN a b h)) {l Y : Int64} (hY : ∀ i, sdN a b ≤ i → bt Y i = false) {β : Type} (k : Int64 → β) : ∀ (n j : Nat) (c f : Int64), 64 < j + n → Sub f c → cnt (c &&& (f ^^^ (-1))) = j → WInv a b l Y x 32 c → (∀ h t, h ≤ 16 → bt c (h + 32 * Bool.toNat t) = true → bt f (h + 32 * Bool.toNat t) = false → ∀ s, bt Y s = true → inC a b h s = true → bt c (cdN a b l 32 h s t) = true) →
    ∃ R, F_X3_waysPast_46 Y l ha ro k n c f (nI j) = k R ∧ WInv a b l Y x 32 R ∧ ClH a b l Y (fun h t => bt R (h + 32 * Bool.toNat t) = true) := by
  have hn := gOK_lt hg
  have lim : ∀ c : Int64, WInv a b l Y x 32 c → ∀ i, 49 ≤ i → bt c i = false := by
    intro c hc i hi
    cases q : bt c i with
    | false => rfl
    | true =>
      obtain ⟨h, t, h1, h2, -⟩ := hc.2 i q
      have := tN_le t
      omega
  intro n
  induction n with
  | zero =>
    intro j c f h1 h2 h4 h5 h6
    exfalso
    have := cnt_le' (x := c &&& (f ^^^ (-1))) (s := 49) (fun i hi => by rw [bt_and, lim c h5 i hi]; rfl) (by decide)
    omega
  | succ n ih =>
    intro j c f h1 h2 h4 h5 h6
    rw [F_X3_waysPast_46]
    have hj : j ≤ 49 := by
      have := cnt_le' (x := c &&& (f ^^^ (-1))) (s := 49) (fun i hi => by rw [bt_and, lim c h5 i hi]; rfl) (by decide)
      omega
    rw [if_neg (lit_nle 64 64 rfl (show j < 64 by omega) (by decide))]
    by_cases hf : lg_cmp f 0 = 0
    · rw [if_pos hf]
      refine ⟨c, rfl, h5, fun h t s hh hc hs hi => ?_⟩
      exact h6 h t hh hc (by rw [lgz2 hf, bt_zero]) s hs hi
    · rw [if_neg hf]
      obtain ⟨u, hu64, hu, hub, hul, hum⟩ := ntz_spec (lgz hf)
      obtain ⟨h, t, hh, rfl, hex, hC⟩ := h5.2 u (h2 u hub)
      have hN := nw_val hg hha hro hY (l := l) hh hex t
      rw [hu, nI_1]
      simp only [bd, f_X7_bit]
      generalize f_X3_nextOnWay (nI (h + 32 * t.toNat)) Y l ha ro = N at hN ⊢
      have hM : ∀ i, i < 64 → bt (N &&& (c ^^^ (-1))) i = (bt N i && !bt c i) := fun i hi => by rw [bt_and, bt_not _ hi]
      have hMo : ∀ i, 64 ≤ i → bt (N &&& (c ^^^ (-1))) i = false := fun i hi => bt_out _ hi
      generalize N &&& (c ^^^ (-1)) = M at hM hMo ⊢
      have hf2 : ∀ i, bt ((f &&& (shlL 1 (nI (h + 32 * t.toNat)) ^^^ (-1))) ||| M) i = ((bt f i && decide (i ≠ h + 32 * t.toNat)) || bt M i) := fun i => by rw [bt_or, bt_rm hu64]
      generalize (f &&& (shlL 1 (nI (h + 32 * t.toNat)) ^^^ (-1))) ||| M = f2 at hf2 ⊢
      have hMN : ∀ i, bt M i = true → bt N i = true ∧ bt c i = false := fun i hi => by
        rcases Nat.lt_or_ge i 64 with z | z
        · rw [hM i z] at hi
          simpa using hi
        · rw [hMo i z] at hi; cases hi
      have hNc : ∀ i, bt N i = true → bt (c ||| M) i = true := fun i hi => by
        rcases Nat.lt_or_ge i 64 with z | z
        · rw [bt_or, hM i z, hi]; cases bt c i <;> rfl
        · rw [bt_out N z] at hi; cases hi
      refine ih (j + 1) (c ||| M) f2 (by omega) ?_ ?_ ?_ ?_
      · intro i hi
        rw [hf2 i] at hi
        rw [bt_or]
        by_cases q : bt M i = true
        · rw [q]; simp
        · have : bt f i = true := by
            revert hi; cases bt f i <;> simp [q]
          rw [h2 i this]; rfl
      · have := countP_one (p := fun i => bt ((c ||| M) &&& (f2 ^^^ (-1))) i) (q := fun i => bt (c &&& (f ^^^ (-1))) i) (t := h + 32 * t.toNat) 64 hu64 (by
          show bt ((c ||| M) &&& (f2 ^^^ (-1))) _ = true
          rw [bt_and, bt_not _ hu64, hf2, bt_or, h2 _ hub]
          have : bt M (h + 32 * t.toNat) = false := by
            cases q : bt M (h + 32 * t.toNat) with
            | false => rfl
            | true => have := (hMN _ q).2; rw [h2 _ hub] at this; cases this
          rw [this]; simp) (by
          show bt (c &&& (f ^^^ (-1))) _ = false
          rw [bt_and, bt_not _ hu64, hub]; simp) (fun i hi hne => by
          show bt ((c ||| M) &&& (f2 ^^^ (-1))) _ = bt (c &&& (f ^^^ (-1))) _
          rw [bt_and, bt_not _ hi, hf2, bt_or, bt_and, bt_not _ hi]
          cases q : bt M i with
          | false => simp [hne]
          | true =>
            rw [(hMN i q).2]; simp)
        show (List.range 64).countP (fun i => bt ((c ||| M) &&& (f2 ^^^ (-1))) i) = j + 1
        rw [this]
        have e : (List.range 64).countP (fun i => bt (c &&& (f ^^^ (-1))) i) = j := h4
        rw [e]
      · refine ⟨by rw [bt_or, h5.1]; rfl, fun i hi => ?_⟩
        by_cases q : bt c i = true
        · exact h5.2 i q
        · have hm : bt M i = true := by
            rw [bt_or] at hi
            simpa [q] using hi
          obtain ⟨s, hs, hi2, e⟩ := (hN i).mp (hMN i hm).1
          obtain ⟨o1, o2⟩ := inC_oth hi2
          refine ⟨oth a b h s, (t ^^ bt l s), oth_le hg o2 h, e, ⟨s, o2, o1⟩, fun C c0 cl => cl h t s hh (hC C c0 cl) hs hi2⟩
      · intro h' t' hh' hc' hf' s hs hi
        by_cases q : h' + 32 * t'.toNat = h + 32 * t.toNat
        · obtain ⟨rfl, rfl⟩ := cd_dec hh' hh (by decide) q
          exact hNc _ ((hN _).mpr ⟨s, hs, hi, rfl⟩)
        · have hm : bt M (h' + 32 * t'.toNat) = false := by
            rw [hf2] at hf'
            revert hf'; cases bt M (h' + 32 * t'.toNat) <;> simp
          have hc2 : bt c (h' + 32 * t'.toNat) = true := by
            rw [bt_or, hm] at hc'; simpa using hc'
          have hf3 : bt f (h' + 32 * t'.toNat) = false := by
            rw [hf2, hm] at hf'
            simpa [q] using hf'
          rw [bt_or, h6 h' t' hh' hc2 hf3 s hs hi]; rfl
/-- the model: one pass -/
theorem goes_bit {met : Int64} {p q : Nat} (hp : p ≤ 16) (hq : q ≤ 16) (cr : Bool) (i : Nat) : bt (f_X8_goes met (nI p) (nI q) (if cr = true then 1 else 0)) i = true ↔ ∃ t : Bool, bt met (p + 17 * t.toNat) = true ∧ i = q + 17 * (t ^^ cr).toNat := by
  have e17 : ∀ z : Nat, nI z + 17 = nI (z + 17) := fun z => nI_add z 17
  have key : ∀ c : Nat, c < 64 → (bt (shlL 1 (nI c)) i = true ↔ i = c) := fun c hc => by rw [bt_one_shl hc]; simp
  unfold f_X8_goes
  rw [e17, e17, has_val met (show p < 64 by omega), has_val met (show p + 17 < 64 by omega)]
  have h1 := key q (by omega)
  have h2 := key (q + 17) (by omega)
  constructor
  · intro h
    cases c0 : bt met p <;> cases c1 : bt met (p + 17) <;> cases cr <;> simp [c0, c1, bt_or, bt_zero] at h
    all_goals first
      | (refine ⟨true, c1, ?_⟩; simpa using (by first | exact h2.mp h | exact h1.mp h))
      | (refine ⟨false, c0, ?_⟩; simpa using (by first | exact h1.mp h | exact h2.mp h))
      | (rcases h with h | h
         · first
           | (refine ⟨false, c0, ?_⟩; simpa using (by first | exact h1.mp h | exact h2.mp h))
         · first
           | (refine ⟨true, c1, ?_⟩; simpa using (by first | exact h2.mp h | exact h1.mp h)))
  · rintro ⟨t, ht, e⟩
    cases t <;> cases cr <;> simp at ht e <;> simp [ht] <;> subst e
    all_goals (cases c0 : bt met p <;> cases c1 : bt met (p + 17) <;> simp [c0, c1, bt_or, h1, h2] <;> simp_all)
