/-! chains: the least set closed under common points -/
def Clo (a b : Nat) (S C : Int64) : Prop := ∀ p k j, p < (a + 1) * (b + 1) → bt C k = true → inP a b p k = true → inP a b p j = true → bt S j = true → bt C j = true
def Sub (x y : Int64) : Prop := ∀ k, bt x k = true → bt y k = true
def Least (a b : Nat) (T S R : Int64) : Prop := Sub T R ∧ Clo a b S R ∧ ∀ C, Sub T C → Clo a b S C → Sub R C
theorem Sub.anti {x y : Int64} (h1 : Sub x y) (h2 : Sub y x) : x = y := by
  apply bt_ext
  intro k _
  have g1 := h1 k
  have g2 := h2 k
  revert g1 g2
  cases bt x k <;> cases bt y k <;> simp
theorem Sub.rfl' (x : Int64) : Sub x x := fun _ h => h
theorem Least.uniq {a b : Nat} {T T' S R R' : Int64} (h : Least a b T S R) (h' : Least a b T' S R') (e1 : ∀ C, Clo a b S C → Sub T C → Sub T' C) (e2 : ∀ C, Clo a b S C → Sub T' C → Sub T C) : R = R' :=
  Sub.anti (h.2.2 R' (e2 R' h'.2.1 h'.1) h'.2.1) (h'.2.2 R (e1 R h.2.1 h.1) h.2.1)
theorem ne0_ex {x : Int64} (h : ¬ lg_cmp x 0 = 0) : ∃ k, bt x k = true := by
  obtain ⟨t, _, h2, _⟩ := low_bit (lgz h)
  exact ⟨t, h2⟩
theorem eq0_all {x : Int64} (h : lg_cmp x 0 = 0) (k : Nat) : bt x k = false := by rw [lgz2 h, bt_zero]
theorem pts_nI (a b : Nat) : f_X8_points (nI a) (nI b) = nI ((a + 1) * (b + 1)) := by rw [f_X8_points, nI_1, nI_1, pk_mul]
theorem en_only {a b p k : Nat} (h : inP a b p k = true) : enN a b k 0 = p ∨ enN a b k 1 = p := by
  unfold inP at h
  have h2 := (Bool.and_eq_true _ _ ▸ h).2
  rcases Bool.or_eq_true _ _ ▸ h2 with g | g
  · exact Or.inl (by simpa using g)
  · exact Or.inr (by simpa using g)
theorem en_in {a b k : Nat} (hk : k < sdN a b) (e : Fin 2) : inP a b (enN a b k e.val) k = true := by
  unfold inP
  rw [decide_eq_true hk]
  match e with
  | 0 => simp
  | 1 => simp
theorem en_lt_all : ∀ a b : Fin 5, 1 ≤ a.val → 1 ≤ b.val → ∀ k : Fin 40, k.val < sdN a.val b.val → ∀ e : Fin 2, enN a.val b.val k.val e.val < (a.val + 1) * (b.val + 1) := by decide +kernel
theorem en_lt {a b k : Nat} (hg : gOK a b) (hk : k < sdN a b) (e : Nat) (he : e < 2) : enN a b k e < (a + 1) * (b + 1) := by
  have hn := gOK_lt hg
  obtain ⟨⟨h1, h2⟩, h3, h4⟩ := hg
  exact en_lt_all ⟨a, by omega⟩ ⟨b, by omega⟩ h1 h3 ⟨k, by omega⟩ hk ⟨e, he⟩
/-- one pass over the points -/
theorem F_ch21 {a b : Nat} (hg : gOK a b) {S : Int64} {ap : Nat → Int64} (hap : ∀ p, p < (a + 1) * (b + 1) → ap p = lN (meN a b p)) {β : Type} (k : Int64 → β) : ∀ (n j : Nat) (x : Int64), j ≤ (a + 1) * (b + 1) → (a + 1) * (b + 1) < j + n → ∃ z, F_X8_chain_21 S (nI a) (nI b) ap k n x (nI j) = k z ∧ Sub x z ∧ (∀ C, Sub x C → Clo a b S C → Sub z C) ∧ (z = x → ∀ p, j ≤ p → p < (a + 1) * (b + 1) → ∀ i, bt x i = true → inP a b p i = true → ∀ q, inP a b p q = true → bt S q = true → bt x q = true) := by
  have hn := gOK_lt hg
  intro n
  induction n with
  | zero => intro j x h1 h2; exact absurd h2 (by omega)
  | succ n ih =>
    intro j x h1 h2
    rw [F_X8_chain_21, pts_nI]
    by_cases hj : (a + 1) * (b + 1) ≤ j
    · rw [if_pos (nI_le hj (by omega))]
      exact ⟨x, rfl, Sub.rfl' x, fun C h _ => h, fun _ p h3 h4 => absurd h4 (by omega)⟩
    · rw [if_neg (nI_ge (by omega) (by omega)), nI_clamp (by omega), nI_1, hap j (by omega)]
      by_cases hc : lg_cmp (lN (meN a b j) &&& x) 0 = 0
      · rw [if_pos hc]
        have e0 : x ||| 0 = x := bt_ext (fun k _ => by rw [bt_or, bt_zero]; simp)
        rw [e0]
        obtain ⟨z, g1, g2, g3, g4⟩ := ih (j + 1) x (by omega) (by omega)
        refine ⟨z, g1, g2, g3, fun e p hp hp2 i hi hi2 q hq hq2 => ?_⟩
        by_cases ep : p = j
        · subst ep
          have hb := eq0_all hc i
          rcases Nat.lt_or_ge i 64 with hi64 | hi64
          · rw [bt_and, me_bit hg p hi64, hi2, hi] at hb; cases hb
          · rw [bt_out x hi64] at hi; cases hi
        · exact g4 e p (by omega) hp2 i hi hi2 q hq hq2
      · rw [if_neg hc]
        obtain ⟨z, g1, g2, g3, g4⟩ := ih (j + 1) (x ||| (lN (meN a b j) &&& S)) (by omega) (by omega)
        have hx : Sub x (x ||| (lN (meN a b j) &&& S)) := fun i hi => by rw [bt_or, hi]; rfl
        obtain ⟨i0, hi0⟩ := ne0_ex hc
        rw [bt_and] at hi0
        have hi64 : i0 < 64 := by
          rcases Nat.lt_or_ge i0 64 with q | q
          · exact q
          · rw [bt_out x q] at hi0; simp at hi0
        rw [me_bit hg j hi64] at hi0
        have hi1 : inP a b j i0 = true ∧ bt x i0 = true := by simpa using hi0
        refine ⟨z, g1, fun i hi => g2 i (hx i hi), fun C hC hcl => g3 C (fun i hi => ?_) hcl, fun e p hp hp2 i hi hi2 q hq hq2 => ?_⟩
        · rw [bt_or, bt_and] at hi
          by_cases q : bt x i = true
          · exact hC i q
          · have h64 : i < 64 := by
              rcases Nat.lt_or_ge i 64 with q' | q'
              · exact q'
              · rw [bt_out S q'] at hi; simp [q] at hi
            rw [me_bit hg j h64] at hi
            have hi' : inP a b j i = true ∧ bt S i = true := by simpa [q] using hi
            exact hcl j i0 i (by omega) (hC i0 hi1.2) hi1.1 hi'.1 hi'.2
        · have ex : x ||| (lN (meN a b j) &&& S) = x := Sub.anti (fun i hi => by rw [← e]; exact g2 i hi) hx
          by_cases ep : p = j
          · subst ep
            rw [← ex, bt_or, bt_and]
            have h64 : q < 64 := by
              rcases Nat.lt_or_ge q 64 with q' | q'
              · exact q'
              · rw [bt_out S q'] at hq2; cases hq2
            rw [me_bit hg p h64, hq, hq2]; simp
          · rw [ex] at g4
            exact g4 e p (by omega) hp2 i hi hi2 q hq hq2
theorem F_ch6 {a b : Nat} (hg : gOK a b) {S T : Int64} {ap : Nat → Int64} (hap : ∀ p, p < (a + 1) * (b + 1) → ap p = lN (meN a b p)) {β : Type} (k : Int64 → β) : ∀ (n : Nat) (x y : Int64), chC n y x → Sub T x → (∀ C, Sub T C → Clo a b S C → Sub x C) → (y = x → Clo a b S x) → ∃ R, F_X8_chain_6 S (nI a) (nI b) ap k n x y = k R ∧ Least a b T S R := by
  have hn := gOK_lt hg
  intro n
  induction n with
  | zero => intro x y h; exact absurd h.1 (Nat.lt_irrefl 0)
  | succ n ih =>
    intro x y hf h1 h2 h3
    rw [F_X8_chain_6]
    by_cases hc : lg_cmp y x = 0
    · rw [if_pos hc]
      exact ⟨x, rfl, h1, h3 ((lg_cmp_eq _ _).mp hc), h2⟩
    · rw [if_neg hc, pts_nI]
      have hfu : fu (nI ((a + 1) * (b + 1))) (0 : Int32) = (a + 1) * (b + 1) + 1 := by
        unfold fu
        rw [nI_toInt (by omega), Int32.toInt_zero]
        omega
      rw [hfu, show (0 : Int32) = nI 0 from rfl]
      obtain ⟨z, g1, g2, g3, g4⟩ := F_ch21 hg (S := S) hap (fun z1 => F_X8_chain_6 S (nI a) (nI b) ap k n z1 x) ((a + 1) * (b + 1) + 1) 0 x (by omega) (by omega)
      rw [g1]
      have hle : x.toBitVec.toNat ≤ z.toBitVec.toNat := by
        have ez : z = x ||| z := Sub.anti (fun i hi => by rw [bt_or, hi]; simp) (fun i hi => by
          rw [bt_or] at hi
          by_cases q : bt x i = true
          · exact g2 i q
          · simpa [q] using hi)
        rw [ez]
        exact or_le x z
      refine ih z x (ch_s hf hc hle) (fun i hi => g2 i (h1 i hi)) (fun C hC hcl => g3 C (h2 C hC hcl) hcl) (fun e => ?_)
      rw [← e]
      intro p i j hp hi hi2 hj hj2
      exact g4 e.symm p (by omega) hp i hi hi2 j hj hj2
theorem chain_least {a b : Nat} (hg : gOK a b) {S T : Int64} {ap : Nat → Int64} (hap : ∀ p, p < (a + 1) * (b + 1) → ap p = lN (meN a b p)) : Least a b T S (f_X8_chain T S (nI a) (nI b) ap) := by
  rw [f_X8_chain]
  obtain ⟨R, e, h⟩ := F_ch6 hg (S := S) (T := T) hap (fun z2 => z2) (18446744073709551617 - (0 : Int64).toBitVec.toNat) T 0 (ch_0 T) (Sub.rfl' T) (fun C h _ => h) (fun e => by
    rw [← e]
    intro p k j _ hk
    rw [bt_zero] at hk; cases hk)
  rw [e]
  exact h
theorem cnt_full {x : Int64} {s k : Nat} (hs : s ≤ 64) (hx : ∀ i, s ≤ i → bt x i = false) (hk : k < s) (h : bt x k = false) : cnt x < s := by
  have h1 := countP_one (p := fun i => bt x i || decide (i = k)) (q := fun i => bt x i) (t := k) 64 (by omega) (by simp) h (fun i _ hne => by simp [hne])
  have h2 : (List.range 64).countP (fun i => bt x i || decide (i = k)) ≤ (List.range 64).countP (fun i => decide (i < s)) := by
    apply List.countP_mono_left
    intro i _ hi
    rcases Nat.lt_or_ge i s with q | q
    · simp [q]
    · rw [hx i q] at hi
      have : i = k := by simpa using hi
      omega
  rw [countP_lt] at h2
  show (List.range 64).countP (fun i => bt x i) < s
  omega
theorem F_co13 {a b : Nat} (hg : gOK a b) {S : Int64} {be : Nat → Int64} {t : Nat} (hbe : ∀ s, s < sdN a b → be s = lN (beN a b s)) (hS : ∀ i, sdN a b ≤ i → bt S i = false) {β : Type} (k : Int64 → β) : ∀ (n j : Nat) (c f : Int64), 40 < j + n → Sub f c → (∀ i, sdN a b ≤ i → bt c i = false) → cnt (c &&& (f ^^^ (-1))) = j → bt c t = true → (∀ C, bt C t = true → Clo a b S C → Sub c C) → (∀ i, bt c i = true → bt f i = false → ∀ p q, p < (a + 1) * (b + 1) → inP a b p i = true → inP a b p q = true → bt S q = true → bt c q = true) → ∃ R, F_X4_chainOf_13 S be k n c f (nI j) = k R ∧ bt R t = true ∧ Clo a b S R ∧ ∀ C, bt C t = true → Clo a b S C → Sub R C := by
  have hn := gOK_lt hg
  intro n
  induction n with
  | zero =>
    intro j c f h1 h2 h3 h4
    exfalso
    have := cnt_full (x := c &&& (f ^^^ (-1))) (s := 41) (k := 40) (by decide) (fun i hi => by rw [bt_and, h3 i (by omega)]; rfl) (by decide) (by rw [bt_and, h3 40 (by omega)]; rfl)
    omega
  | succ n ih =>
    intro j c f h1 h2 h3 h4 h5 h6 h7
    rw [F_X4_chainOf_13]
    have hj41 : j ≤ 40 := by
      have := cnt_full (x := c &&& (f ^^^ (-1))) (s := 41) (k := 40) (by decide) (fun i hi => by rw [bt_and, h3 i (by omega)]; rfl) (by decide) (by rw [bt_and, h3 40 (by omega)]; rfl)
      omega
    have done : f = 0 → bt c t = true ∧ Clo a b S c ∧ ∀ C, bt C t = true → Clo a b S C → Sub c C := fun e => ⟨h5, fun p i q hp hi hi2 hq hq2 => h7 i hi (by rw [e, bt_zero]) p q hp hi2 hq hq2, h6⟩
    by_cases hj : 40 ≤ j
    · rw [if_pos (lit_le 40 40 rfl hj (by omega))]
      refine ⟨c, rfl, done ?_⟩
      apply bt_ext
      intro i hi
      rw [bt_zero]
      cases q : bt f i with
      | false => rfl
      | true =>
        exfalso
        have hc1 := h2 i q
        have hi40 : i < sdN a b := by
          rcases Nat.lt_or_ge i (sdN a b) with z | z
          · exact z
          · rw [h3 i z] at hc1; cases hc1
        have := cnt_full (x := c &&& (f ^^^ (-1))) (s := 40) (k := i) (by decide) (fun i hi => by rw [bt_and, h3 i (by omega)]; rfl) (by omega) (by rw [bt_and, bt_not _ hi, q]; simp)
        omega
    · rw [if_neg (lit_nle 40 40 rfl (show j < 40 by omega) (by decide))]
      by_cases hf : lg_cmp f 0 = 0
      · rw [if_pos hf]
        exact ⟨c, rfl, done (lgz2 hf)⟩
      · rw [if_neg hf]
        obtain ⟨u, hu64, hu, hub, hul, hum⟩ := ntz_spec (lgz hf)
        have huc := h2 u hub
        have hus : u < sdN a b := by
          rcases Nat.lt_or_ge u (sdN a b) with z | z
          · exact z
          · rw [h3 u z] at huc; cases huc
        rw [hu, if_neg (lit_nle 40 40 rfl (show u < 40 by omega) (by decide)), nI_clamp (by omega), hbe u hus, bd, nI_1]
        have hmb : ∀ i, i < 64 → bt ((lN (beN a b u) &&& S) &&& (c ^^^ (-1))) i = (((inP a b (enN a b u 0) i || inP a b (enN a b u 1) i) && bt S i) && !bt c i) := fun i hi => by rw [bt_and, bt_and, be_bit hg u hi, bt_not _ hi]
        generalize hM : (lN (beN a b u) &&& S) &&& (c ^^^ (-1)) = M at hmb ⊢
        have hMo : ∀ i, sdN a b ≤ i → bt M i = false := fun i hi => by
          rcases Nat.lt_or_ge i 64 with z | z
          · rw [hmb i z, hS i hi]; simp
          · exact bt_out M z
        have hfl : ∀ i, bt (f &&& (f - 1)) i = (bt f i && decide (i ≠ u)) := fun i => by
          rw [bt_and, hum i]
          by_cases q1 : i < u
          · rw [hul i q1]; simp
          · by_cases q2 : i = u
            · simp [q2]
            · simp [q1, q2]
        have hf' : ∀ i, bt ((f &&& (f - 1)) ||| M) i = ((bt f i && decide (i ≠ u)) || bt M i) := fun i => by rw [bt_or, hfl]
        have hc' : ∀ i, bt (c ||| M) i = (bt c i || bt M i) := fun i => bt_or c M i
        have hMc : ∀ i, bt M i = true → bt c i = false := fun i hi => by
          rcases Nat.lt_or_ge i 64 with z | z
          · rw [hmb i z] at hi
            cases q : bt c i with
            | false => rfl
            | true => rw [q] at hi; simp at hi
          · rw [bt_out M z] at hi; cases hi
        refine ih (j + 1) (c ||| M) ((f &&& (f - 1)) ||| M) (by omega) ?_ ?_ ?_ ?_ ?_ ?_
        · intro i hi
          rw [hf'] at hi
          rw [hc']
          by_cases q : bt f i = true
          · rw [h2 i q]; rfl
          · have : bt M i = true := by simpa [q] using hi
            rw [this]; simp
        · intro i hi
          rw [hc', h3 i hi, hMo i hi]; rfl
        · have := countP_one (p := fun i => bt ((c ||| M) &&& (((f &&& (f - 1)) ||| M) ^^^ (-1))) i) (q := fun i => bt (c &&& (f ^^^ (-1))) i) (t := u) 64 hu64 (by
            show bt ((c ||| M) &&& (((f &&& (f - 1)) ||| M) ^^^ (-1))) u = true
            have hMu : bt M u = false := by
              cases q : bt M u with
              | false => rfl
              | true => rw [hMc u q] at huc; cases huc
            rw [bt_and, bt_not _ hu64, hf', hc', huc, hMu]; simp) (by
            show bt (c &&& (f ^^^ (-1))) u = false
            rw [bt_and, bt_not _ hu64, hub]; simp) (fun i hi hne => by
            show bt ((c ||| M) &&& (((f &&& (f - 1)) ||| M) ^^^ (-1))) i = bt (c &&& (f ^^^ (-1))) i
            rw [bt_and, bt_and, bt_not _ hi, bt_not _ hi, hf', hc']
            have g := hMc i
            revert g
            simp only [hne, ne_eq, not_false_eq_true, decide_true]
            cases bt c i <;> cases bt M i <;> cases bt f i <;> simp)
          show (List.range 64).countP _ = j + 1
          rw [← h4]
          exact this
        · rw [hc', h5]; rfl
        · intro C hC hcl i hi
          rw [hc'] at hi
          by_cases q : bt c i = true
          · exact h6 C hC hcl i q
          · have hMi : bt M i = true := by simpa [q] using hi
            have h64 : i < 64 := by
              rcases Nat.lt_or_ge i 64 with z | z
              · exact z
              · rw [bt_out M z] at hMi; cases hMi
            rw [hmb i h64] at hMi
            have hM2 : ((inP a b (enN a b u 0) i = true ∨ inP a b (enN a b u 1) i = true) ∧ bt S i = true) := by
              revert hMi
              cases inP a b (enN a b u 0) i <;> cases inP a b (enN a b u 1) i <;> cases bt S i <;> simp
            have hu2 := h6 C hC hcl u huc
            rcases hM2 with ⟨g | g, gS⟩
            · exact hcl (enN a b u 0) u i (en_lt hg hus 0 (by decide)) hu2 (en_in hus 0) g gS
            · exact hcl (enN a b u 1) u i (en_lt hg hus 1 (by decide)) hu2 (en_in hus 1) g gS
        · intro i hi hfi p q hp hip hq hqS
          rw [hf'] at hfi
          rw [hc'] at hi ⊢
          have hMi : bt M i = false := by
            cases z : bt M i with
            | false => rfl
            | true => rw [z] at hfi; simp at hfi
          have hci : bt c i = true := by simpa [hMi] using hi
          by_cases e : i = u
          · subst e
            cases hcq : bt c q with
            | true => rfl
            | false =>
              have h64 : q < 64 := by
                rcases Nat.lt_or_ge q 64 with z | z
                · exact z
                · rw [bt_out S z] at hqS; cases hqS
              rw [hmb q h64, hqS, hcq]
              have : (inP a b (enN a b i 0) q || inP a b (enN a b i 1) q) = true := by
                rcases en_only hip with g | g
                · rw [g, hq]; rfl
                · rw [g, hq]; simp
              rw [this]; rfl
          · have hfi2 : bt f i = false := by
              cases z : bt f i with
              | false => rfl
              | true => rw [z] at hfi; simp [e] at hfi
            rw [h7 i hci hfi2 p q hp hip hq hqS]; rfl
