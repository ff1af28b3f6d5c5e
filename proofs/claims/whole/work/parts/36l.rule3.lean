/-! rule 3: the model's passes; the two searches tell the same -/
theorem oth_0 (a b s : Nat) : oth a b (haN a b s 0) s = haN a b s 1 := if_pos rfl
theorem oth_1 {a b s : Nat} (hg : gOK a b) (hs : s < sdN a b) : oth a b (haN a b s 1) s = haN a b s 0 := if_neg (ha_le hg hs).2
theorem inC_h {a b h s : Nat} (hs : inC a b h s = true) : haN a b s 0 = h ∨ haN a b s 1 = h := by
  unfold inC at hs
  have h2 := (Bool.and_eq_true _ _ ▸ hs).2
  rcases Bool.or_eq_true _ _ ▸ h2 with g | g
  · exact Or.inl (by simpa using g)
  · exact Or.inr (by simpa using g)
theorem inC_in {a b s : Nat} (hs : s < sdN a b) (e : Fin 2) : inC a b (haN a b s e.val) s = true := by
  unfold inC
  rw [decide_eq_true hs]
  match e with
  | 0 => simp
  | 1 => simp
theorem F_t27 {a b x : Nat} (hg : gOK a b) {ho : Nat → Int32} (hho : ∀ s, s < sdN a b → ∀ e, e < 2 → ho (2 * s + e) = nI (haN a b s e)) {l bb Y : Int64} (hY : ∀ s, s < sdN a b → bt Y s = ((bt l s || bt bb s) && decide (s ≠ x))) (hx : x < sdN a b) {β : Type} (k : Int64 → β) : ∀ (n j : Nat) (met : Int64), j ≤ sdN a b → sdN a b < j + n → ∃ z, F_X8_tells_27 (nI x) (nI (sdN a b)) l bb ho k n met (nI j) = k z ∧ Sub met z ∧ (WInv a b l Y x 17 met → WInv a b l Y x 17 z) ∧ (z = met → ∀ s, j ≤ s → s < sdN a b → bt Y s = true → ∀ h t, h ≤ 16 → inC a b h s = true → bt met (h + 17 * Bool.toNat t) = true → bt met (cdN a b l 17 h s t) = true) := by
  have hn := gOK_lt hg
  intro n
  induction n with
  | zero => intro j x h1 h2; exact absurd h2 (by omega)
  | succ n ih =>
    intro j met h1 h2
    rw [F_X8_tells_27]
    by_cases hj : sdN a b ≤ j
    · rw [if_pos (nI_le hj (by omega))]
      exact ⟨met, rfl, Sub.rfl' met, fun h => h, fun _ s h3 h4 => absurd h4 (by omega)⟩
    · rw [if_neg (nI_ge (by omega) (by omega)), nI_1]
      have hjs : j < sdN a b := by omega
      have skip : bt Y j = false → ∃ z, F_X8_tells_27 (nI x) (nI (sdN a b)) l bb ho k n met (nI (j + 1)) = k z ∧ Sub met z ∧ (WInv a b l Y x 17 met → WInv a b l Y x 17 z) ∧ (z = met → ∀ s, j ≤ s → s < sdN a b → bt Y s = true → ∀ h t, h ≤ 16 → inC a b h s = true → bt met (h + 17 * Bool.toNat t) = true → bt met (cdN a b l 17 h s t) = true) := fun hy => by
        obtain ⟨z, g1, g2, g3, g4⟩ := ih (j + 1) met (by omega) (by omega)
        refine ⟨z, g1, g2, g3, fun e s hs1 hs2 hs3 => ?_⟩
        by_cases q : s = j
        · subst q; rw [hy] at hs3; cases hs3
        · exact g4 e s (by omega) hs2 hs3
      by_cases q1 : j = x
      · rw [if_pos (by rw [q1])]
        exact skip (by rw [hY j hjs, q1]; simp)
      · rw [if_neg (fun e => q1 ((nI_eq (by omega) (by omega)).mp e)), has_val _ (show j < 64 by omega)]
        by_cases q2 : bt (l ||| bb) j = true
        · rw [if_pos q2, if_neg (by decide)]
          have hyj : bt Y j = true := by rw [hY j hjs, ← bt_or, q2]; simp [q1]
          have n2 : (2 * nI j).toNatClampNeg = 2 * j ∧ (2 * nI j + 1).toNatClampNeg = 2 * j + 1 := by
            have e : 2 * nI j = nI (2 * j) := pk_mul 2 j
            rw [e, show nI (2 * j) + 1 = nI (2 * j + 1) from nI_add _ 1]
            exact ⟨nI_clamp (by omega), nI_clamp (by omega)⟩
          have v0 : ho (2 * j) = nI (haN a b j 0) := hho j hjs 0 (by decide)
          have v1 : ho (2 * j + 1) = nI (haN a b j 1) := hho j hjs 1 (by decide)
          have hle := ha_le hg hjs
          rw [n2.1, n2.2, v0, v1, has_val l (show j < 64 by omega), bd]
          have G1 := goes_bit (met := met) hle.1.1 hle.1.2 (bt l j)
          have G2 := goes_bit (met := met) hle.1.2 hle.1.1 (bt l j)
          generalize f_X8_goes met (nI (haN a b j 0)) (nI (haN a b j 1)) (if bt l j = true then 1 else 0) = A1 at G1 ⊢
          generalize f_X8_goes met (nI (haN a b j 1)) (nI (haN a b j 0)) (if bt l j = true then 1 else 0) = A2 at G2 ⊢
          have GG : ∀ i, bt (A1 ||| A2) i = true ↔ ∃ h t, h ≤ 16 ∧ inC a b h j = true ∧ bt met (h + 17 * Bool.toNat t) = true ∧ i = cdN a b l 17 h j t := by
            intro i
            rw [bt_or, Bool.or_eq_true, G1 i, G2 i]
            constructor
            · rintro (⟨t, ht, e⟩ | ⟨t, ht, e⟩)
              · exact ⟨haN a b j 0, t, hle.1.1, inC_in hjs 0, ht, by rw [cdN, oth_0]; exact e⟩
              · exact ⟨haN a b j 1, t, hle.1.2, inC_in hjs 1, ht, by rw [cdN, oth_1 hg hjs]; exact e⟩
            · rintro ⟨h, t, hh, hi, hm, e⟩
              rcases inC_h hi with rfl | rfl
              · exact Or.inl ⟨t, hm, by rw [e, cdN, oth_0]⟩
              · exact Or.inr ⟨t, hm, by rw [e, cdN, oth_1 hg hjs]⟩
          generalize A1 ||| A2 = A at GG ⊢
          obtain ⟨z, g1, g2, g3, g4⟩ := ih (j + 1) (met ||| A) (by omega) (by omega)
          have hmA : Sub met (met ||| A) := fun i hi => by rw [bt_or, hi]; rfl
          refine ⟨z, g1, fun i hi => g2 i (hmA i hi), fun hW => g3 ?_, fun e s hs1 hs2 hs3 h t hh hi hm => ?_⟩
          · refine ⟨hmA _ hW.1, fun i hi => ?_⟩
            by_cases q : bt met i = true
            · exact hW.2 i q
            · have hA : bt A i = true := by
                rw [bt_or] at hi
                simpa [q] using hi
              obtain ⟨h, t, hh, hi2, hm, e⟩ := (GG i).mp hA
              obtain ⟨h', t', hh', e', hex, hC⟩ := hW.2 _ hm
              obtain ⟨rfl, rfl⟩ := cd_dec hh hh' (by decide) e'
              obtain ⟨o1, o2⟩ := inC_oth hi2
              exact ⟨oth a b h j, (t ^^ bt l j), oth_le hg o2 h, e, ⟨j, o2, o1⟩, fun C c0 cl => cl h t j hh (hC C c0 cl) hyj hi2⟩
          · have em : met ||| A = met := Sub.anti (fun i hi => by rw [← e]; exact g2 i hi) hmA
            by_cases q : s = j
            · subst q
              rw [← em, bt_or, (GG _).mpr ⟨h, t, hh, hi, hm, rfl⟩]; simp
            · rw [em] at g4
              exact g4 e s (by omega) hs2 hs3 h t hh hi hm
        · rw [if_neg q2, if_pos rfl]
          have q3 : bt (l ||| bb) j = false := by simpa using q2
          exact skip (by rw [hY j hjs, ← bt_or, q3]; rfl)
theorem F_t14 {a b x : Nat} (hg : gOK a b) {ho : Nat → Int32} (hho : ∀ s, s < sdN a b → ∀ e, e < 2 → ho (2 * s + e) = nI (haN a b s e)) {l bb Y : Int64} (hY : ∀ s, s < sdN a b → bt Y s = ((bt l s || bt bb s) && decide (s ≠ x))) (hYo : ∀ s, sdN a b ≤ s → bt Y s = false) (hx : x < sdN a b) {β : Type} (k : Int64 → β) : ∀ (n : Nat) (met y : Int64), chC n y met → WInv a b l Y x 17 met → (y = met → ClH a b l Y (fun h t => bt met (h + 17 * Bool.toNat t) = true)) → ∃ R, F_X8_tells_14 (nI x) (nI (sdN a b)) l bb ho k n met y = k R ∧ WInv a b l Y x 17 R ∧ ClH a b l Y (fun h t => bt R (h + 17 * Bool.toNat t) = true) := by
  have hn := gOK_lt hg
  intro n
  induction n with
  | zero => intro met y h; exact absurd h.1 (Nat.lt_irrefl 0)
  | succ n ih =>
    intro met y hf h1 h2
    rw [F_X8_tells_14]
    by_cases hc : lg_cmp y met = 0
    · rw [if_pos hc]
      exact ⟨met, rfl, h1, h2 ((lg_cmp_eq _ _).mp hc)⟩
    · rw [if_neg hc, fuN (by omega), show (0 : Int32) = nI 0 from rfl]
      obtain ⟨z, g1, g2, g3, g4⟩ := F_t27 hg hho hY hx (fun z1 => F_X8_tells_14 (nI x) (nI (sdN a b)) l bb ho k n z1 met) (sdN a b + 1) 0 met (by omega) (by omega)
      rw [g1]
      have hle : met.toBitVec.toNat ≤ z.toBitVec.toNat := by
        have ez : z = met ||| z := Sub.anti (fun i hi => by rw [bt_or, hi]; simp) (fun i hi => by
          rw [bt_or] at hi
          by_cases q : bt met i = true
          · exact g2 i q
          · simpa [q] using hi)
        rw [ez]
        exact or_le met z
      refine ih z met (ch_s hf hc hle) (g3 h1) (fun e => ?_)
      rw [← e]
      intro h t s hh hm hs hi
      exact g4 e.symm s (by omega) (inC_oth hi).2 hs h t hh hi hm
theorem WInv_0 {a b x : Nat} (hg : gOK a b) (hx : x < sdN a b) (l Y : Int64) (w : Nat) : WInv a b l Y x w (shlL 1 (nI (haN a b x 0))) := by
  have hle := ha_le hg hx
  have h64 : haN a b x 0 < 64 := by omega
  refine ⟨by rw [bt_one_shl h64]; simp, fun i hi => ?_⟩
  rw [bt_one_shl h64] at hi
  have e : i = haN a b x 0 := by simpa using hi
  exact ⟨haN a b x 0, false, hle.1.1, by rw [e]; simp, ⟨x, hx, inC_in hx 0⟩, fun C c0 _ => c0⟩
theorem WInv_eq {a b x : Nat} {l Y R R' : Int64} (h : WInv a b l Y x 32 R) (hc : ClH a b l Y (fun h t => bt R (h + 32 * Bool.toNat t) = true)) (h' : WInv a b l Y x 17 R') (hc' : ClH a b l Y (fun h t => bt R' (h + 17 * Bool.toNat t) = true)) (hh : Nat) (hle : hh ≤ 16) (t : Bool) : bt R (hh + 32 * t.toNat) = bt R' (hh + 17 * t.toNat) := by
  have e1 : bt R (hh + 32 * t.toNat) = true → bt R' (hh + 17 * t.toNat) = true := fun q => by
    obtain ⟨h2, t2, g1, g2, -, g3⟩ := h.2 _ q
    obtain ⟨rfl, rfl⟩ := cd_dec hle g1 (by decide) g2
    exact g3 (fun h t => bt R' (h + 17 * Bool.toNat t) = true) (by simpa using h'.1) hc'
  have e2 : bt R' (hh + 17 * t.toNat) = true → bt R (hh + 32 * t.toNat) = true := fun q => by
    obtain ⟨h2, t2, g1, g2, -, g3⟩ := h'.2 _ q
    obtain ⟨rfl, rfl⟩ := cd_dec hle g1 (by decide) g2
    exact g3 (fun h t => bt R (h + 32 * Bool.toNat t) = true) (by simpa using h.1) hc
  revert e1 e2
  cases bt R (hh + 32 * t.toNat) <;> cases bt R' (hh + 17 * t.toNat) <;> simp
theorem ways_eq {a b x : Nat} (hg : gOK a b) (hx : x < sdN a b) {ha ho : Nat → Int32} (hha : ∀ s, s < sdN a b → ∀ e, e < 2 → ha (2 * s + e) = nI (haN a b s e)) (hho : ∀ s, s < sdN a b → ∀ e, e < 2 → ho (2 * s + e) = nI (haN a b s e)) {ro : Nat → Int64} (hro : ∀ h, h ≤ 16 → (∃ s, s < sdN a b ∧ inC a b h s = true) → ro h = lN (roN a b h)) {l bb : Int64} (hB : bOK (sdN a b) l bb) : f_X3_waysPast (nI x) l bb ha ro = f_X8_tells (nI x) (nI (sdN a b)) l bb ho ∧ (f_X8_tells (nI x) (nI (sdN a b)) l bb ho = 0 ∨ f_X8_tells (nI x) (nI (sdN a b)) l bb ho = 1 ∨ f_X8_tells (nI x) (nI (sdN a b)) l bb ho = 2 ∨ f_X8_tells (nI x) (nI (sdN a b)) l bb ho = 3) := by
  have hn := gOK_lt hg
  have hle := ha_le hg hx
  have hx64 : x < 64 := by omega
  have hY : ∀ s, bt ((l ||| bb) &&& (shlL 1 (nI x) ^^^ (-1))) s = ((bt l s || bt bb s) && decide (s ≠ x)) := fun s => by rw [bt_rm hx64, bt_or]
  have hYo : ∀ s, sdN a b ≤ s → bt ((l ||| bb) &&& (shlL 1 (nI x) ^^^ (-1))) s = false := fun s hs => by rw [hY s, (hB.2 s hs).1, (hB.2 s hs).2]; rfl
  have v0 : f_X4_hand (nI x) 0 ha = nI (haN a b x 0) := hand_val hg hx (e := 0) (by decide) hha
  have v1 : f_X4_hand (nI x) 1 ha = nI (haN a b x 1) := hand_val hg hx (e := 1) (by decide) hha
  have n2 : (2 * nI x).toNatClampNeg = 2 * x ∧ (2 * nI x + 1).toNatClampNeg = 2 * x + 1 := by
    have e : 2 * nI x = nI (2 * x) := pk_mul 2 x
    rw [e, show nI (2 * x) + 1 = nI (2 * x + 1) from nI_add _ 1]
    exact ⟨nI_clamp (by omega), nI_clamp (by omega)⟩
  have w0 : ho (2 * x) = nI (haN a b x 0) := hho x hx 0 (by decide)
  have w1 : ho (2 * x + 1) = nI (haN a b x 1) := hho x hx 1 (by decide)
  rw [f_X3_waysPast, f_X8_tells, v0, v1, n2.1, n2.2, w0, w1, show f_X7_bit (nI x) = shlL 1 (nI x) from rfl, show f_X7_bit (nI (haN a b x 0)) = shlL 1 (nI (haN a b x 0)) from rfl, show f_X7_bit (nI (haN a b x 1)) = shlL 1 (nI (haN a b x 1)) from rfl, show f_X7_bit (nI (haN a b x 1) + 32) = shlL 1 (nI (haN a b x 1) + 32) from rfl]
  generalize (l ||| bb) &&& (shlL 1 (nI x) ^^^ (-1)) = Y at hY hYo ⊢
  rw [show (fu 64 (0 : Int32)) = 65 by decide, show F_X3_waysPast_46 Y l ha ro _ 65 (shlL 1 (nI (haN a b x 0))) (shlL 1 (nI (haN a b x 0))) 0 = F_X3_waysPast_46 Y l ha ro _ 65 (shlL 1 (nI (haN a b x 0))) (shlL 1 (nI (haN a b x 0))) (nI 0) from rfl]
  obtain ⟨R, g1, g2, g3⟩ := F_wp (x := x) hg hha hro (l := l) (Y := Y) hYo (fun z3 => (if (lg_cmp (z3 &&& (shlL 1 (nI (haN a b x 1)))) 0) = 0 then (if (lg_cmp (z3 &&& (shlL 1 (nI (haN a b x 1) + 32))) 0) = 0 then (0 : Int32) ||| 0 else 0 ||| 2) else (if (lg_cmp (z3 &&& (shlL 1 (nI (haN a b x 1) + 32))) 0) = 0 then 1 ||| 0 else 1 ||| 2))) 65 0 (shlL 1 (nI (haN a b x 0))) (shlL 1 (nI (haN a b x 0))) (by decide) (Sub.rfl' _) (by
    have : shlL 1 (nI (haN a b x 0)) &&& (shlL 1 (nI (haN a b x 0)) ^^^ (-1)) = 0 := bt_ext (fun i hi => by rw [bt_and, bt_not _ hi, bt_zero]; cases bt (shlL 1 (nI (haN a b x 0))) i <;> rfl)
    rw [this, cnt_0]) (WInv_0 hg hx l Y 32) (fun h t _ q1 q2 => by rw [q1] at q2; cases q2)
  obtain ⟨R', g1', g2', g3'⟩ := F_t14 hg hho (l := l) (bb := bb) (Y := Y) (fun s _ => hY s) hYo hx (fun z3 => (if (f_X8_has z3 (nI (haN a b x 1))) = 0 then (if (f_X8_has z3 (nI (haN a b x 1) + 17)) = 0 then (0 : Int32) + 0 else 0 + 2) else (if (f_X8_has z3 (nI (haN a b x 1) + 17)) = 0 then 1 + 0 else 1 + 2))) (18446744073709551617 - (0 : Int64).toBitVec.toNat) (shlL 1 (nI (haN a b x 0))) 0 (ch_0 _) (WInv_0 hg hx l Y 17) (fun e => by
    have h64 : haN a b x 0 < 64 := by omega
    have : bt (shlL 1 (nI (haN a b x 0))) (haN a b x 0) = true := by rw [bt_one_shl h64]; simp
    rw [← e, bt_zero] at this; cases this)
  rw [g1, g1']
  have b0 : bt R (haN a b x 1) = bt R' (haN a b x 1) := by simpa using WInv_eq g2 g3 g2' g3' (haN a b x 1) hle.1.2 false
  have b1 : bt R (haN a b x 1 + 32) = bt R' (haN a b x 1 + 17) := by simpa using WInv_eq g2 g3 g2' g3' (haN a b x 1) hle.1.2 true
  rw [show nI (haN a b x 1) + 32 = nI (haN a b x 1 + 32) from nI_add _ 32, show nI (haN a b x 1) + 17 = nI (haN a b x 1 + 17) from nI_add _ 17]
  simp only [and_one_iff (show haN a b x 1 < 64 by omega), and_one_iff (show haN a b x 1 + 32 < 64 by omega), has_val R' (show haN a b x 1 < 64 by omega), has_val R' (show haN a b x 1 + 17 < 64 by omega), b0, b1]
  cases bt R' (haN a b x 1) <;> cases bt R' (haN a b x 1 + 17) <;> decide
theorem Lk_hands {a b x : Nat} (hg : gOK a b) (hx : x < sdN a b) {ha ho : Nat → Int32} (hha : ∀ s, s < sdN a b → ∀ e, e < 2 → ha (2 * s + e) = nI (haN a b s e)) (hho : ∀ s, s < sdN a b → ∀ e, e < 2 → ho (2 * s + e) = nI (haN a b s e)) {ro : Nat → Int64} (hro : ∀ h, h ≤ 16 → (∃ s, s < sdN a b ∧ inC a b h s = true) → ro h = lN (roN a b h)) {l bb : Int64} (hB : bOK (sdN a b) l bb) :
    Lk 3 (nI x) (f_X3_lookAtHands (nI x) (f_X0_stateOf (nI x) l bb) 0 l bb 0 ha ro) (f_X8_atHands (nI x) (nI (sdN a b)) l bb ho) := by
  have hn := gOK_lt hg
  have hx64 : x < 64 := by omega
  obtain ⟨e, hr⟩ := ways_eq hg hx hha hho hro hB
  unfold f_X3_lookAtHands f_X8_atHands
  simp only [bd, f_X3_tell, f_X7_bit]
  rw [e, st_bt hx64, has_val _ hx64, has_val _ hx64, bt_or]
  generalize f_X8_tells (nI x) (nI (sdN a b)) l bb ho = T at hr ⊢
  by_cases h1 : bt l x = true
  · rw [if_pos h1, h1]
    rcases hr with rfl | rfl | rfl | rfl <;>
    first
      | exact Lk_of (fun _ => rfl) (fun e => absurd e (by decide)) (fun e => absurd rfl e)
      | exact Lk_of (fun e => absurd e (by decide)) (fun _ => rfl) (fun _ e => absurd rfl e)
  · have h1f : bt l x = false := by simpa using h1
    rw [if_neg h1, h1f]
    by_cases h2 : bt bb x = true
    · rw [if_pos h2, h2]
      rcases hr with rfl | rfl | rfl | rfl <;>
      first
        | exact Lk_of (fun _ => rfl) (fun e => absurd e (by decide)) (fun e => absurd rfl e)
        | exact Lk_of (fun e => absurd e (by decide)) (fun _ => rfl) (fun _ e => absurd rfl e)
    · have h2f : bt bb x = false := by simpa using h2
      rw [if_neg h2, h2f]
      rcases hr with rfl | rfl | rfl | rfl <;>
      first
        | exact Lk_of (fun _ => rfl) (fun e => absurd e (by decide)) (fun e => absurd rfl e)
        | exact Lk_of (fun e => absurd e (by decide)) (fun e => absurd e (by decide)) (fun _ _ => rfl)
