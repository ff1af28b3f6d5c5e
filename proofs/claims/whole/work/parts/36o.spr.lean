/-! steps and spreads -/
theorem cnt_or_lt {x t : Int64} (hd : t &&& x = 0) (h0 : t ≠ 0) : cnt x < cnt (x ||| t) := by
  obtain ⟨k, hk64, hk, -⟩ := low_bit h0
  have hx : bt x k = false := by
    have : bt (t &&& x) k = false := by rw [hd, bt_zero]
    rw [bt_and, hk] at this
    simpa using this
  have h1 := countP_one (p := fun i => bt x i || decide (i = k)) (q := fun i => bt x i) (t := k) 64 hk64 (by simp) hx (fun i _ hne => by simp [hne])
  have h2 : (List.range 64).countP (fun i => bt x i || decide (i = k)) ≤ (List.range 64).countP (fun i => bt (x ||| t) i) := by
    apply List.countP_mono_left
    intro i _ hi
    show bt (x ||| t) i = true
    rw [bt_or]
    by_cases q : i = k
    · rw [q, hk]; simp
    · have : bt x i = true := by simpa [q] using hi
      rw [this]; rfl
  show (List.range 64).countP (fun i => bt x i) < (List.range 64).countP (fun i => bt (x ||| t) i)
  omega
theorem follow_sim {s : Nat} {k : Int32} {l b t : Int64} (hB : bOK s l b) (hk : k = 1 ∨ k = 2) (hd : t &&& (l ||| b) = 0) (ht : ∀ i, s ≤ i → bt t i = false) :
    (f_X7_follow k l b t).1 = f_X8_ones t ∧ ((f_X7_follow k l b t).2.1 = (f_X8_sets t (if k = 1 then 2 else 1) l b).1 ∧ (f_X7_follow k l b t).2.2 = (f_X8_sets t (if k = 1 then 2 else 1) l b).2) ∧ bOK s (f_X7_follow k l b t).2.1 (f_X7_follow k l b t).2.2 ∧ (f_X7_follow k l b t).2.1 ||| (f_X7_follow k l b t).2.2 = (l ||| b) ||| t := by
  have hdl : ∀ i, (bt t i && bt l i) = false ∧ (bt t i && bt b i) = false := fun i => by
    have : bt (t &&& (l ||| b)) i = false := by rw [hd, bt_zero]
    rw [bt_and, bt_or] at this
    revert this
    cases bt t i <;> cases bt l i <;> cases bt b i <;> simp
  have hlb : ∀ i, (bt l i && bt b i) = false := fun i => by rw [← bt_and, hB.1, bt_zero]
  have el : l &&& (t ^^^ (-1)) = l := bt_ext (fun i hi => by
    rw [bt_and, bt_not _ hi]
    have := (hdl i).1
    revert this
    cases bt t i <;> cases bt l i <;> simp)
  have eb : b &&& (t ^^^ (-1)) = b := bt_ext (fun i hi => by
    rw [bt_and, bt_not _ hi]
    have := (hdl i).2
    revert this
    cases bt t i <;> cases bt b i <;> simp)
  rcases hk with rfl | rfl
  · rw [f_X7_follow, if_neg (by decide), if_pos rfl, f_X8_sets, if_neg (by decide), if_pos rfl, el, bc_cnt, ones_cnt]
    refine ⟨rfl, ⟨rfl, rfl⟩, ⟨bt_ext (fun i hi => ?_), fun i hi => ?_⟩, bt_ext (fun i hi => ?_)⟩
    · have h1 := (hdl i).1
      have h2 := hlb i
      rw [bt_and, bt_or, bt_zero]
      revert h1 h2
      cases bt t i <;> cases bt l i <;> cases bt b i <;> simp
    · have h1 := hB.2 i hi
      rw [bt_or, h1.2, ht i hi]
      exact ⟨h1.1, rfl⟩
    · simp only [bt_or]
      cases bt t i <;> cases bt l i <;> cases bt b i <;> rfl
  · rw [f_X7_follow, if_pos rfl, if_neg (by decide), f_X8_sets, if_pos rfl, if_neg (by decide), eb, bc_cnt, ones_cnt]
    refine ⟨rfl, ⟨rfl, rfl⟩, ⟨bt_ext (fun i hi => ?_), fun i hi => ?_⟩, bt_ext (fun i hi => ?_)⟩
    · have h1 := (hdl i).2
      have h2 := hlb i
      rw [bt_and, bt_or, bt_zero]
      revert h1 h2
      cases bt t i <;> cases bt l i <;> cases bt b i <;> simp
    · have h1 := hB.2 i hi
      rw [bt_or, h1.1, ht i hi]
      exact ⟨rfl, h1.2⟩
    · simp only [bt_or]
      cases bt t i <;> cases bt l i <;> cases bt b i <;> rfl
theorem tells_0 {k : Int32} (h1 : ¬ k = 1) (h2 : ¬ k = 2) : f_X3_tells k = 0 := by rw [f_X3_tells, if_neg h1, if_neg h2]
theorem tells_1 {k : Int32} (h : k = 1 ∨ k = 2) : ¬ f_X3_tells k = 0 := by rcases h with rfl | rfl <;> decide
theorem UK_12 {s : Nat} {k : Int32} {t : Int64} (h : UK s (k, t)) (hk : k = 1 ∨ k = 2) : ∀ i, s ≤ i → bt t i = false := by
  rcases h with ⟨h1, -⟩ | ⟨-, h2⟩ | ⟨h1, -⟩
  · rw [show k = 0 from h1] at hk; exact absurd hk (by decide)
  · exact h2
  · rw [show k = 3 from h1] at hk; exact absurd hk (by decide)
theorem UK_n12 {s : Nat} {k : Int32} {t : Int64} (h : UK s (k, t)) (hk : ¬ (k = 1 ∨ k = 2)) : t = 0 := by
  rcases h with ⟨-, h1⟩ | ⟨h2, -⟩ | ⟨-, h1⟩
  · exact h1
  · exact absurd h2 hk
  · exact h1
theorem UK_3 {s : Nat} {k : Int32} {t : Int64} (h : UK s (k, t)) (h0 : ¬ k = 0) (h3 : ¬ k = 3) : k = 1 ∨ k = 2 := by
  rcases h with ⟨h1, -⟩ | ⟨h2, -⟩ | ⟨h1, -⟩
  · exact absurd h1 h0
  · exact h2
  · exact absurd h1 h3
theorem spr_sim {a b : Nat} (hg : gOK a b) {s_w s_h s_c s_p s_s m_w m_h m_c m_s : Int32} {s_cs s_ps s_ha s_en m_ho : Nat → Int32} {s_ro s_me s_be s_se s_co m_ac m_ap : Nat → Int64} {b_n m_n : Int64} (hC : RGridC a b s_w s_h s_c s_p s_s s_cs s_ps s_ha s_en s_ro s_me s_be s_se s_co) (hM : RGridM a b m_w m_h m_c m_s m_ho m_ac m_ap) (hN : nRel b_n m_n) (hmG : mG m_w m_h m_c m_s) {β γ : Type} (k0 k1 : Int32 → Int32 → Int32 → Int32 → Int64 → Int64 → Int64 → β) (k2 : Int32 → Int32 → Int32 → Int32 → Int64 → Int64 → Int64 → γ) :
    ∀ (n n' j : Nat) (x1 rk rr rp : Int32) (l bb rt : Int64) (hi hr hp : Int32) (hs : Int64), bOK (sdN a b) l bb → 40 < j + n → j ≤ cnt (l ||| bb) → spC n' hi hs l bb → (∃ c1 c2 c3 c4, f_X8_hints m_w m_h m_c m_s c1 c2 c3 m_n l bb c4 m_ho m_ac m_ap = (hi, hr, hp, hs)) →
    ∃ x l' b', bOK (sdN a b) l' b' ∧ (∃ q1 q2 q3 q4, F_X7_spreads_8 s_c s_p s_s b_n s_ha s_en s_ro s_me s_be k0 k1 n x1 (nI j) rk rr rp l bb rt = k1 x q1 q2 q3 l' b' q4) ∧ ∃ v1 v2 v3 v4, F_X8_spreads_10 m_w m_h m_c m_s m_n m_ho m_ac m_ap k2 n' x1 hi hr hp l bb hs = k2 x v1 v2 v3 l' b' v4 := by
  have hn := gOK_lt hg
  intro n
  induction n with
  | zero =>
    intro n' j x1 rk rr rp l bb rt hi hr hp hs hB h1 h2
    exfalso
    have := cnt_le' (x := l ||| bb) (s := sdN a b) (fun i hi => by rw [bt_or, (hB.2 i hi).1, (hB.2 i hi).2]; rfl) (by omega)
    omega
  | succ n ih =>
    intro n' j x1 rk rr rp l bb rt hi hr hp hs hB h1 h2 hf hh
    have hj : j ≤ 40 := by
      have := cnt_le' (x := l ||| bb) (s := sdN a b) (fun i hi => by rw [bt_or, (hB.2 i hi).1, (hB.2 i hi).2]; rfl) (by omega)
      omega
    obtain ⟨c1, c2, c3, c4, hh⟩ := hh
    obtain ⟨m, rfl⟩ : ∃ m, n' = m + 1 := ⟨n' - 1, by have := hf.1; omega⟩
    have H := hint_eq (rp := rp) (hi := c1) (hr := c2) (hq := c3) (hs := c4) hg hC hM ⟨rfl, rfl, hN, hB⟩
    rw [hh] at H
    obtain ⟨H1, H2, -, H4⟩ := H
    rw [F_X7_spreads_8, if_neg (show ¬ (40 : Int32) < nI j from nI_nlt (a := 40) (by omega) (by decide)), bd]
    generalize f_X3_seek s_c s_p s_s rp l bb b_n s_ha s_en s_ro s_me s_be = S at H1 H2 H4 ⊢
    have H1 : S.1 = hi := H1
    have H2 : S.2.2.2 = hs := H2
    by_cases q : hi = 1 ∨ hi = 2
    · rw [if_neg (tells_1 (by rw [H1]; exact q)), bd, nI_1]
      obtain ⟨g0, gd⟩ := hf.2.2 q
      obtain ⟨f1, ⟨f2, f3⟩, f4, f5⟩ := follow_sim hB q gd (by rw [← H2]; exact UK_12 H4 (by rw [H1]; exact q))
      rw [H1, H2, f1]
      have hj' : j + 1 ≤ cnt ((f_X7_follow hi l bb hs).2.1 ||| (f_X7_follow hi l bb hs).2.2) := by
        rw [f5]
        have := cnt_or_lt gd g0
        omega
      have hst : f_X8_sets hs (if hi = 1 then 2 else 1) l bb = ((f_X7_follow hi l bb hs).2.1, (f_X7_follow hi l bb hs).2.2) := Prod.ext f2.symm f3.symm
      have eM : F_X8_spreads_10 m_w m_h m_c m_s m_n m_ho m_ac m_ap k2 (m + 1) x1 hi hr hp l bb hs = (bd (f_X8_sets hs (if hi = 1 then 2 else 1) l bb) (fun u5 => (bd (f_X8_hints m_w m_h m_c m_s hi hr hp m_n u5.1 u5.2 hs m_ho m_ac m_ap) (fun u6 => F_X8_spreads_10 m_w m_h m_c m_s m_n m_ho m_ac m_ap k2 m (x1 + (f_X8_ones hs)) u6.1 u6.2.1 u6.2.2.1 u5.1 u5.2 u6.2.2.2)))) := by
        rw [F_X8_spreads_10]
        rcases q with rfl | rfl
        · rw [if_pos rfl, if_pos rfl, if_pos rfl]
        · rw [if_neg (show ¬ (2 : Int32) = 1 by decide), if_pos rfl, if_neg (show ¬ (2 : Int32) = 1 by decide), if_neg (show ¬ (2 : Int32) = 1 by decide)]
      rw [eM, hst, bd, bd]
      have hf' := hf
      generalize (f_X7_follow hi l bb hs).2.1 = L at hst f4 hj' ⊢
      generalize (f_X7_follow hi l bb hs).2.2 = B at hst f4 hj' ⊢
      have hI' := hints_hI (u := f_X8_hints m_w m_h m_c m_s hi hr hp m_n L B hs m_ho m_ac m_ap) rfl hmG
      refine ih m (j + 1) _ _ _ _ L B _ _ _ _ _ f4 (by omega) hj' (sp_s hf' q (as := if hi = 1 then 2 else 1) (by split <;> decide) hst hI') ⟨hi, hr, hp, hs, rfl⟩
    · have q1 : ¬ hi = 1 := fun e => q (Or.inl e)
      have q2 : ¬ hi = 2 := fun e => q (Or.inr e)
      rw [if_pos (tells_0 (by rw [H1]; exact q1) (by rw [H1]; exact q2)), F_X8_spreads_10, if_neg q1, if_neg q2]
      exact ⟨x1, l, bb, hB, ⟨_, _, _, _, rfl⟩, _, _, _, _, rfl⟩
