/-! loops: what the calls ask of the lists -/
theorem RR_uniq {a b : Nat} {R R' : List Int64} (h1 : RR a b R) (h2 : RR a b R') : R = R' := srt_uniq _ _ h1.1 h2.1 (fun x => by rw [h1.2, h2.2])
theorem minI_nI {x y : Nat} (hx : x < 2 ^ 31) (hy : y < 2 ^ 31) : minI (nI x) (nI y) = nI (min y x) := by
  unfold minI
  by_cases z : y < x
  · rw [if_pos (nI_lt z (by omega))]; congr 1; omega
  · rw [if_neg (nI_nlt (by omega) (by omega))]; congr 1; omega
theorem and_n0 (z : Int64) : z &&& ((0 : Int64) ^^^ (-1)) = z := bt_ext (fun i hi => by rw [bt_and, bt_not _ hi, bt_zero]; simp)
theorem manyBut_val {a b : Nat} (hg : gOK a b) {m_w m_h m_c m_s rn rw_ rh : Int32} {ho : Nat → Int32} {ac ap ri : Nat → Int64} (hM : RGridM a b m_w m_h m_c m_s ho ac ap) (hR : RRings2 rn rw_ rh ri) {R : List Int64} (hRR : RR a b R) {M : Nat} (hm : M < 2 ^ 30) (but : Int32) (m_n m_l m_b : Int64) :
    (f_X8_manyBut (nI M) but m_w m_h m_c m_s rn rw_ rh m_n m_l m_b ho ac ap ri).1 = nI (min M (R.filter (fitB (a * b) m_n m_l m_b ac but)).length) ∧ RRings2 (f_X8_manyBut (nI M) but m_w m_h m_c m_s rn rw_ rh m_n m_l m_b ho ac ap ri).2.1 (f_X8_manyBut (nI M) but m_w m_h m_c m_s rn rw_ rh m_n m_l m_b ho ac ap ri).2.2.1 (f_X8_manyBut (nI M) but m_w m_h m_c m_s rn rw_ rh m_n m_l m_b ho ac ap ri).2.2.2.1 (f_X8_manyBut (nI M) but m_w m_h m_c m_s rn rw_ rh m_n m_l m_b ho ac ap ri).2.2.2.2 := by
  obtain ⟨R', hR1, hR2, hR3, _⟩ := lays_sim hg hM hR
  have e := RR_uniq hRR hR1
  subst e
  rw [f_X8_manyBut, bd]
  generalize f_X8_laysRings m_w m_h m_c m_s rn rw_ rh ho ap ri = u at hR2 hR3
  obtain ⟨u1, u2, u3, u4⟩ := u
  obtain ⟨e1, e2, e3⟩ := hR2
  simp only at e1 e2 e3 hR3
  subst e1
  have hf := F_mb (R := R) (ri := u4) e2 e3 (ab := a * b) (mn := m_n) (l := m_l) (bb := m_b) (ac := ac) hm but (fun z2 => (z2, nI R.length, u2, u3, u4)) (R.length + 1) 0 0 (by omega) (by omega) (by omega)
  rw [show nI 0 = (0 : Int32) from rfl, List.drop_zero, Nat.zero_add] at hf
  rw [hM.2.2.1, fuN (by omega), hf]
  exact ⟨rfl, hR3⟩
theorem loopAt_val {a b : Nat} (hg : gOK a b) {m_w m_h m_c m_s rn rw_ rh : Int32} {ho : Nat → Int32} {ac ap ri : Nat → Int64} (hM : RGridM a b m_w m_h m_c m_s ho ac ap) (hR : RRings2 rn rw_ rh ri) {R L : List Int64} (hRR : RR a b R) {k : Nat} (hk : k < 2 ^ 30) {m_n m_l m_b : Int64} (hL : L = R.filter (fitB (a * b) m_n m_l m_b ac 16)) :
    ((L.length ≤ k ∧ (f_X8_loopAt (nI k) m_w m_h m_c m_s rn rw_ rh m_n m_l m_b ho ac ap ri).1 = -9) ∨ ∃ h : k < L.length, (f_X8_loopAt (nI k) m_w m_h m_c m_s rn rw_ rh m_n m_l m_b ho ac ap ri).1 = L[k]) ∧ RRings2 (f_X8_loopAt (nI k) m_w m_h m_c m_s rn rw_ rh m_n m_l m_b ho ac ap ri).2.1 (f_X8_loopAt (nI k) m_w m_h m_c m_s rn rw_ rh m_n m_l m_b ho ac ap ri).2.2.1 (f_X8_loopAt (nI k) m_w m_h m_c m_s rn rw_ rh m_n m_l m_b ho ac ap ri).2.2.2.1 (f_X8_loopAt (nI k) m_w m_h m_c m_s rn rw_ rh m_n m_l m_b ho ac ap ri).2.2.2.2 := by
  obtain ⟨R', hR1, hR2, hR3, _⟩ := lays_sim hg hM hR
  have e := RR_uniq hRR hR1
  subst e
  rw [f_X8_loopAt, bd]
  generalize f_X8_laysRings m_w m_h m_c m_s rn rw_ rh ho ap ri = u at hR2 hR3
  obtain ⟨u1, u2, u3, u4⟩ := u
  obtain ⟨e1, e2, e3⟩ := hR2
  simp only at e1 e2 e3 hR3
  subst e1
  rw [hM.2.2.1, fuN (by omega)]
  have hf := F_lo (R := R) (ri := u4) e2 e3 (ab := a * b) (mn := m_n) (l := m_l) (bb := m_b) (ac := ac) ((-9 : Int64), nI R.length, u2, u3, u4) (fun z2 => (u4 z2.toNatClampNeg, nI R.length, u2, u3, u4)) (R.length + 1) 0 k (by omega) (by omega) hk
  rw [show nI 0 = (0 : Int32) from rfl, List.drop_zero, ← hL] at hf
  rcases hf with ⟨j, hj, f1, f2⟩ | ⟨f1, f2⟩
  · rw [f2]
    obtain ⟨h, f3⟩ := List.getElem?_eq_some_iff.mp f1
    refine ⟨Or.inr ⟨h, ?_⟩, hR3⟩
    show u4 (nI j).toNatClampNeg = _
    rw [nI_clamp (by omega), e3 j hj, f3]
  · rw [f2]
    exact ⟨Or.inl ⟨List.getElem?_eq_none_iff.mp f1, rfl⟩, hR3⟩
theorem neg_9 {x : Int64} (h : x.toInt = (x.toBitVec.toNat : Int)) : 0 ≤ lg_cmp x 0 := by
  rw [lg_cmp_ge, Int64.le_iff_toInt_le, h, Int64.toInt_zero]
  omega
theorem nt_both {a b : Nat} (hg : gOK a b) {s_w s_h s_c s_p s_s m_w m_h m_c m_s : Int32} {s_cs s_ps s_ha s_en m_ho : Nat → Int32} {s_ro s_me s_be s_se s_co m_ac m_ap : Nat → Int64} {l bb n mn : Int64} (hC : RGridC a b s_w s_h s_c s_p s_s s_cs s_ps s_ha s_en s_ro s_me s_be s_se s_co) (hM : RGridM a b m_w m_h m_c m_s m_ho m_ac m_ap) (hN : nRel n mn) (hB : bOK (sdN a b) l bb) {R : List Int64} (hRR : RR a b R) {y1 y2 : Int32} (hy : y1 = 0 ∨ y1 = 1) (hy2 : y2 = 1 - y1) {β γ : Type} (k : Int32 → Int32 → Int64 → Int64 → Int64 → (Nat → Int64) → β) (k' : Int32 → Int32 → Int32 → Int32 → (Nat → Int64) → γ) :
    ∀ (f j : Nat) (x q1 : Int32) (q2 q3 q4 : Int64) (q5 : Nat → Int64) (rn rw_ rh : Int32) (ri : Nat → Int64), j ≤ a * b → RRings2 rn rw_ rh ri → ∃ (z z1 : Int32) (z2 z3 z4 : Int64) (z5 : Nat → Int64) (v1 v2 v3 : Int32) (v4 : Nat → Int64), F_X7_numbersThat_43 y1 s_c l bb n s_cs s_ha s_ro s_be s_se s_co k f x (nI j) q1 q2 q3 q4 q5 = k z z1 z2 z3 z4 z5 ∧ F_X8_numbersThat_25 y1 y2 m_w m_h m_c m_s mn l bb m_ho m_ac m_ap k' f x (nI j) rn rw_ rh ri = k' z v1 v2 v3 v4 ∧ RRings2 v1 v2 v3 v4 := by
  have hn := gOK_lt hg
  intro f
  induction f with
  | zero =>
    intro j x q1 q2 q3 q4 q5 rn rw_ rh ri hj hR
    exact ⟨x, q1, q2, q3, q4, q5, rn, rw_, rh, ri, rfl, rfl, hR⟩
  | succ f ih =>
    intro j x q1 q2 q3 q4 q5 rn rw_ rh ri hj hR
    rw [F_X7_numbersThat_43, F_X8_numbersThat_25]
    have ec : s_c = nI (a * b) := hC.2.2.1
    have em : m_c = nI (a * b) := hM.2.2.1
    by_cases q : a * b ≤ j
    · have h := nI_le q (show j < 2 ^ 31 by omega)
      rw [if_pos (show s_c ≤ nI j by rw [ec]; exact h), if_pos (show m_c ≤ nI j by rw [em]; exact h)]
      exact ⟨x, q1, q2, q3, q4, q5, rn, rw_, rh, ri, rfl, rfl, hR⟩
    · have hj16 : j < 16 := by omega
      have h : ¬ nI (a * b) ≤ nI j := nI_ge (by omega) (by omega)
      have h5 := (hN j hj16).1
      rw [if_neg (show ¬ s_c ≤ nI j by rw [ec]; exact h), if_neg (show ¬ m_c ≤ nI j by rw [em]; exact h), if_pos hy2, f_X0_numberOf, nRel_in hN hj16, nAt_val mn hj16, nI_1 j]
      by_cases e5 : fld 3 mn j = 5
      · rw [if_pos e5, e5, if_neg (show ¬ (0 : Int32) ≤ -1 by decide), if_pos (show (5 : Int32) ≤ nI 5 by decide), show x ||| 0 = x by simp]
        exact ih (j + 1) x q1 q2 q3 q4 q5 rn rw_ rh ri (by omega) hR
      · rw [if_neg e5, if_pos (nI_pos' (by omega)), if_neg (lit_nle 5 5 rfl (by omega) (by decide))]
        obtain ⟨L, hL1, hL2, hL3⟩ := search_sim_b (n := f_X0_withNumber n (nI j) (-1)) hg hC hB q5
        have hLR := list_eq_but (mn := mn) (ac := m_ac) hg (show j < a * b by omega) hRR hL1 hN hM.2.2.2.2.2.1
        rw [bd]
        generalize f_X1_search_b l bb (f_X0_withNumber n (nI j) (-1)) s_c s_cs s_ha s_ro s_be s_se s_co q5 = u at hL3
        rcases hy with y0 | y0
        · rw [if_pos y0, if_pos y0, bd]
          obtain ⟨g1, g2⟩ := manyBut_val hg hM hR hRR (M := 2) (by decide) (nI j) mn l bb
          rw [show nI 2 = (2 : Int32) from rfl] at g1 g2
          generalize f_X8_manyBut 2 (nI j) m_w m_h m_c m_s rn rw_ rh mn l bb m_ho m_ac m_ap ri = w at g1 g2
          rw [← hLR] at g1
          rw [g1, ← hL3]
          by_cases z : u.1 = 1
          · rw [if_pos z, if_pos z]
            exact ih (j + 1) _ _ _ _ _ _ _ _ _ _ (by omega) g2
          · rw [if_neg z, if_neg z, show x ||| 0 = x by simp]
            exact ih (j + 1) _ _ _ _ _ _ _ _ _ _ (by omega) g2
        · have y1' : ¬ y1 = 0 := by rw [y0]; decide
          rw [if_neg y1', if_neg y1', bd]
          obtain ⟨g1, g2⟩ := manyBut_val hg hM hR hRR (M := 1) (by decide) (nI j) mn l bb
          rw [show nI 1 = (1 : Int32) from rfl] at g2
          rw [show f_X8_manyBut (nI 1) (nI j) m_w m_h m_c m_s rn rw_ rh mn l bb m_ho m_ac m_ap ri = f_X8_manyBut 1 (nI j) m_w m_h m_c m_s rn rw_ rh mn l bb m_ho m_ac m_ap ri from rfl] at g1
          generalize f_X8_manyBut 1 (nI j) m_w m_h m_c m_s rn rw_ rh mn l bb m_ho m_ac m_ap ri = w at g1 g2
          rw [← hLR] at g1
          rw [g1, hL3]
          by_cases z : L.length = 0
          · rw [z, if_pos (show nI (min 2 0) ≤ 0 by decide), if_neg (show ¬ nI (min 1 0) = 1 by decide), show x ||| 0 = x by simp]
            exact ih (j + 1) _ _ _ _ _ _ _ _ _ _ (by omega) g2
          · rw [if_neg (nI_nle (by omega) (by omega)), if_pos (by rw [show min 1 L.length = 1 by omega]; rfl)]
            exact ih (j + 1) _ _ _ _ _ _ _ _ _ _ (by omega) g2
