/-! loops: what the class searches is what fits of the model's rings -/
theorem LPr_filter {a b : Nat} {l bb n : Int64} {R L : List Int64} (hR : RR a b R) (hL : LPr a b l bb n L) (p : Int64 → Bool) (hp : ∀ x, p x = true ↔ Ft a b l bb n x) : L = R.filter p :=
  srt_uniq _ _ hL.1 (List.Pairwise.filter p hR.1) (fun x => by
    rw [hL.2 x, List.mem_filter, hR.2 x]
    exact ⟨fun ⟨h1, h2⟩ => ⟨h1, (hp x).mpr h2⟩, fun ⟨h1, h2⟩ => ⟨h1, (hp x).mp h2⟩⟩)
theorem LPr_len {a b : Nat} (hg : gOK a b) {l bb n : Int64} {L : List Int64} (hL : LPr a b l bb n L) : L.length ≤ 9400 := by
  obtain ⟨R, hR, h⟩ := RR_ex hg
  have e := LPr_filter hR hL (fun x => @decide (Ft a b l bb n x) (Classical.propDecidable _)) (fun x => ⟨fun h => @of_decide_eq_true _ (Classical.propDecidable _) h, fun h => @decide_eq_true _ (Classical.propDecidable _) h⟩)
  rw [e]
  exact Nat.le_trans (List.length_filter_le _ _) h
theorem min16 {N : Nat} (hN : N ≤ 16) : minI (nI N) 16 = nI N := by
  unfold minI
  rw [if_neg]
  rw [Int32.lt_iff_toInt_lt, nI_toInt (by omega), show (16 : Int32).toInt = 16 from rfl]
  omega
theorem search_sim {a b : Nat} (hg : gOK a b) {s_w s_h s_c s_p s_s : Int32} {s_cs s_ps s_ha s_en : Nat → Int32} {s_ro s_me s_be s_se s_co : Nat → Int64} {l bb n : Int64} (hC : RGridC a b s_w s_h s_c s_p s_s s_cs s_ps s_ha s_en s_ro s_me s_be s_se s_co) (hB : bOK (sdN a b) l bb) (A : Nat → Int64) :
    ∃ L, LPr a b l bb n L ∧ Ls L (f_X1_search l bb n s_c s_cs s_ha s_ro s_be s_se s_co A).1 (f_X1_search l bb n s_c s_cs s_ha s_ro s_be s_se s_co A).2.2.2.2 := by
  have hn := gOK_lt hg
  obtain ⟨_, _, e3, _, _, t1, _, t3, _, t5, _, _, t8, t9, t10⟩ := hC
  have hl := cls_list (n := n) hg hB t1 t3 t5 t8 t9 t10
  have hL : LPr a b l bb n (dl (ftC l bb n s_cs s_ha s_ro s_se s_co) (tkC s_be) s_ro (fun c => csN a b c 3) (a * b) 0) := hl
  have hv := dec_val (l := l) (bb := bb) (n := n) (ha := s_ha) (ro := s_ro) (be := s_be) (se := s_se) (co := s_co) hg (fun c hc => t1 c hc 3 (by decide)) (a * b) (Nat.le_refl _) 17 0 0 A (by omega) (by omega)
  have hlen := LPr_len hg hL
  generalize dl (ftC l bb n s_cs s_ha s_ro s_se s_co) (tkC s_be) s_ro (fun c => csN a b c 3) (a * b) 0 = L at hL hv hlen
  obtain ⟨p1, p2, p3⟩ := pt_val (cap := 10000) L 0 A (by omega)
  refine ⟨L, hL, ?_⟩
  rw [f_X1_search, bd, e3, min16 (by omega)]
  rw [show nI 0 = (0 : Int32) from rfl] at hv
  rw [hv]
  refine ⟨?_, hlen, fun i hi => ?_⟩
  · show nI (L.foldl (pt 10000) (0, A)).1 = nI L.length
    rw [p1]; congr 1; omega
  · have := p3 i hi (by omega)
    rw [Nat.zero_add] at this
    exact this
theorem search_sim_b {a b : Nat} (hg : gOK a b) {s_w s_h s_c s_p s_s : Int32} {s_cs s_ps s_ha s_en : Nat → Int32} {s_ro s_me s_be s_se s_co : Nat → Int64} {l bb n : Int64} (hC : RGridC a b s_w s_h s_c s_p s_s s_cs s_ps s_ha s_en s_ro s_me s_be s_se s_co) (hB : bOK (sdN a b) l bb) (A : Nat → Int64) :
    ∃ L, LPr a b l bb n L ∧ L.length ≤ 9400 ∧ (f_X1_search_b l bb n s_c s_cs s_ha s_ro s_be s_se s_co A).1 = nI (min 2 L.length) := by
  have hn := gOK_lt hg
  obtain ⟨_, _, e3, _, _, t1, _, t3, _, t5, _, _, t8, t9, t10⟩ := hC
  have hl := cls_list (n := n) hg hB t1 t3 t5 t8 t9 t10
  have hL : LPr a b l bb n (dl (ftC l bb n s_cs s_ha s_ro s_se s_co) (tkC s_be) s_ro (fun c => csN a b c 3) (a * b) 0) := hl
  have hv := dec_val_b (l := l) (bb := bb) (n := n) (ha := s_ha) (ro := s_ro) (be := s_be) (se := s_se) (co := s_co) hg (fun c hc => t1 c hc 3 (by decide)) (a * b) (Nat.le_refl _) 17 0 0 A (by omega) (by omega)
  have hlen := LPr_len hg hL
  generalize dl (ftC l bb n s_cs s_ha s_ro s_se s_co) (tkC s_be) s_ro (fun c => csN a b c 3) (a * b) 0 = L at hL hv hlen
  obtain ⟨p1, p2, p3⟩ := pt_val (cap := 2) L 0 A (by omega)
  refine ⟨L, hL, hlen, ?_⟩
  rw [f_X1_search_b, bd, e3, min16 (by omega)]
  rw [show nI 0 = (0 : Int32) from rfl] at hv
  rw [hv]
  show nI (L.foldl (pt 2) (0, A)).1 = nI (min 2 L.length)
  rw [p1]; congr 1; omega
/-- the class's list, searched if it must be -/
theorem seek_sim {a b : Nat} (hg : gOK a b) {s_w s_h s_c s_p s_s c_sr l_z : Int32} {s_cs s_ps s_ha s_en : Nat → Int32} {s_ro s_me s_be s_se s_co l_a : Nat → Int64} {l bb n l_l l_b l_n : Int64} (hC : RGridC a b s_w s_h s_c s_p s_s s_cs s_ps s_ha s_en s_ro s_me s_be s_se s_co) (hB : bOK (sdN a b) l bb) (hL : RLoops2 a b c_sr l_z l_a l bb n) :
    ∃ L, LPr a b l bb n L ∧ Ls L (f_X7_searchLoops c_sr s_c l_z l bb n l_l l_b l_n s_cs s_ha s_ro s_be s_se s_co l_a).2.1 (f_X7_searchLoops c_sr s_c l_z l bb n l_l l_b l_n s_cs s_ha s_ro s_be s_se s_co l_a).2.2.2.2.2 := by
  rw [f_X7_searchLoops]
  by_cases q : c_sr = 0
  · rw [if_pos q, bd]
    exact search_sim hg hC hB l_a
  · rw [if_neg q]
    exact hL.resolve_left q
theorem F_ft0 (y1 : Int64) (y3 c : Int32) (n : Int64) (ac : Nat → Int64) : ∀ (f : Nat) (x5 : Int32), F_X8_fits_36 y1 y3 c n ac (fun z => z) f 0 x5 = 0 := by
  intro f x5
  cases f with
  | zero => rfl
  | succ f =>
    rw [F_X8_fits_36]
    split
    · rfl
    · rw [if_pos rfl]
theorem F_ft {N : Nat} (hN : N ≤ 16) {y : Int64} {but : Nat} (hb : but ≤ 16) {mn : Int64} {ac : Nat → Int64} : ∀ f j : Nat, j ≤ N → N < j + f → (¬ F_X8_fits_36 y (nI but) (nI N) mn ac (fun z => z) f 1 (nI j) = 0 ↔ ∀ c, j ≤ c → c < N → c = but ∨ fld 3 mn c = 5 ∨ cnt (ac c &&& y) = fld 3 mn c) := by
  intro f
  induction f with
  | zero => intro j h1 h2; exact absurd h2 (by omega)
  | succ f ih =>
    intro j h1 h2
    rw [F_X8_fits_36]
    by_cases q : N ≤ j
    · rw [if_pos (nI_le q (by omega))]
      exact ⟨fun _ c c1 c2 => absurd c2 (by omega), fun _ => by decide⟩
    · have hf := fld_lt 3 mn j
      have hc := cnt_le (ac j &&& y)
      rw [if_neg (nI_ge (by omega) (by omega)), if_neg (show ¬ (1 : Int32) = 0 by decide), nI_1, nAt_val mn (by omega), nI_clamp (by omega), ones_cnt]
      have good : (j = but ∨ fld 3 mn j = 5 ∨ cnt (ac j &&& y) = fld 3 mn j) → ((¬ F_X8_fits_36 y (nI but) (nI N) mn ac (fun z => z) f 1 (nI (j + 1)) = 0) ↔ ∀ c, j ≤ c → c < N → c = but ∨ fld 3 mn c = 5 ∨ cnt (ac c &&& y) = fld 3 mn c) := fun hj => by
        rw [ih (j + 1) (by omega) (by omega)]
        exact ⟨fun h c c1 c2 => by
          by_cases e : c = j
          · rw [e]; exact hj
          · exact h c (by omega) c2, fun h c c1 c2 => h c (by omega) c2⟩
      by_cases e1 : j = but
      · rw [if_pos (by rw [e1])]; exact good (Or.inl e1)
      · rw [if_neg (fun e => e1 ((nI_eq (by omega) (by omega)).mp e))]
        by_cases e2 : fld 3 mn j = 5
        · rw [if_pos (by rw [e2]; rfl)]; exact good (Or.inr (Or.inl e2))
        · rw [if_neg (lit_ne 5 5 rfl e2 (by omega) (by decide))]
          by_cases e3 : cnt (ac j &&& y) = fld 3 mn j
          · rw [if_pos (by rw [e3])]; exact good (Or.inr (Or.inr e3))
          · rw [if_neg (fun e => e3 ((nI_eq (by omega) (by omega)).mp e)), F_ft0]
            exact ⟨fun h => absurd rfl h, fun h => by
              rcases h j (Nat.le_refl _) (by omega) with z | z | z
              · exact absurd z e1
              · exact absurd z e2
              · exact absurd z e3⟩
theorem bt_64 {x : Int64} {s : Nat} (h : bt x s = true) : s < 64 := by
  rcases Nat.lt_or_ge s 64 with q | q
  · exact q
  · rw [bt_out _ q] at h; exact absurd h (by decide)
theorem mfits_iff {a b : Nat} (hg : gOK a b) {l bb n n' mn x : Int64} {ac : Nat → Int64} (hr : nRel n mn) (hac : ∀ c, c < a * b → ac c = lN (roN a b c)) {but : Nat} (hb : but ≤ 16) (hn' : ∀ c, c < a * b → fld 4 n' c = if c = but then 0 else fld 4 n c) : ¬ f_X8_fits x (nI but) (nI (a * b)) mn l bb ac = 0 ↔ Ft a b l bb n' x := by
  have hn := gOK_lt hg
  have i1 : lg_cmp (l &&& (x ^^^ (-1))) 0 = 0 ↔ ∀ s, bt l s = true → bt x s = true := by
    constructor
    · intro h s hs
      have e := eq0_all h s
      rw [bt_and, bt_not _ (bt_64 hs), hs] at e
      simpa using e
    · intro h
      exact (lg_cmp_eq _ _).mpr (bt_ext (fun i hi => by
        rw [bt_and, bt_not _ hi, bt_zero]
        have := h i
        revert this
        cases bt l i <;> cases bt x i <;> simp))
  have i2 : lg_cmp (bb &&& x) 0 = 0 ↔ ∀ s, bt bb s = true → bt x s = false := by
    constructor
    · intro h s hs
      have e := eq0_all h s
      rw [bt_and, hs] at e
      simpa using e
    · intro h
      exact (lg_cmp_eq _ _).mpr (bt_ext (fun i hi => by
        rw [bt_and, bt_zero]
        have := h i
        revert this
        cases bt bb i <;> cases bt x i <;> simp))
  rw [f_X8_fits]
  by_cases q1 : lg_cmp (l &&& (x ^^^ (-1))) 0 = 0
  · rw [if_pos q1]
    by_cases q2 : lg_cmp (bb &&& x) 0 = 0
    · rw [if_pos q2, fuN (by omega)]
      refine (F_ft (N := a * b) (by omega) hb (a * b + 1) 0 (by omega) (by omega)).trans ?_
      constructor
      · intro h
        refine ⟨i1.mp q1, i2.mp q2, fun c hc h0 => ?_⟩
        rw [hn' c hc] at h0 ⊢
        obtain ⟨r1, r2⟩ := hr c (by omega)
        by_cases e : c = but
        · rw [if_pos e] at h0; exact absurd rfl h0
        · rw [if_neg e] at h0 ⊢
          by_cases e5 : fld 3 mn c = 5
          · rw [r2, if_pos e5] at h0; exact absurd rfl h0
          · rcases h c (Nat.zero_le _) hc with z | z | z
            · exact absurd z e
            · exact absurd z e5
            · rw [r2, if_neg e5, ← hac c hc, z]
      · rintro ⟨_, _, h⟩ c _ hc
        obtain ⟨r1, r2⟩ := hr c (by omega)
        by_cases e : c = but
        · exact Or.inl e
        · by_cases e5 : fld 3 mn c = 5
          · exact Or.inr (Or.inl e5)
          · have := h c hc
            rw [hn' c hc, if_neg e, r2, if_neg e5, ← hac c hc] at this
            have := this (by omega)
            exact Or.inr (Or.inr (by omega))
    · rw [if_neg q2, F_ft0]
      exact ⟨fun h => absurd rfl h, fun ⟨_, h, _⟩ => absurd (i2.mpr h) q2⟩
  · rw [if_neg q1, F_ft0]
    exact ⟨fun h => absurd rfl h, fun ⟨h, _⟩ => absurd (i1.mpr h) q1⟩
/-- does it fit, but for one cell -/
def fitB (ab : Nat) (mn l bb : Int64) (ac : Nat → Int64) (but : Int32) (x : Int64) : Bool := decide (¬ f_X8_fits x but (nI ab) mn l bb ac = 0)
theorem list_eq {a b : Nat} (hg : gOK a b) {l bb n mn : Int64} {ac : Nat → Int64} {R L : List Int64} (hR : RR a b R) (hL : LPr a b l bb n L) (hr : nRel n mn) (hac : ∀ c, c < a * b → ac c = lN (roN a b c)) : L = R.filter (fitB (a * b) mn l bb ac 16) := by
  have hn := gOK_lt hg
  exact LPr_filter hR hL _ (fun x => by
    rw [← mfits_iff (but := 16) (n' := n) (n := n) hg hr hac (by omega) (fun c hc => by rw [if_neg (by omega)])]
    unfold fitB
    exact decide_eq_true_iff)
theorem list_eq_but {a b k : Nat} (hg : gOK a b) (hk : k < a * b) {l bb n mn : Int64} {ac : Nat → Int64} {R L : List Int64} (hR : RR a b R) (hL : LPr a b l bb (f_X0_withNumber n (nI k) (-1)) L) (hr : nRel n mn) (hac : ∀ c, c < a * b → ac c = lN (roN a b c)) : L = R.filter (fitB (a * b) mn l bb ac (nI k)) := by
  have hn := gOK_lt hg
  exact LPr_filter hR hL _ (fun x => by
    rw [← mfits_iff (but := k) (n' := f_X0_withNumber n (nI k) (-1)) (n := n) hg hr hac (by omega) (fun c hc => by
      rw [withNumber_set n (v := 0) (-1) (by omega) (by decide) (by omega), fld_set n (by omega) (by omega) (by decide) (by decide)])]
    unfold fitB
    exact decide_eq_true_iff)
