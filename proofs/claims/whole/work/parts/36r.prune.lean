/-! loops: the class's pruning, all in all, asks that the loop fits -/
theorem cnt_mono {x y : Int64} (h : Sub x y) : cnt x ≤ cnt y := List.countP_mono_left (fun k _ hk => h k hk)
theorem countP_split (p q : Nat → Bool) : ∀ L : List Nat, L.countP p = L.countP (fun i => p i && q i) + L.countP (fun i => p i && !q i) := by
  intro L
  induction L with
  | nil => rfl
  | cons x L ih =>
    simp only [List.countP_cons, ih]
    cases p x <;> cases q x <;> simp <;> omega
theorem cnt_split (z m : Int64) : cnt z = cnt (z &&& m) + cnt (z &&& (m ^^^ (-1))) := by
  have h := countP_split (fun k => bt z k) (fun k => bt m k) (List.range 64)
  have e1 : (List.range 64).countP (fun k => bt z k && bt m k) = cnt (z &&& m) := by
    apply List.countP_congr
    intro k hk
    show (bt z k && bt m k) = true ↔ bt (z &&& m) k = true
    rw [bt_and]
  have e2 : (List.range 64).countP (fun k => bt z k && !bt m k) = cnt (z &&& (m ^^^ (-1))) := by
    apply List.countP_congr
    intro k hk
    show (bt z k && !bt m k) = true ↔ bt (z &&& (m ^^^ (-1))) k = true
    rw [bt_and, bt_not _ (List.mem_range.mp hk)]
  rw [← e1, ← e2]
  exact h
def Ft (a b : Nat) (l bb n x : Int64) : Prop := (∀ s, bt l s = true → bt x s = true) ∧ (∀ s, bt bb s = true → bt x s = false) ∧ ∀ c, c < a * b → fld 4 n c ≠ 0 → cnt (lN (roN a b c) &&& x) + 1 = fld 4 n c
def fN (a b : Nat) (n y : Int64) (c d : Nat) : Prop := 16 ≤ d ∨ fld 4 n d = 0 ∨ (cnt ((lN (roN a b d) &&& lN (seN a b c)) &&& y) + 1 ≤ fld 4 n d ∧ fld 4 n d ≤ cnt ((lN (roN a b d) &&& lN (seN a b c)) &&& y) + cnt (lN (roN a b d) &&& (lN (seN a b c) ^^^ (-1))) + 1)
theorem fN_iff {a b c d : Nat} (hg : gOK a b) {n y : Int64} {ro : Nat → Int64} (hro : ∀ c, c < a * b → ro c = lN (roN a b c)) (hd : d < a * b ∨ d = 16) : ¬ f_X1_fitsNumber (nI d) y (lN (seN a b c)) n ro = 0 ↔ fN a b n y c d := by
  have hn := gOK_lt hg
  unfold f_X1_fitsNumber fN
  by_cases q : d = 16
  · subst q
    rw [if_pos (show (16 : Int32) ≤ nI 16 by decide)]
    exact ⟨fun _ => Or.inl (by omega), fun _ => by decide⟩
  · have hd' : d < a * b := by omega
    have hf := fld_lt 4 n d
    rw [if_neg (lit_nle 16 16 rfl (show d < 16 by omega) (by decide)), nIn_val n (show d < 16 by omega), ro_at (by omega), hro d hd', bc_cnt, bc_cnt]
    have c1 := cnt_le ((lN (roN a b d) &&& lN (seN a b c)) &&& y)
    have c2 := cnt_le (lN (roN a b d) &&& (lN (seN a b c) ^^^ (-1)))
    generalize cnt ((lN (roN a b d) &&& lN (seN a b c)) &&& y) = L at c1 ⊢
    generalize cnt (lN (roN a b d) &&& (lN (seN a b c) ^^^ (-1))) = O at c2 ⊢
    by_cases q0 : fld 4 n d = 0
    · rw [q0, if_neg (show ¬ (0 : Int32) ≤ nI 0 - 1 by decide)]
      exact ⟨fun _ => Or.inr (Or.inl rfl), fun _ => by decide⟩
    · obtain ⟨v, hv⟩ : ∃ v, fld 4 n d = v + 1 := ⟨fld 4 n d - 1, by omega⟩
      rw [hv, nI_pred, if_pos (nI_pos' (by omega)), nI_add]
      by_cases q1 : v < L
      · rw [if_pos (nI_lt q1 (by omega))]
        refine ⟨fun h => absurd rfl h, fun h => ?_⟩
        exfalso
        rcases h with h | h | h <;> omega
      · rw [if_neg (nI_nlt (by omega) (by omega))]
        by_cases q2 : L + O < v
        · rw [if_pos (nI_lt q2 (by omega))]
          refine ⟨fun h => absurd rfl h, fun h => ?_⟩
          exfalso
          rcases h with h | h | h <;> omega
        · rw [if_neg (nI_nlt (by omega) (by omega))]
          exact ⟨fun _ => Or.inr (Or.inr (by omega)), fun _ => by decide⟩
theorem hands_ok {a b s e : Nat} (hg : gOK a b) (hs : s < sdN a b) (he : e < 2) : haN a b s e < a * b ∨ haN a b s e = 16 := by
  have hn := gOK_lt hg
  obtain ⟨⟨g1, g2⟩, g3, g4⟩ := id hg
  have := hC_all ⟨a, by omega⟩ ⟨b, by omega⟩ g1 g3 ⟨s, by omega⟩ hs
  rcases (show e = 0 ∨ e = 1 by omega) with rfl | rfl
  · exact this.1
  · exact this.2
theorem fits_iff {a b c : Nat} (hg : gOK a b) (hc : c < a * b) {l bb n y : Int64} {cs ha : Nat → Int32} {ro se co : Nat → Int64} (hcs : ∀ c, c < a * b → ∀ i, i < 4 → cs (4 * c + i) = nI (csN a b c i)) (hha : ∀ s, s < sdN a b → ∀ e, e < 2 → ha (2 * s + e) = nI (haN a b s e)) (hro : ∀ c, c < a * b → ro c = lN (roN a b c)) (hse : ∀ c, c < a * b → se c = lN (seN a b c)) (hco : ∀ c, c < a * b → co c = lN (meN a b (cnN a b c))) :
    ¬ f_X1_fits (nI c) y l bb n cs ha ro se co = 0 ↔ ((∀ s, inS a b c s = true → bt bb s = true → bt y s = false) ∧ (∀ s, inS a b c s = true → bt l s = true → bt y s = true) ∧ cnt (y &&& lN (meN a b (cnN a b c))) ≤ 2 ∧ (n = 0 ∨ (fN a b n y c c ∧ fN a b n y c (haN a b (csN a b c 1) 1) ∧ fN a b n y c (haN a b (csN a b c 3) 1)))) := by
  have hn := gOK_lt hg
  obtain ⟨⟨r1, r2, r3, r4⟩, r5⟩ := rt_ok hg hc
  have e1 : f_X4_settledFrom (nI c) se = lN (seN a b c) := by
    rw [f_X4_settledFrom, if_neg (nI_pos (by omega)), if_neg (lit_nle 16 16 rfl (show c < 16 by omega) (by decide)), nI_clamp (by omega), hse c hc]
  have e2 : f_X4_atCorner (nI c) co = lN (meN a b (cnN a b c)) := by
    rw [f_X4_atCorner, if_neg (nI_pos (by omega)), if_neg (lit_nle 16 16 rfl (show c < 16 by omega) (by decide)), nI_clamp (by omega), hco c hc]
  have sc : ∀ i, i < 4 → f_X4_sideOfCell (nI c) (nI i) cs = nI (csN a b c i) := fun i hi => by
    rw [f_X4_sideOfCell, show (4 : Int32) = nI 4 from rfl, pk_mul, nI_add, atI_val _ (by omega) (by decide), Nat.mul_comm c 4]
    exact hcs c hc i hi
  have s1 : f_X4_sideOfCell (nI c) 1 cs = nI (csN a b c 1) := sc 1 (by decide)
  have s3 : f_X4_sideOfCell (nI c) 3 cs = nI (csN a b c 3) := sc 3 (by decide)
  have h1 : f_X4_hand (nI (csN a b c 1)) 1 ha = nI (haN a b (csN a b c 1) 1) := hand_val hg r4 (e := 1) (by decide) hha
  have h3 : f_X4_hand (nI (csN a b c 3)) 1 ha = nI (haN a b (csN a b c 3) 1) := hand_val hg r1 (e := 1) (by decide) hha
  unfold f_X1_fits
  rw [e1, e2, s1, s3, h1, h3, bc_cnt]
  have A1 : (lg_cmp ((y &&& lN (seN a b c)) &&& bb) 0 = 0) ↔ (∀ s, inS a b c s = true → bt bb s = true → bt y s = false) := by
    rw [lg_cmp_eq]
    constructor
    · intro h s hs hb
      have : bt ((y &&& lN (seN a b c)) &&& bb) s = false := by rw [h, bt_zero]
      rw [bt_and, bt_and, se_bit' hg, hs, hb] at this
      simpa using this
    · intro h
      apply bt_all_ext
      intro s
      rw [bt_and, bt_and, se_bit' hg, bt_zero]
      have := h s
      revert this
      cases inS a b c s <;> cases bt bb s <;> cases bt y s <;> simp
  have A2 : (lg_cmp (((y ^^^ (-1)) &&& lN (seN a b c)) &&& l) 0 = 0) ↔ (∀ s, inS a b c s = true → bt l s = true → bt y s = true) := by
    rw [lg_cmp_eq]
    constructor
    · intro h s hs hb
      have h64 : s < 64 := by
        rcases Nat.lt_or_ge s 64 with z | z
        · exact z
        · rw [bt_out l z] at hb; cases hb
      have : bt (((y ^^^ (-1)) &&& lN (seN a b c)) &&& l) s = false := by rw [h, bt_zero]
      rw [bt_and, bt_and, bt_not _ h64, se_bit' hg, hs, hb] at this
      simpa using this
    · intro h
      apply bt_ext
      intro s h64
      rw [bt_and, bt_and, bt_not _ h64, se_bit' hg, bt_zero]
      have := h s
      revert this
      cases inS a b c s <;> cases bt l s <;> cases bt y s <;> simp
  have c1 := cnt_le (y &&& lN (meN a b (cnN a b c)))
  have N1 := fN_iff (c := c) (d := c) hg (n := n) (y := y) hro (Or.inl hc)
  have N2 := fN_iff (c := c) (d := haN a b (csN a b c 1) 1) hg (n := n) (y := y) hro (hands_ok hg r4 (by decide))
  have N3 := fN_iff (c := c) (d := haN a b (csN a b c 3) 1) hg (n := n) (y := y) hro (hands_ok hg r1 (by decide))
  rw [← A1, ← A2, ← N1, ← N2, ← N3]
  have no : ∀ P : Prop, ¬ P → (¬ (0 : Int32) = 0 ↔ P) := fun P hP => ⟨fun h => absurd rfl h, fun h => absurd h hP⟩
  have yes : ∀ P : Prop, P → (¬ (1 : Int32) = 0 ↔ P) := fun P hP => ⟨fun _ => hP, fun _ => by decide⟩
  by_cases q1 : lg_cmp ((y &&& lN (seN a b c)) &&& bb) 0 = 0
  · rw [if_pos q1]
    by_cases q2 : lg_cmp (((y ^^^ (-1)) &&& lN (seN a b c)) &&& l) 0 = 0
    · rw [if_pos q2]
      by_cases q3 : cnt (y &&& lN (meN a b (cnN a b c))) ≤ 2
      · rw [if_pos (show nI (cnt (y &&& lN (meN a b (cnN a b c)))) ≤ 2 from nI_le (b := 2) q3 (by decide))]
        by_cases q4 : lg_cmp n 0 = 0
        · rw [if_pos q4]
          exact yes _ ⟨q1, q2, q3, Or.inl (lgz2 q4)⟩
        · rw [if_neg q4]
          have q4' : n ≠ 0 := lgz q4
          by_cases q5 : f_X1_fitsNumber (nI c) y (lN (seN a b c)) n ro = 0
          · rw [if_pos q5]
            exact no _ (fun h => h.2.2.2.elim (fun e => q4' e) (fun e => e.1 q5))
          · rw [if_neg q5]
            by_cases q6 : f_X1_fitsNumber (nI (haN a b (csN a b c 1) 1)) y (lN (seN a b c)) n ro = 0
            · rw [if_pos q6]
              exact no _ (fun h => h.2.2.2.elim (fun e => q4' e) (fun e => e.2.1 q6))
            · rw [if_neg q6]
              by_cases q7 : f_X1_fitsNumber (nI (haN a b (csN a b c 3) 1)) y (lN (seN a b c)) n ro = 0
              · rw [if_pos q7]
                exact no _ (fun h => h.2.2.2.elim (fun e => q4' e) (fun e => e.2.2 q7))
              · rw [if_neg q7]
                exact yes _ ⟨q1, q2, q3, Or.inr ⟨q5, q6, q7⟩⟩
      · rw [if_neg (show ¬ nI (cnt (y &&& lN (meN a b (cnN a b c)))) ≤ 2 from nI_ge (a := 2) (by omega) (by omega))]
        exact no _ (fun h => q3 h.2.2.1)
    · rw [if_neg q2]
      exact no _ (fun h => q2 h.2.1)
  · rw [if_neg q1]
    exact no _ (fun h => q1 h.1)
theorem cS_all : ∀ a b : Fin 5, 1 ≤ a.val → 1 ≤ b.val → ∀ c : Fin 16, c.val < a.val * b.val → ∀ s : Fin 40, inP a.val b.val (cnN a.val b.val c.val) s.val = true → inS a.val b.val c.val s.val = true := by decide +kernel
theorem dC_all : ∀ a b : Fin 5, 1 ≤ a.val → 1 ≤ b.val → ∀ d : Fin 16, d.val < a.val * b.val → ∃ c : Fin 16, c.val < a.val * b.val ∧ (d.val = c.val ∨ d.val = haN a.val b.val (csN a.val b.val c.val 1) 1 ∨ d.val = haN a.val b.val (csN a.val b.val c.val 3) 1) ∧ ∀ s : Fin 40, inC a.val b.val d.val s.val = true → inS a.val b.val c.val s.val = true := by decide +kernel
theorem lt_sd {a b p s : Nat} (h : inP a b p s = true) : s < sdN a b := by
  unfold inP at h
  have := (Bool.and_eq_true _ _ ▸ h).1
  simpa using this
theorem cS_ok {a b c s : Nat} (hg : gOK a b) (hc : c < a * b) (h : inP a b (cnN a b c) s = true) : inS a b c s = true := by
  have hn := gOK_lt hg
  have hs := lt_sd h
  obtain ⟨⟨h1, h2⟩, h3, h4⟩ := hg
  exact cS_all ⟨a, by omega⟩ ⟨b, by omega⟩ h1 h3 ⟨c, by omega⟩ hc ⟨s, by omega⟩ h
theorem dC_ok {a b d : Nat} (hg : gOK a b) (hd : d < a * b) : ∃ c, c < a * b ∧ (d = c ∨ d = haN a b (csN a b c 1) 1 ∨ d = haN a b (csN a b c 3) 1) ∧ ∀ s, inC a b d s = true → inS a b c s = true := by
  have hn := gOK_lt hg
  obtain ⟨⟨h1, h2⟩, h3, h4⟩ := id hg
  obtain ⟨c, e1, e2, e3⟩ := dC_all ⟨a, by omega⟩ ⟨b, by omega⟩ h1 h3 ⟨d, by omega⟩ hd
  refine ⟨c.val, e1, e2, fun s hs => ?_⟩
  have := (inC_oth hs).2
  exact e3 ⟨s, by omega⟩ hs
theorem fld_0 (c : Nat) (hc : c < 16) : fld 4 0 c = 0 := by
  apply Nat.eq_of_testBit_eq
  intro i
  rw [fld_bit, bt_zero]; simp
theorem rs_eq (c : Nat) (w : Nat → Bool) (k : Nat) (h : c ≤ k) : rs c w k = w k := by
  unfold rs
  rw [decide_eq_true h]; rfl
theorem prune_iff {a b : Nat} (hg : gOK a b) {l bb n : Int64} (hB : bOK (sdN a b) l bb) (v : Nat → Bool) :
    (∀ c, c < a * b → ((∀ s, inS a b c s = true → bt bb s = true → bt (aR a b (rs c v)) s = false) ∧ (∀ s, inS a b c s = true → bt l s = true → bt (aR a b (rs c v)) s = true) ∧ cnt (aR a b (rs c v) &&& lN (meN a b (cnN a b c))) ≤ 2 ∧ (n = 0 ∨ (fN a b n (aR a b (rs c v)) c c ∧ fN a b n (aR a b (rs c v)) c (haN a b (csN a b c 1) 1) ∧ fN a b n (aR a b (rs c v)) c (haN a b (csN a b c 3) 1))))) ↔
    (Ft a b l bb n (aR a b v) ∧ ∀ c, c < a * b → cnt (aR a b v &&& lN (meN a b (cnN a b c))) ≤ 2) := by
  have hn := gOK_lt hg
  have same : ∀ c s, inS a b c s = true → bt (aR a b (rs c v)) s = bt (aR a b v) s := fun c s hs => aR_set hg (fun k hk _ => rs_eq c v k hk) hs
  have S0 : ∀ s, s < sdN a b → inS a b 0 s = true := fun s hs => by
    unfold inS
    rw [decide_eq_true hs]; simp
  have em : ∀ c, c < a * b → aR a b (rs c v) &&& lN (meN a b (cnN a b c)) = aR a b v &&& lN (meN a b (cnN a b c)) := fun c hc => by
    apply bt_all_ext
    intro s
    rw [bt_and, bt_and, me_bit' hg]
    cases q : inP a b (cnN a b c) s with
    | false => simp
    | true => rw [same c s (cS_ok hg hc q)]
  have en : ∀ c d, (lN (roN a b d) &&& lN (seN a b c)) &&& aR a b (rs c v) = (lN (roN a b d) &&& aR a b v) &&& lN (seN a b c) := fun c d => by
    apply bt_all_ext
    intro s
    rw [bt_and, bt_and, bt_and, bt_and, se_bit' hg]
    cases q : inS a b c s with
    | false => simp
    | true => rw [same c s q]; simp
  constructor
  · intro h
    refine ⟨⟨fun s hs => ?_, fun s hs => ?_, fun d hd hf => ?_⟩, fun c hc => ?_⟩
    · have hlt : s < sdN a b := by
        rcases Nat.lt_or_ge s (sdN a b) with z | z
        · exact z
        · rw [(hB.2 s z).1] at hs; cases hs
      rw [← same 0 s (S0 s hlt)]
      exact (h 0 (by omega)).2.1 s (S0 s hlt) hs
    · have hlt : s < sdN a b := by
        rcases Nat.lt_or_ge s (sdN a b) with z | z
        · exact z
        · rw [(hB.2 s z).2] at hs; cases hs
      rw [← same 0 s (S0 s hlt)]
      exact (h 0 (by omega)).1 s (S0 s hlt) hs
    · obtain ⟨c, hc, hdc, hin⟩ := dC_ok hg hd
      have hfn : fN a b n (aR a b (rs c v)) c d := by
        rcases (h c hc).2.2.2 with e | ⟨f1, f2, f3⟩
        · rw [e, fld_0 d (by omega)] at hf
          exact absurd rfl hf
        · rcases hdc with rfl | e | e
          · exact f1
          · rw [e]; exact f2
          · rw [e]; exact f3
      have z1 : (lN (roN a b d) &&& aR a b v) &&& lN (seN a b c) = lN (roN a b d) &&& aR a b v := by
        apply bt_all_ext
        intro s
        rw [bt_and, bt_and, se_bit' hg, ro_bit' hg]
        cases q : inC a b d s with
        | false => simp
        | true => rw [hin s q]; simp
      have z2 : lN (roN a b d) &&& (lN (seN a b c) ^^^ (-1)) = 0 := by
        apply bt_ext
        intro s hs
        rw [bt_and, bt_not _ hs, se_bit' hg, ro_bit' hg, bt_zero]
        cases q : inC a b d s with
        | false => simp
        | true => rw [hin s q]; simp
      unfold fN at hfn
      rw [en, z1, z2, cnt_0] at hfn
      rcases hfn with e | e | e
      · omega
      · exact absurd e hf
      · omega
    · rw [← em c hc]
      exact (h c hc).2.2.1
  · rintro ⟨⟨h1, h2, h3⟩, h4⟩ c hc
    refine ⟨fun s hs hb => by rw [same c s hs]; exact h2 s hb, fun s hs hb => by rw [same c s hs]; exact h1 s hb, by rw [em c hc]; exact h4 c hc, Or.inr ?_⟩
    have key : ∀ d, (d < a * b ∨ d = 16) → fN a b n (aR a b (rs c v)) c d := by
      intro d hd
      by_cases q : d = 16
      · exact Or.inl (by omega)
      · by_cases q0 : fld 4 n d = 0
        · exact Or.inr (Or.inl q0)
        · right; right
          have e := h3 d (by omega) q0
          have sp := cnt_split (lN (roN a b d) &&& aR a b v) (lN (seN a b c))
          have mo : cnt ((lN (roN a b d) &&& aR a b v) &&& (lN (seN a b c) ^^^ (-1))) ≤ cnt (lN (roN a b d) &&& (lN (seN a b c) ^^^ (-1))) := cnt_mono (fun s hs => by
            rw [bt_and, bt_and] at hs
            rw [bt_and]
            revert hs
            cases bt (lN (roN a b d)) s <;> cases bt (lN (seN a b c) ^^^ (-1)) s <;> simp)
          rw [en]
          omega
    obtain ⟨⟨r1, r2, r3, r4⟩, r5⟩ := rt_ok hg hc
    exact ⟨key c (Or.inl hc), key _ (hands_ok hg r4 (by decide)), key _ (hands_ok hg r1 (by decide))⟩
