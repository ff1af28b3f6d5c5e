/-! the rule of chains -/
theorem fu40 : fu 40 (0 : Int32) = 41 := by decide
theorem fuN {N : Nat} (h : N < 2 ^ 31) : fu (nI N) (0 : Int32) = N + 1 := by
  unfold fu
  rw [nI_toInt h, Int32.toInt_zero]
  omega
theorem chainOf_least {a b : Nat} (hg : gOK a b) {S : Int64} {be : Nat → Int64} {t : Nat} (hbe : ∀ s, s < sdN a b → be s = lN (beN a b s)) (hS : ∀ i, sdN a b ≤ i → bt S i = false) (ht : t < sdN a b) : Least a b (shlL 1 (nI t)) S (f_X4_chainOf S (nI t) be) := by
  have hn := gOK_lt hg
  have h64 : t < 64 := by omega
  rw [f_X4_chainOf, fu40, f_X7_bit, show (0 : Int32) = nI 0 from rfl]
  have hbt : ∀ i, bt (shlL 1 (nI t)) i = decide (i = t) := fun i => bt_one_shl h64 i
  obtain ⟨R, e, h1, h2, h3⟩ := F_co13 hg (S := S) (t := t) hbe hS (fun z2 => z2) 41 0 (shlL 1 (nI t)) (shlL 1 (nI t)) (by omega) (Sub.rfl' _) (fun i hi => by rw [hbt]; exact decide_eq_false (by omega)) (by
      have : shlL 1 (nI t) &&& (shlL 1 (nI t) ^^^ (-1)) = 0 := bt_ext (fun i hi => by rw [bt_and, bt_not _ hi, bt_zero]; cases bt (shlL 1 (nI t)) i <;> rfl)
      rw [this, cnt_0]) (by rw [hbt]; simp) (fun C hC _ i hi => by
      rw [hbt] at hi
      have : i = t := by simpa using hi
      rw [this]; exact hC) (fun i hi hi2 => by rw [hi] at hi2; cases hi2)
  rw [e]
  refine ⟨fun i hi => ?_, h2, fun C hC hcl => h3 C (hC t (by rw [hbt]; simp)) hcl⟩
  rw [hbt] at hi
  have : i = t := by simpa using hi
  rw [this]; exact h1
theorem st_bt {l b : Int64} {k : Nat} (hk : k < 64) : f_X0_stateOf (nI k) l b = if bt l k = true then 1 else if bt b k = true then 2 else 0 := by
  rw [state_eq hk, has_val l hk, has_val b hk]
  by_cases h1 : bt l k = true
  · rw [if_pos h1, if_pos h1, if_neg (by decide)]
  · rw [if_neg h1, if_neg h1, if_pos rfl]
    by_cases h2 : bt b k = true
    · rw [if_pos h2, if_pos h2, if_neg (by decide)]
    · rw [if_neg h2, if_neg h2, if_pos rfl]
theorem and_one_iff {x : Int64} {k : Nat} (hk : k < 64) : (lg_cmp (x &&& shlL 1 (nI k)) 0 = 0) ↔ bt x k = false := by
  rw [lg_cmp_eq]
  constructor
  · exact and_one_0 hk
  · intro h
    apply bt_ext
    intro i _
    rw [bt_and, bt_one_shl hk, bt_zero]
    by_cases q : i = k
    · subst q; rw [h]; rfl
    · simp [q]
/-- closed: the same -/
theorem F_icl0 (y1 l : Int64) (w h : Int32) (ap : Nat → Int64) : ∀ (n : Nat) (x : Int32), F_X8_isClosed_5 y1 w h l ap (fun z => z) n 0 x = 0 := by
  intro n
  induction n with
  | zero => intro x; rfl
  | succ n ih =>
    intro x
    rw [F_X8_isClosed_5]
    split
    · rfl
    · rw [if_pos rfl]; exact ih _
theorem icl_eq {a b : Nat} (hg : gOK a b) {c l : Int64} {me ap : Nat → Int64} (hme : ∀ p, p < (a + 1) * (b + 1) → me p = ap p) : f_X3_isClosed c (nI ((a + 1) * (b + 1))) l me = f_X8_isClosed c (nI a) (nI b) l ap := by
  have hn := gOK_lt hg
  rw [f_X3_isClosed, f_X8_isClosed, pts_nI, fuN (by omega)]
  have key : ∀ n j, j ≤ (a + 1) * (b + 1) → F_X3_isClosed_2 c (nI ((a + 1) * (b + 1))) l me (1 : Int32) 0 n (nI j) = F_X8_isClosed_5 c (nI a) (nI b) l ap (fun z1 => z1) n 1 (nI j) := by
    intro n
    induction n with
    | zero => intro j _; rfl
    | succ n ih =>
      intro j hj
      rw [F_X3_isClosed_2, F_X8_isClosed_5, pts_nI]
      by_cases q : (a + 1) * (b + 1) ≤ j
      · rw [if_pos (nI_le q (by omega)), if_pos (nI_le q (by omega))]
      · have hat : f_X4_atPoint (nI j) me = ap j := by
          rw [f_X4_atPoint, if_neg (nI_pos (by omega)), if_neg (lit_nle 25 25 rfl (show j < 25 by omega) (by decide)), nI_clamp (by omega)]
          exact hme j (by omega)
        rw [if_neg (nI_ge (by omega) (by omega)), if_neg (nI_ge (by omega) (by omega)), if_neg (show ¬ (1 : Int32) = 0 by decide), hat, nI_clamp (by omega), nI_1, bc_cnt, ones_cnt]
        by_cases q1 : lg_cmp (ap j &&& c) 0 = 0
        · rw [if_pos q1, if_pos q1]; exact ih _ (by omega)
        · rw [if_neg q1, if_neg q1]
          by_cases q2 : nI (cnt (ap j &&& l)) = 2
          · rw [if_pos q2, if_pos q2]; exact ih _ (by omega)
          · rw [if_neg q2, if_neg q2]; exact (F_icl0 _ _ _ _ _ _ _).symm
  exact key _ 0 (by omega)
theorem F_ami1 (y1 n0 l : Int64) (c : Int32) (ac : Nat → Int64) : ∀ (n : Nat) (x : Int32), F_X8_isAmiss_5 y1 c n0 l ac (fun z => z) n 1 x = 1 := by
  intro n
  induction n with
  | zero => intro x; rfl
  | succ n ih =>
    intro x
    rw [F_X8_isAmiss_5]
    split
    · rfl
    · rw [if_neg (show ¬ (1 : Int32) = 0 by decide)]; exact ih _
theorem ro_at {ro : Nat → Int64} {j : Nat} (h : j < 17) : f_X4_roundCell (nI j) ro = ro j := by
  rw [f_X4_roundCell, if_neg (nI_pos (by omega)), if_neg (lit_nle 17 17 rfl h (by decide)), nI_clamp (by omega)]
theorem me_at {me : Nat → Int64} {j : Nat} (h : j < 25) : f_X4_atPoint (nI j) me = me j := by
  rw [f_X4_atPoint, if_neg (nI_pos (by omega)), if_neg (lit_nle 25 25 rfl h (by decide)), nI_clamp (by omega)]
theorem ami_eq {N : Nat} (hN : N ≤ 16) {y l n mn : Int64} (hr : nRel n mn) {ro ac : Nat → Int64} (hro : ∀ c, c < N → ro c = ac c) : f_X3_missesNumber (l ||| y) (nI N) n ro = f_X8_isAmiss y (nI N) mn l ac := by
  rw [f_X3_missesNumber, f_X8_isAmiss]
  have key : ∀ f j, j ≤ N → F_X3_missesNumber_2 (l ||| y) (nI N) n ro (0 : Int32) 1 f (nI j) = F_X8_isAmiss_5 y (nI N) mn l ac (fun z1 => z1) f 0 (nI j) := by
    intro f
    induction f with
    | zero => intro j _; rfl
    | succ f ih =>
      intro j hj
      rw [F_X3_missesNumber_2, F_X8_isAmiss_5]
      by_cases q : N ≤ j
      · rw [if_pos (nI_le q (by omega)), if_pos (nI_le q (by omega))]
      · have h5 := (hr j (by omega)).1
        rw [if_neg (nI_ge (by omega) (by omega)), if_neg (nI_ge (by omega) (by omega)), if_pos rfl, f_X0_numberOf, nRel_in hr (show j < 16 by omega), nAt_val mn (show j < 16 by omega), ro_at (by omega), hro j (by omega), nI_clamp (by omega), nI_1, bc_cnt, ones_cnt]
        by_cases q1 : fld 3 mn j = 5
        · rw [if_pos q1, q1, if_pos (by decide), if_pos (by decide)]; exact ih _ (by omega)
        · rw [if_neg q1, if_neg (nI_pos (by omega)), if_neg (lit_nle 5 5 rfl (by omega) (by decide))]
          by_cases q2 : nI (cnt (ac j &&& (l ||| y))) = nI (fld 3 mn j)
          · rw [if_pos q2, if_pos q2]; exact ih _ (by omega)
          · rw [if_neg q2, if_neg q2]; exact (F_ami1 _ _ _ _ _ _ _).symm
  exact key _ 0 (by omega)
theorem en_ord_all : ∀ a b : Fin 5, 1 ≤ a.val → 1 ≤ b.val → ∀ k : Fin 40, k.val < sdN a.val b.val → enN a.val b.val k.val 0 < enN a.val b.val k.val 1 := by decide +kernel
theorem en_ord {a b k : Nat} (hg : gOK a b) (hk : k < sdN a b) : enN a b k 0 < enN a b k 1 := by
  have hn := gOK_lt hg
  obtain ⟨⟨h1, h2⟩, h3, h4⟩ := hg
  exact en_ord_all ⟨a, by omega⟩ ⟨b, by omega⟩ h1 h3 ⟨k, by omega⟩ hk
theorem F_ac80 {a b x : Nat} (hg : gOK a b) (hx : x < sdN a b) {l : Int64} {ap : Nat → Int64} (hap : ∀ p, p < (a + 1) * (b + 1) → ap p = lN (meN a b p)) {β : Type} (k : Int64 → Int64 → β) : ∀ (n j : Nat) (x4 x6 : Int64), j ≤ (a + 1) * (b + 1) → (a + 1) * (b + 1) < j + n →
    (j ≤ enN a b x 0 → x4 = 0 ∧ x6 = 0) → (enN a b x 0 < j → x4 = (ap (enN a b x 0) &&& l) ||| shlL 1 (nI x)) → (j ≤ enN a b x 1 → x6 = 0) → (enN a b x 1 < j → x6 = ap (enN a b x 1) &&& l) → F_X8_atChains_80 (shlL 1 (nI x)) (nI a) (nI b) l ap k n x4 x6 (nI j) = k ((ap (enN a b x 0) &&& l) ||| shlL 1 (nI x)) (ap (enN a b x 1) &&& l) := by
  have hn := gOK_lt hg
  have h0 := en_lt hg hx 0 (by decide)
  have h1 := en_lt hg hx 1 (by decide)
  have h01 := en_ord hg hx
  have hx64 : x < 64 := by omega
  intro n
  induction n with
  | zero => intro j x4 x6 g1 g2; exact absurd g2 (by omega)
  | succ n ih =>
    intro j x4 x6 g1 g2 c1 c2 c3 c4
    rw [F_X8_atChains_80, pts_nI]
    by_cases q : (a + 1) * (b + 1) ≤ j
    · rw [if_pos (nI_le q (by omega)), c2 (by omega), c4 (by omega)]
    · rw [if_neg (nI_ge (by omega) (by omega)), nI_clamp (by omega), nI_1]
      have hb : bt (ap j) x = inP a b j x := by rw [hap j (by omega), me_bit hg j hx64]
      by_cases q0 : j = enN a b x 0
      · have hc : ¬ lg_cmp (ap j &&& shlL 1 (nI x)) 0 = 0 := by
          rw [and_one_iff hx64, hb, q0, show inP a b (enN a b x 0) x = true from en_in hx 0]; simp
        obtain ⟨e4, e6⟩ := c1 (by omega)
        rw [if_neg hc, e4, if_pos (by decide), if_pos (by decide)]
        subst q0
        exact ih _ _ _ (by omega) (by omega) (fun h => absurd h (by omega)) (fun _ => rfl) (fun _ => e6) (fun h => absurd h (by omega))
      · by_cases q1 : j = enN a b x 1
        · have hc : ¬ lg_cmp (ap j &&& shlL 1 (nI x)) 0 = 0 := by
            rw [and_one_iff hx64, hb, q1, show inP a b (enN a b x 1) x = true from en_in hx 1]; simp
          have e4 := c2 (by omega)
          have hz : ¬ lg_cmp x4 0 = 0 := by
            rw [e4, lg_cmp_eq]
            exact ne0_of_bt (k := x) (by rw [bt_or, bt_one_shl hx64]; simp)
          rw [if_neg hc, if_neg hz, if_neg hz]
          subst q1
          exact ih _ _ _ (by omega) (by omega) (fun h => absurd h (by omega)) (fun _ => e4) (fun h => absurd h (by omega)) (fun _ => rfl)
        · have hc : lg_cmp (ap j &&& shlL 1 (nI x)) 0 = 0 := by
            rw [and_one_iff hx64, hb]
            cases z : inP a b j x with
            | false => rfl
            | true => rcases en_only z with g | g <;> omega
          rw [if_pos hc]
          exact ih _ _ _ (by omega) (by omega) (fun h => c1 (by omega)) (fun h => c2 (by omega)) (fun h => c3 (by omega)) (fun h => c4 (by omega))
theorem oth_iff {c l : Int64} (h : Sub c l) : (f_X3_othersThan c l = 0) ↔ (lg_cmp c l = 0) := by
  unfold f_X3_othersThan
  rw [lg_cmp_eq c l]
  by_cases q : lg_cmp (l &&& (c ^^^ (-1))) 0 = 0
  · rw [if_pos q]
    refine ⟨fun _ => Sub.anti h (fun k hk => ?_), fun _ => rfl⟩
    have := eq0_all q k
    rcases Nat.lt_or_ge k 64 with z | z
    · rw [bt_and, bt_not _ z, hk] at this
      simpa using this
    · rw [bt_out l z] at hk; cases hk
  · rw [if_neg q]
    refine ⟨fun e => absurd e (by decide), fun e => absurd ?_ q⟩
    rw [e, lg_cmp_eq]
    exact bt_ext (fun k hk => by rw [bt_and, bt_not _ hk, bt_zero]; cases bt l k <;> rfl)
theorem Clo_self (a b : Nat) (S : Int64) : Clo a b S S := fun _ _ _ _ _ _ _ h => h
theorem Lk_chain {a b x : Nat} (hg : gOK a b) (hx : x < sdN a b) {l bb n mn hs : Int64} {en : Nat → Int32} {ro me be ac ap : Nat → Int64} {hi hr hp : Int32} (hN : nRel n mn) (hB : bOK (sdN a b) l bb)
    (hen : ∀ s, s < sdN a b → ∀ e, e < 2 → en (2 * s + e) = nI (enN a b s e)) (hro : ∀ c, c < a * b → ro c = ac c) (hme : ∀ p, p < (a + 1) * (b + 1) → me p = ap p) (hap : ∀ p, p < (a + 1) * (b + 1) → ap p = lN (meN a b p)) (hbe : ∀ s, s < sdN a b → be s = lN (beN a b s)) :
    Lk 2 (nI x) (f_X3_lookAtChain (nI x) (f_X0_stateOf (nI x) l bb) (nI (a * b)) (nI ((a + 1) * (b + 1))) 0 l n 0 en ro me be) (f_X8_atChains (nI x) (nI a) (nI b) (nI (a * b)) hi hr hp mn l bb hs ac ap) := by
  have hn := gOK_lt hg
  have hx64 : x < 64 := by omega
  have hlo : ∀ i, sdN a b ≤ i → bt l i = false := fun i h => (hB.2 i h).1
  unfold f_X3_lookAtChain f_X8_atChains
  simp only [bd, f_X3_tell]
  rw [st_bt hx64]
  by_cases h1 : bt l x = true
  · have e1 : ¬ lg_cmp (l &&& shlL 1 (nI x)) 0 = 0 := by rw [and_one_iff hx64, h1]; simp
    rw [if_pos h1, if_pos rfl]
    simp only [if_neg e1]
    have hL1 := chainOf_least hg (S := l) hbe hlo hx
    have hL2 := chain_least hg (S := l) (T := shlL 1 (nI x)) hap
    have e2 := hL1.uniq hL2 (fun _ _ h => h) (fun _ _ h => h)
    have hsub : Sub (f_X4_chainOf l (nI x) be) l := hL1.2.2 l (fun i hi => by
      rw [bt_one_shl hx64] at hi
      have : i = x := by simpa using hi
      rw [this]; exact h1) (Clo_self a b l)
    rw [← e2, ← icl_eq hg hme]
    by_cases q : f_X3_othersThan (f_X4_chainOf l (nI x) be) l = 0
    · rw [if_pos q, if_pos ((oth_iff hsub).mp q)]
      exact Lk_of (fun _ => rfl) (fun e => absurd e (by decide)) (fun e => absurd rfl e)
    · rw [if_neg q, if_neg (fun e => q ((oth_iff hsub).mpr e))]
      by_cases q2 : f_X3_isClosed (f_X4_chainOf l (nI x) be) (nI ((a + 1) * (b + 1))) l me = 0
      · rw [if_pos q2, if_pos q2]
        exact Lk_of (fun _ => rfl) (fun e => absurd e (by decide)) (fun e => absurd rfl e)
      · rw [if_neg q2, if_neg q2]
        exact Lk_of (fun e => absurd e (by decide)) (fun _ => rfl) (fun _ e => absurd rfl e)
  · have h1f : bt l x = false := by simpa using h1
    have e1 : lg_cmp (l &&& shlL 1 (nI x)) 0 = 0 := (and_one_iff hx64).mpr h1f
    rw [if_neg h1]
    simp only [if_pos e1]
    by_cases h2 : bt bb x = true
    · have e2 : ¬ lg_cmp (bb &&& shlL 1 (nI x)) 0 = 0 := by rw [and_one_iff hx64, h2]; simp
      rw [if_pos h2, if_neg (by decide), if_neg (by decide), if_neg e2]
      exact Or.inl ⟨rfl, rfl⟩
    · have e2 : lg_cmp (bb &&& shlL 1 (nI x)) 0 = 0 := (and_one_iff hx64).mpr (by simpa using h2)
      rw [if_neg h2, if_neg (by decide), if_pos rfl, if_pos e2]
      have n0 := en_lt hg hx 0 (by decide)
      have n1 := en_lt hg hx 1 (by decide)
      have v0 : f_X4_end (nI x) 0 en = nI (enN a b x 0) := by
        rw [f_X4_end, show (2 : Int32) = nI 2 from rfl, show (0 : Int32) = nI 0 from rfl, pk_mul, nI_add, atI_val _ (by omega) (by decide), Nat.mul_comm x 2]
        exact hen x hx 0 (by decide)
      have v1 : f_X4_end (nI x) 1 en = nI (enN a b x 1) := by
        rw [f_X4_end, show (2 : Int32) = nI 2 from rfl, show (1 : Int32) = nI 1 from rfl, pk_mul, nI_add, atI_val _ (by omega) (by decide), Nat.mul_comm x 2]
        exact hen x hx 1 (by decide)
      have hW : f_X3_chainThatWouldClose (nI x) l en me be = (if (lg_cmp (ap (enN a b x 0) &&& l) 0) = 0 then 0 else (if (lg_cmp (ap (enN a b x 1) &&& l) 0) = 0 then 0 else (if (lg_cmp (f_X4_chainOf l (f_J13_numberOfTrailingZeros_95d88 (ap (enN a b x 0) &&& l)) be &&& (ap (enN a b x 1) &&& l)) 0) = 0 then 0 else f_X4_chainOf l (f_J13_numberOfTrailingZeros_95d88 (ap (enN a b x 0) &&& l)) be))) := by
        rw [f_X3_chainThatWouldClose, v0, v1, me_at (by omega), me_at (by omega), hme _ n0, hme _ n1]; rfl
      rw [pts_nI, fuN (by omega), show (0 : Int32) = nI 0 from rfl, F_ac80 hg hx hap _ _ 0 0 0 (by omega) (by omega) (fun _ => ⟨rfl, rfl⟩) (fun h => absurd h (by omega)) (fun _ => rfl) (fun h => absurd h (by omega)), ← show (0 : Int32) = nI 0 from rfl]
      have ef : ((ap (enN a b x 0) &&& l) ||| shlL 1 (nI x)) &&& (shlL 1 (nI x) ^^^ (-1)) = ap (enN a b x 0) &&& l := by
        apply bt_ext
        intro i hi
        rw [bt_and, bt_or, bt_not _ hi, bt_and, bt_one_shl hx64]
        by_cases q : i = x
        · subst q; rw [h1f]; simp
        · simp [q]
      simp only [ef, bd]
      by_cases q1 : lg_cmp (ap (enN a b x 0) &&& l) 0 = 0
      · rw [if_pos q1] at hW
        rw [hW, if_pos (by decide), if_pos q1]
        exact Or.inl ⟨rfl, rfl⟩
      · rw [if_neg q1] at hW ⊢
        by_cases q2 : lg_cmp (ap (enN a b x 1) &&& l) 0 = 0
        · rw [if_pos q2] at hW
          rw [hW, if_pos (by decide), if_pos q2]
          exact Or.inl ⟨rfl, rfl⟩
        · rw [if_neg q2] at hW ⊢
          obtain ⟨t, ht64, ht, htb, -, -⟩ := ntz_spec (lgz q1)
          rw [bt_and] at htb
          have htp : bt (ap (enN a b x 0)) t = true ∧ bt l t = true := by simpa using htb
          rw [hap _ n0, me_bit hg _ ht64] at htp
          have hts : t < sdN a b := by
            rcases Nat.lt_or_ge t (sdN a b) with z | z
            · exact z
            · rw [hlo t z] at htp; simp at htp
          rw [ht] at hW
          have hL1 := chainOf_least hg (S := l) hbe hlo hts
          have hL2 := chain_least hg (S := l) (T := ap (enN a b x 0) &&& l) hap
          have e3 := hL1.uniq hL2 (fun C hcl hC i hi => by
            rw [bt_and] at hi
            have hi2 : bt (ap (enN a b x 0)) i = true ∧ bt l i = true := by simpa using hi
            have h64 : i < 64 := by
              rcases Nat.lt_or_ge i 64 with z | z
              · exact z
              · rw [bt_out l z] at hi2; simp at hi2
            rw [hap _ n0, me_bit hg _ h64] at hi2
            exact hcl (enN a b x 0) t i n0 (hC t (by rw [bt_one_shl ht64]; simp)) htp.1 hi2.1 hi2.2) (fun C hcl hC i hi => by
            rw [bt_one_shl ht64] at hi
            have : i = t := by simpa using hi
            rw [this]
            exact hC t (by rw [bt_and, hap _ n0, me_bit hg _ ht64, htp.1, htp.2]; rfl))
          have hsub : Sub (f_X4_chainOf l (nI t) be) l := hL1.2.2 l (fun i hi => by
            rw [bt_one_shl ht64] at hi
            have : i = t := by simpa using hi
            rw [this]; exact htp.2) (Clo_self a b l)
          have hne : ¬ lg_cmp (f_X4_chainOf l (nI t) be) 0 = 0 := by
            rw [lg_cmp_eq]
            exact ne0_of_bt (hL1.1 t (by rw [bt_one_shl ht64]; simp))
          rw [← e3, ← ami_eq (by omega) hN hro]
          by_cases q3 : lg_cmp (f_X4_chainOf l (nI t) be &&& (ap (enN a b x 1) &&& l)) 0 = 0
          · rw [if_pos q3] at hW
            rw [hW, if_pos (by decide), if_pos q3]
            exact Lk_of (fun _ => rfl) (fun e => absurd e (by decide)) (fun e => absurd rfl e)
          · rw [if_neg q3] at hW
            rw [hW, if_neg hne, if_neg q3]
            by_cases q4 : f_X3_othersThan (f_X4_chainOf l (nI t) be) l = 0
            · rw [if_pos q4, if_pos ((oth_iff hsub).mp q4)]
              by_cases q5 : f_X3_missesNumber (l ||| f_X7_bit (nI x)) (nI (a * b)) n ro = 0
              · rw [if_pos q5, if_pos (show f_X3_missesNumber (l ||| shlL 1 (nI x)) (nI (a * b)) n ro = 0 from q5)]
                exact Lk_of (fun _ => rfl) (fun e => absurd e (by decide)) (fun e => absurd rfl e)
              · rw [if_neg q5, if_neg (show ¬ f_X3_missesNumber (l ||| shlL 1 (nI x)) (nI (a * b)) n ro = 0 from q5)]
                exact Lk_of (fun e => absurd e (by decide)) (fun e => absurd e (by decide)) (fun _ _ => rfl)
            · rw [if_neg q4, if_neg (fun e => q4 ((oth_iff hsub).mpr e))]
              exact Lk_of (fun e => absurd e (by decide)) (fun e => absurd e (by decide)) (fun _ _ => rfl)
