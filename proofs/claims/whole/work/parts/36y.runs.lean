/-! loops: running over the lists -/
theorem nI_subN {n c : Nat} (h : c ≤ n) : nI n - nI c = nI (n - c) := by
  rw [show nI n = nI (n - c) + nI c by rw [nI_add]; congr 1; omega]
  simp
theorem fitB_neg {ab : Nat} {mn l bb : Int64} {ac : Nat → Int64} {y : Int32} {x : Int64} (q : f_X8_fits x y (nI ab) mn l bb ac = 0) : ¬ fitB ab mn l bb ac y x = true := by unfold fitB; simp [q]
theorem fitB_pos {ab : Nat} {mn l bb : Int64} {ac : Nat → Int64} {y : Int32} {x : Int64} (q : ¬ f_X8_fits x y (nI ab) mn l bb ac = 0) : fitB ab mn l bb ac y x = true := by unfold fitB; simp [q]
theorem F_mb {R : List Int64} {ri : Nat → Int64} (hlen : R.length ≤ 9400) (hri : ∀ i (h : i < R.length), ri i = R[i]) {ab : Nat} {mn l bb : Int64} {ac : Nat → Int64} {M : Nat} (hM : M < 2 ^ 30) (y2 : Int32) {β : Type} (k : Int32 → β) : ∀ f j m : Nat, j ≤ R.length → R.length < j + f → m ≤ M → F_X8_manyBut_9 (nI M) y2 (nI ab) (nI R.length) mn l bb ac ri k f (nI m) (nI j) = k (nI (min M (m + ((R.drop j).filter (fitB ab mn l bb ac y2)).length))) := by
  intro f
  induction f with
  | zero => intro j m h1 h2; exact absurd h2 (by omega)
  | succ f ih =>
    intro j m h1 h2 h3
    rw [F_X8_manyBut_9]
    by_cases q : R.length ≤ j
    · rw [if_pos (nI_le q (by omega)), List.drop_of_length_le q]
      show k (nI m) = k (nI (min M (m + 0)))
      rw [show min M (m + 0) = m by omega]
    · have hj : j < R.length := by omega
      rw [if_neg (nI_ge (by omega) (by omega)), List.drop_eq_getElem_cons hj, nI_clamp (by omega), hri j hj, nI_1 j]
      by_cases q2 : M ≤ m
      · rw [if_pos (nI_le q2 (by omega)), show min M (m + ((R[j] :: R.drop (j + 1)).filter (fitB ab mn l bb ac y2)).length) = m by omega]
      · rw [if_neg (nI_ge (by omega) (by omega))]
        by_cases q3 : f_X8_fits R[j] y2 (nI ab) mn l bb ac = 0
        · rw [if_pos q3, List.filter_cons_of_neg (fitB_neg q3), show nI m + 0 = nI m by simp, ih (j + 1) m (by omega) (by omega) (by omega)]
        · rw [if_neg q3, List.filter_cons_of_pos (fitB_pos q3), nI_1 m, ih (j + 1) (m + 1) (by omega) (by omega) (by omega), List.length_cons]
          congr 3
          omega
theorem F_lo {R : List Int64} {ri : Nat → Int64} (hlen : R.length ≤ 9400) (hri : ∀ i (h : i < R.length), ri i = R[i]) {ab : Nat} {mn l bb : Int64} {ac : Nat → Int64} {β : Type} (k0 : β) (k1 : Int32 → β) : ∀ f j m : Nat, j ≤ R.length → R.length < j + f → m < 2 ^ 30 →
    (∃ j', ∃ h : j' < R.length, ((R.drop j).filter (fitB ab mn l bb ac 16))[m]? = some R[j'] ∧ F_X8_loopAt_8 (nI ab) (nI R.length) mn l bb ac ri k0 k1 f (nI m) (nI j) = k1 (nI j')) ∨ (((R.drop j).filter (fitB ab mn l bb ac 16))[m]? = none ∧ F_X8_loopAt_8 (nI ab) (nI R.length) mn l bb ac ri k0 k1 f (nI m) (nI j) = k0) := by
  intro f
  induction f with
  | zero => intro j m h1 h2; exact absurd h2 (by omega)
  | succ f ih =>
    intro j m h1 h2 h3
    rw [F_X8_loopAt_8]
    by_cases q : R.length ≤ j
    · rw [if_pos (nI_le q (by omega)), List.drop_of_length_le q]
      exact Or.inr ⟨rfl, rfl⟩
    · have hj : j < R.length := by omega
      rw [if_neg (nI_ge (by omega) (by omega)), List.drop_eq_getElem_cons hj, nI_clamp (by omega), hri j hj, nI_1 j]
      by_cases q3 : f_X8_fits R[j] 16 (nI ab) mn l bb ac = 0
      · rw [if_pos q3, List.filter_cons_of_neg (fitB_neg q3)]
        exact ih (j + 1) m (by omega) (by omega) (by omega)
      · rw [if_neg q3, List.filter_cons_of_pos (fitB_pos q3)]
        cases m with
        | zero =>
          rw [if_pos (show nI 0 = (0 : Int32) from rfl)]
          exact Or.inl ⟨j, hj, rfl, rfl⟩
        | succ m =>
          rw [if_neg (show ¬ nI (m + 1) = 0 from lit_ne 0 0 rfl (by omega) (by omega) (by decide)), show nI (m + 1) + (-1) = nI m by rw [← nI_1 m, Int32.add_assoc, show (1 : Int32) + -1 = 0 by decide, Int32.add_zero], List.getElem?_cons_succ]
          exact ih (j + 1) m (by omega) (by omega) (by omega)
theorem F_fo {R : List Int64} {ri : Nat → Int64} (hlen : R.length ≤ 9400) (hri : ∀ i (h : i < R.length), ri i = R[i]) {ab : Nat} {mn l bb : Int64} {ac : Nat → Int64} {β : Type} (k : Int64 → Int64 → Int32 → β) : ∀ (f j m : Nat) (x y : Int64), j ≤ R.length → R.length < j + f → F_X8_forced_35 (nI ab) (nI R.length) mn l bb ac ri k f x y (nI m) (nI j) = k (((R.drop j).filter (fitB ab mn l bb ac 16)).foldl (fun z y => z &&& y) x) (((R.drop j).filter (fitB ab mn l bb ac 16)).foldl (fun z y => z &&& (y ^^^ (-1))) y) (nI (m + ((R.drop j).filter (fitB ab mn l bb ac 16)).length)) := by
  intro f
  induction f with
  | zero => intro j m x y h1 h2; exact absurd h2 (by omega)
  | succ f ih =>
    intro j m x y h1 h2
    rw [F_X8_forced_35]
    by_cases q : R.length ≤ j
    · rw [if_pos (nI_le q (by omega)), List.drop_of_length_le q]
      rfl
    · have hj : j < R.length := by omega
      rw [if_neg (nI_ge (by omega) (by omega)), List.drop_eq_getElem_cons hj, nI_clamp (by omega), hri j hj, nI_1 j]
      by_cases q3 : f_X8_fits R[j] 16 (nI ab) mn l bb ac = 0
      · rw [if_pos q3, List.filter_cons_of_neg (fitB_neg q3)]
        exact ih (j + 1) m x y (by omega) (by omega)
      · rw [if_neg q3, List.filter_cons_of_pos (fitB_pos q3), nI_1 m, ih (j + 1) (m + 1) _ _ (by omega) (by omega), List.foldl_cons, List.foldl_cons, List.length_cons]
        rw [show m + 1 + ((R.drop (j + 1)).filter (fitB ab mn l bb ac 16)).length = m + (((R.drop (j + 1)).filter (fitB ab mn l bb ac 16)).length + 1) by omega]
theorem F_ia {L : List Int64} {A : Nat → Int64} (hlen : L.length ≤ 9400) (hA : ∀ i (h : i < L.length), A i = L[i]) {β : Type} (k : Int64 → β) : ∀ (f j : Nat) (x : Int64), j ≤ L.length → L.length < j + f → F_X1_inAll_10 (nI L.length) A k f x (nI j) = k ((L.drop j).foldl (fun z y => z &&& y) x) := by
  intro f
  induction f with
  | zero => intro j x h1 h2; exact absurd h2 (by omega)
  | succ f ih =>
    intro j x h1 h2
    rw [F_X1_inAll_10]
    by_cases q : L.length ≤ j
    · rw [if_pos (nI_le q (by omega)), List.drop_of_length_le q]
      rfl
    · have hj : j < L.length := by omega
      rw [if_neg (nI_ge (by omega) (by omega)), if_neg (lit_nle 10000 10000 rfl (by omega) (by decide)), List.drop_eq_getElem_cons hj, nI_clamp (by omega), hA j hj, nI_1 j, List.foldl_cons]
      exact ih (j + 1) _ (by omega) (by omega)
theorem F_in {L : List Int64} {A : Nat → Int64} (hlen : L.length ≤ 9400) (hA : ∀ i (h : i < L.length), A i = L[i]) {β : Type} (k : Int64 → β) : ∀ (f j : Nat) (x : Int64), j ≤ L.length → L.length < j + f → F_X1_inNone_4 (nI L.length) A k f x (nI j) = k ((L.drop j).foldl (fun z y => z ||| y) x) := by
  intro f
  induction f with
  | zero => intro j x h1 h2; exact absurd h2 (by omega)
  | succ f ih =>
    intro j x h1 h2
    rw [F_X1_inNone_4]
    by_cases q : L.length ≤ j
    · rw [if_pos (nI_le q (by omega)), List.drop_of_length_le q]
      rfl
    · have hj : j < L.length := by omega
      rw [if_neg (nI_ge (by omega) (by omega)), if_neg (lit_nle 10000 10000 rfl (by omega) (by decide)), List.drop_eq_getElem_cons hj, nI_clamp (by omega), hA j hj, nI_1 j, List.foldl_cons]
      exact ih (j + 1) _ (by omega) (by omega)
theorem or_and {z : Int64} : ∀ (L : List Int64) (x : Int64), z &&& ((L.foldl (fun z y => z ||| y) x) ^^^ (-1)) = L.foldl (fun z y => z &&& (y ^^^ (-1))) (z &&& (x ^^^ (-1))) := by
  intro L
  induction L with
  | nil => intro x; rfl
  | cons y L ih =>
    intro x
    rw [List.foldl_cons, List.foldl_cons, ih]
    congr 1
    exact bt_ext (fun i hi => by
      rw [bt_and, bt_and, bt_and, bt_not _ hi, bt_not _ hi, bt_not _ hi, bt_or]
      cases bt z i <;> cases bt x i <;> cases bt y i <;> rfl)
theorem all_eq (s : Int32) : f_X4_allSides s = f_X8_all s := rfl
/-! which sides the loops have -/
theorem us_all : ∀ q : Fin 64, ((nI q.val).toInt64.toUInt64 &&& Int64.toUInt64 63).toNat % 64 = q.val := by decide +kernel
theorem one_bit (x : Int64) {s : Nat} (hs : s < 64) : ((ushrL x (nI s)) &&& 1).toInt32 = nI (if bt x s = true then 1 else 0) := by
  have h1 : tn (ushrL x (nI s)) = tn x / 2 ^ s := tn_ushr x (nI s) s (us_all ⟨s, hs⟩)
  have h2 := tn_and (ushrL x (nI s)) 1
  rw [h1, show tn (1 : Int64) = 2 ^ 1 - 1 by decide, Nat.and_two_pow_sub_one_eq_mod] at h2
  have h3 : tn x / 2 ^ s % 2 ^ 1 = if bt x s = true then 1 else 0 := by
    rw [bt_nat, Nat.testBit_eq_decide_div_mod_eq]
    have : tn x / 2 ^ s % 2 < 2 := Nat.mod_lt _ (by decide)
    by_cases q : x.toBitVec.toNat / 2 ^ s % 2 = 1
    · rw [decide_eq_true q, if_pos rfl]; exact q
    · rw [decide_eq_false q, if_neg (by decide)]
      have q : ¬ tn x / 2 ^ s % 2 = 1 := q
      omega
  rw [h3] at h2
  have e : (ushrL x (nI s)) &&& 1 = lN (if bt x s = true then 1 else 0) := by
    apply Int64.toBitVec_inj.mp
    apply BitVec.eq_of_toNat_eq
    rw [show (lN (if bt x s = true then 1 else 0)).toBitVec.toNat = (if bt x s = true then 1 else 0) % 2 ^ 64 from rfl, Nat.mod_eq_of_lt (by split <;> decide)]
    exact h2
  rw [e, lN_i]
theorem F_hm {L : List Int64} {A : Nat → Int64} (hlen : L.length ≤ 9400) (hA : ∀ i (h : i < L.length), A i = L[i]) {s : Nat} (hs : s < 64) {β : Type} (k : Int32 → β) : ∀ (f j m : Nat), j ≤ L.length → L.length < j + f → F_X1_howManyHave_4 (nI s) (nI L.length) A k f (nI m) (nI j) = k (nI (m + (L.drop j).countP (fun y => bt y s))) := by
  intro f
  induction f with
  | zero => intro j m h1 h2; exact absurd h2 (by omega)
  | succ f ih =>
    intro j m h1 h2
    rw [F_X1_howManyHave_4]
    by_cases q : L.length ≤ j
    · rw [if_pos (nI_le q (by omega)), List.drop_of_length_le q]
      rfl
    · have hj : j < L.length := by omega
      rw [if_neg (nI_ge (by omega) (by omega)), if_neg (lit_nle 10000 10000 rfl (by omega) (by decide)), List.drop_eq_getElem_cons hj, nI_clamp (by omega), hA j hj, nI_1 j, one_bit _ hs, nI_add, ih (j + 1) _ (by omega) (by omega), List.countP_cons]
      congr 2
      omega
theorem hm_val {L : List Int64} {z : Int32} {A : Nat → Int64} (h : Ls L z A) {s : Nat} (hs : s < 64) : f_X1_howManyHave (nI s) z A = nI (L.countP (fun y => bt y s)) := by
  obtain ⟨rfl, h1, h2⟩ := h
  rw [f_X1_howManyHave, fuN (by omega)]
  have := F_hm h1 h2 hs (fun z => z) (L.length + 1) 0 0 (by omega) (by omega)
  rw [show nI 0 = (0 : Int32) from rfl] at this
  rw [this]
  rw [List.drop_zero, Nat.zero_add]
theorem F_t59 {S i : Nat} (hS : S ≤ 40) (hi : i < 2 ^ 30) {ri : Nat → Int64} {β : Type} (k : (Nat → Int32) → β) : ∀ (f j : Nat) (wt : Nat → Int32), j ≤ S → S < j + f → ∃ wt', F_X8_tryNext_59 (nI i) (nI S) ri k f (nI j) wt = k wt' ∧ (∀ s, s < j → wt' s = wt s) ∧ ∀ s, j ≤ s → s < S → wt' s = wt s + nI (if bt (ri i) s = true then 1 else 0) := by
  intro f
  induction f with
  | zero => intro j wt h1 h2; exact absurd h2 (by omega)
  | succ f ih =>
    intro j wt h1 h2
    rw [F_X8_tryNext_59]
    by_cases q : S ≤ j
    · rw [if_pos (nI_le q (by omega))]
      exact ⟨wt, rfl, fun s _ => rfl, fun s h3 h4 => absurd h4 (by omega)⟩
    · rw [if_neg (nI_ge (by omega) (by omega)), nI_clamp (by omega), nI_clamp (by omega), nI_1 j, has_val _ (show j < 64 by omega)]
      have fin : ∀ v : Int32, v = wt j + nI (if bt (ri i) j = true then 1 else 0) → ∃ wt', F_X8_tryNext_59 (nI i) (nI S) ri k f (nI (j + 1)) (upd wt j v) = k wt' ∧ (∀ s, s < j → wt' s = wt s) ∧ ∀ s, j ≤ s → s < S → wt' s = wt s + nI (if bt (ri i) s = true then 1 else 0) := fun v hv => by
        obtain ⟨wt', e, g1, g2⟩ := ih (j + 1) (upd wt j v) (by omega) (by omega)
        refine ⟨wt', e, fun s hs => by rw [g1 s (by omega), pk_un (by omega)], fun s h3 h4 => ?_⟩
        by_cases es : s = j
        · subst es; rw [g1 s (by omega), pk_us, hv]
        · rw [g2 s (by omega) h4, pk_un es]
      by_cases b : bt (ri i) j = true
      · rw [if_pos b, if_neg (show ¬ (1 : Int32) = 0 by decide)]
        exact fin _ (by rw [if_pos b]; rfl)
      · rw [if_neg b, if_pos rfl]
        exact fin _ (by rw [if_neg b]; rfl)
theorem F_t8 {S : Nat} (hS : S ≤ 40) {β : Type} (k : (Nat → Int32) → β) : ∀ (f j : Nat) (wt : Nat → Int32), j ≤ S → S < j + f → ∃ wt', F_X8_tryNext_8 (nI S) k f (nI j) wt = k wt' ∧ (∀ s, s < j → wt' s = wt s) ∧ ∀ s, j ≤ s → s < S → wt' s = 0 := by
  intro f
  induction f with
  | zero => intro j wt h1 h2; exact absurd h2 (by omega)
  | succ f ih =>
    intro j wt h1 h2
    rw [F_X8_tryNext_8]
    by_cases q : S ≤ j
    · rw [if_pos (nI_le q (by omega))]
      exact ⟨wt, rfl, fun s _ => rfl, fun s h3 h4 => absurd h4 (by omega)⟩
    · rw [if_neg (nI_ge (by omega) (by omega)), nI_clamp (by omega), nI_1 j]
      obtain ⟨wt', e, g1, g2⟩ := ih (j + 1) (upd wt j 0) (by omega) (by omega)
      refine ⟨wt', e, fun s hs => by rw [g1 s (by omega), pk_un (by omega)], fun s h3 h4 => ?_⟩
      by_cases es : s = j
      · subst es; rw [g1 s (by omega), pk_us]
      · exact g2 s (by omega) h4
theorem F_t31 {S : Nat} (hS : S ≤ 40) {R : List Int64} {ri : Nat → Int64} (hlen : R.length ≤ 9400) (hri : ∀ i (h : i < R.length), ri i = R[i]) {ab : Nat} {mn l bb : Int64} {ac : Nat → Int64} {β : Type} (k : Int32 → (Nat → Int32) → β) : ∀ (f j m : Nat) (wt : Nat → Int32) (g : Nat → Nat), j ≤ R.length → R.length < j + f → (∀ s, s < S → wt s = nI (g s)) → ∃ wt', F_X8_tryNext_31 (nI ab) (nI S) (nI R.length) mn l bb ac ri k f (nI m) (nI j) wt = k (nI (m + ((R.drop j).filter (fitB ab mn l bb ac 16)).length)) wt' ∧ ∀ s, s < S → wt' s = nI (g s + ((R.drop j).filter (fitB ab mn l bb ac 16)).countP (fun y => bt y s)) := by
  intro f
  induction f with
  | zero => intro j m wt g h1 h2; exact absurd h2 (by omega)
  | succ f ih =>
    intro j m wt g h1 h2 h3
    rw [F_X8_tryNext_31]
    by_cases q : R.length ≤ j
    · rw [if_pos (nI_le q (by omega)), List.drop_of_length_le q]
      exact ⟨wt, rfl, fun s hs => h3 s hs⟩
    · have hj : j < R.length := by omega
      rw [if_neg (nI_ge (by omega) (by omega)), List.drop_eq_getElem_cons hj, nI_clamp (by omega), hri j hj, nI_1 j]
      by_cases q3 : f_X8_fits R[j] 16 (nI ab) mn l bb ac = 0
      · rw [if_pos q3, List.filter_cons_of_neg (fitB_neg q3)]
        exact ih (j + 1) m wt g (by omega) (by omega) h3
      · rw [if_neg q3, List.filter_cons_of_pos (fitB_pos q3), nI_1 m, fuN (by omega)]
        obtain ⟨w1, e1, _, g1⟩ := F_t59 hS (show j < 2 ^ 30 by omega) (ri := ri) (fun z3 => F_X8_tryNext_31 (nI ab) (nI S) (nI R.length) mn l bb ac ri k f (nI (m + 1)) (nI (j + 1)) z3) (S + 1) 0 wt (by omega) (by omega)
        rw [show nI 0 = (0 : Int32) from rfl] at e1
        rw [e1]
        obtain ⟨w2, e2, g2⟩ := ih (j + 1) (m + 1) w1 (fun s => g s + (if bt R[j] s = true then 1 else 0)) (by omega) (by omega) (fun s hs => by rw [g1 s (by omega) hs, h3 s hs, nI_add, hri j hj])
        refine ⟨w2, ?_, fun s hs => ?_⟩
        · rw [e2, List.length_cons]
          congr 2
          omega
        · rw [g2 s hs, List.countP_cons]
          congr 1
          omega
theorem tn_both {S n : Nat} (hS : S ≤ 40) (hn : n ≤ 9400) {l b : Int64} {la : Nat → Int64} {wt : Nat → Int32} {c : Nat → Nat} (hc : ∀ s, s < S → c s ≤ n) (h1 : ∀ s, s < S → f_X1_howManyHave (nI s) (nI n) la = nI (c s)) (h2 : ∀ s, s < S → wt s = nI (c s)) {β γ : Type} (k : Int32 → β) (k' : Int32 → γ) : ∀ (f j e : Nat) (x : Int32), j ≤ S → e ≤ n → ∃ z, F_X7_tryNext_11 (nI S) (nI n) l b la k f x (nI e) (nI j) = k z ∧ F_X8_tryNext_114 (nI n) (nI S) l b wt k' f x (nI e) (nI j) = k' z := by
  intro f
  induction f with
  | zero => intro j e x _ _; exact ⟨x, rfl, rfl⟩
  | succ f ih =>
    intro j e x hj he
    rw [F_X7_tryNext_11, F_X8_tryNext_114]
    by_cases q : S ≤ j
    · rw [if_pos (nI_le q (by omega)), if_pos (nI_le q (by omega))]
      exact ⟨x, rfl, rfl⟩
    · have hjS : j < S := by omega
      have hcj := hc j hjS
      rw [if_neg (nI_ge (by omega) (by omega)), if_neg (nI_ge (by omega) (by omega)), nI_clamp (by omega), h1 j hjS, h2 j hjS, nI_subN hcj, nI_1 j]
      have em : minI (nI (c j)) (nI (n - c j)) = nI (min (c j) (n - c j)) := by
        unfold minI
        by_cases z : n - c j < c j
        · rw [if_pos (nI_lt z (by omega))]; congr 1; omega
        · rw [if_neg (nI_nlt (by omega) (by omega))]; congr 1; omega
      have e0 : (f_X0_stateOf (nI j) l b = 0) ↔ ¬ (f_X8_has (f_X8_open (nI S) l b) (nI j) = 0) := by
        rw [st_bt (show j < 64 by omega), has_val _ (show j < 64 by omega), f_X8_open, bt_and, bt_and, bt_not _ (show j < 64 by omega), bt_not _ (show j < 64 by omega), all_bit (by omega), decide_eq_true hjS]
        cases bt l j <;> cases bt b j <;> decide
      rw [em]
      by_cases q0 : f_X0_stateOf (nI j) l b = 0
      · rw [if_pos q0, if_neg (e0.mp q0), if_neg (e0.mp q0), bd]
        by_cases qc : n - c j ≤ c j
        · rw [if_pos (nI_le qc (by omega)), show min (c j) (n - c j) = n - c j by omega]
          by_cases qe : n - c j ≤ e
          · rw [if_pos (nI_le qe (by omega)), if_pos (nI_le qe (by omega))]
            exact ih (j + 1) e x (by omega) he
          · rw [if_neg (nI_ge (by omega) (by omega)), if_neg (nI_ge (by omega) (by omega))]
            exact ih (j + 1) (n - c j) (nI j) (by omega) (by omega)
        · rw [if_neg (show ¬ nI (n - c j) ≤ nI (c j) from nI_ge (by omega) (by omega)), show min (c j) (n - c j) = c j by omega]
          by_cases qe : c j ≤ e
          · rw [if_pos (nI_le qe (by omega)), if_pos (nI_le qe (by omega))]
            exact ih (j + 1) e x (by omega) he
          · rw [if_neg (nI_ge (by omega) (by omega)), if_neg (nI_ge (by omega) (by omega))]
            exact ih (j + 1) (c j) (nI j) (by omega) (by omega)
      · have q1 : f_X8_has (f_X8_open (nI S) l b) (nI j) = 0 := by
          by_cases z : f_X8_has (f_X8_open (nI S) l b) (nI j) = 0
          · exact z
          · exact absurd (e0.mpr z) q0
        rw [if_neg q0, if_pos q1, if_pos q1]
        split
        · exact ih (j + 1) e x (by omega) he
        · exact ih (j + 1) e x (by omega) he
