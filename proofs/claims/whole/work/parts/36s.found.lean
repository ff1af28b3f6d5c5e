/-! loops: points have none or two; what the class's search finds -/
theorem countP_xor (p q : Nat → Bool) : ∀ L : List Nat, L.countP (fun i => p i ^^ q i) % 2 = (L.countP p + L.countP q) % 2 := by
  intro L
  induction L with
  | nil => rfl
  | cons x L ih =>
    simp only [List.countP_cons]
    cases p x <;> cases q x <;> simp <;> omega
theorem cnt_xor (m x y : Int64) : cnt (m &&& (x ^^^ y)) % 2 = (cnt (m &&& x) + cnt (m &&& y)) % 2 := by
  have h := countP_xor (fun k => bt (m &&& x) k) (fun k => bt (m &&& y) k) (List.range 64)
  have e : cnt (m &&& (x ^^^ y)) = (List.range 64).countP (fun k => bt (m &&& x) k ^^ bt (m &&& y) k) := by
    apply List.countP_congr
    intro k _
    show bt (m &&& (x ^^^ y)) k = true ↔ (bt (m &&& x) k ^^ bt (m &&& y) k) = true
    rw [bt_and, bt_xor, bt_and, bt_and]
    cases bt m k <;> cases bt x k <;> cases bt y k <;> simp
  rw [e]
  exact h
theorem countP_40 {p : Nat → Bool} (hp : ∀ k, 40 ≤ k → p k = false) : (List.range 64).countP p = (List.range 40).countP p := by
  rw [show 64 = 40 + 24 from rfl, List.range_add, List.countP_append]
  have : ((List.range 24).map (40 + ·)).countP p = 0 := by
    rw [List.countP_eq_zero]
    intro k hk
    obtain ⟨j, _, rfl⟩ := List.mem_map.mp hk
    rw [hp _ (by omega)]; simp
  omega
theorem ev_all : ∀ a b : Fin 5, 1 ≤ a.val → 1 ≤ b.val → ∀ p : Fin 25, p.val < (a.val + 1) * (b.val + 1) → ∀ c : Fin 16, c.val < a.val * b.val → (List.range 40).countP (fun s => inP a.val b.val p.val s && inC a.val b.val c.val s) % 2 = 0 := by decide +kernel
theorem p3_all : ∀ a b : Fin 5, 1 ≤ a.val → 1 ≤ b.val → ∀ p : Fin 25, p.val < (a.val + 1) * (b.val + 1) → (∃ c : Fin 16, c.val < a.val * b.val ∧ p.val = cnN a.val b.val c.val) ∨ (List.range 40).countP (fun s => inP a.val b.val p.val s) ≤ 3 := by decide +kernel
theorem cn_all : ∀ a b : Fin 5, 1 ≤ a.val → 1 ≤ b.val → ∀ c : Fin 16, c.val < a.val * b.val → cnN a.val b.val c.val < (a.val + 1) * (b.val + 1) := by decide +kernel
theorem cnt_me {a b p : Nat} (hg : gOK a b) : cnt (lN (meN a b p)) = (List.range 40).countP (fun s => inP a b p s) := by
  have hn := gOK_lt hg
  rw [← countP_40 (fun k hk => inP_out p k (by omega))]
  apply List.countP_congr
  intro k _
  show bt (lN (meN a b p)) k = true ↔ _
  rw [me_bit' hg]
theorem ev_ok {a b p c : Nat} (hg : gOK a b) (hp : p < (a + 1) * (b + 1)) (hc : c < a * b) : cnt (lN (meN a b p) &&& lN (roN a b c)) % 2 = 0 := by
  have hn := gOK_lt hg
  have e : cnt (lN (meN a b p) &&& lN (roN a b c)) = (List.range 40).countP (fun s => inP a b p s && inC a b c s) := by
    rw [← countP_40 (fun k hk => by rw [inP_out p k (by omega)]; rfl)]
    apply List.countP_congr
    intro k _
    show bt (lN (meN a b p) &&& lN (roN a b c)) k = true ↔ _
    rw [bt_and, me_bit' hg, ro_bit' hg]
  rw [e]
  obtain ⟨⟨h1, h2⟩, h3, h4⟩ := hg
  exact ev_all ⟨a, by omega⟩ ⟨b, by omega⟩ h1 h3 ⟨p, by omega⟩ hp ⟨c, by omega⟩ hc
theorem aR_0 {a b : Nat} (hg : gOK a b) : aR a b (fun _ => false) = 0 := by
  apply bt_all_ext
  intro s
  rw [aR_bit hg, bt_zero]
  unfold inA
  simp
theorem par {a b p : Nat} (hg : gOK a b) (hp : p < (a + 1) * (b + 1)) {v : Nat → Bool} (hv : Sp a b v) : cnt (lN (meN a b p) &&& aR a b v) % 2 = 0 := by
  have hn := gOK_lt hg
  have key : ∀ k, k ≤ a * b → cnt (lN (meN a b p) &&& aR a b (fun i => decide (i < k) && v i)) % 2 = 0 := by
    intro k
    induction k with
    | zero =>
      intro _
      have : aR a b (fun i => decide (i < 0) && v i) = aR a b (fun _ => false) := aR_ext hg (fun i _ => by simp)
      rw [this, aR_0 hg]
      have : lN (meN a b p) &&& 0 = 0 := bt_all_ext (fun k => by rw [bt_and, bt_zero]; simp)
      rw [this, cnt_0]
    | succ k ih =>
      intro hk
      by_cases q : v k = true
      · have : aR a b (fun i => decide (i < k + 1) && v i) = aR a b (wX (fun i => decide (i < k) && v i) k) := aR_ext hg (fun i _ => by
          unfold wX
          by_cases e : i = k
          · subst e; simp [q]
          · by_cases e2 : i < k
            · simp [e2, show i < k + 1 by omega, e]
            · simp [e2, show ¬ i < k + 1 by omega, e])
        rw [this, aR_xor hg, cnt_xor]
        have h1 := ih (by omega)
        have h2 := ev_ok hg hp (show k < a * b by omega)
        omega
      · have : aR a b (fun i => decide (i < k + 1) && v i) = aR a b (fun i => decide (i < k) && v i) := aR_ext hg (fun i _ => by
          by_cases e : i = k
          · subst e; simp [q]
          · by_cases e2 : i < k
            · simp [e2, show i < k + 1 by omega]
            · simp [e2, show ¬ i < k + 1 by omega])
        rw [this]
        exact ih (by omega)
  have := key (a * b) (by omega)
  have e : aR a b (fun i => decide (i < a * b) && v i) = aR a b v := aR_ext hg (fun i _ => by
    rcases Nat.lt_or_ge i (a * b) with q | q
    · simp [q]
    · rw [hv i q]; simp)
  rw [e] at this
  exact this
theorem and_cm (x y : Int64) : x &&& y = y &&& x := bt_all_ext (fun k => by rw [bt_and, bt_and, Bool.and_comm])
theorem deg_iff {a b : Nat} (hg : gOK a b) {v : Nat → Bool} (hv : Sp a b v) : (∀ p, p < (a + 1) * (b + 1) → cnt (lN (meN a b p) &&& aR a b v) = 0 ∨ cnt (lN (meN a b p) &&& aR a b v) = 2) ↔ ∀ c, c < a * b → cnt (aR a b v &&& lN (meN a b (cnN a b c))) ≤ 2 := by
  have hn := gOK_lt hg
  obtain ⟨⟨h1, h2⟩, h3, h4⟩ := id hg
  constructor
  · intro h c hc
    rw [and_cm]
    have := h (cnN a b c) (cn_all ⟨a, by omega⟩ ⟨b, by omega⟩ h1 h3 ⟨c, by omega⟩ hc)
    omega
  · intro h p hp
    have e := par hg hp hv
    rcases p3_all ⟨a, by omega⟩ ⟨b, by omega⟩ h1 h3 ⟨p, by omega⟩ hp with ⟨c, hc, hpc⟩ | hle
    · have := h c.val hc
      rw [and_cm, ← show p = cnN a b c.val from hpc] at this
      omega
    · have hle : (List.range 40).countP (fun s => inP a b p s) ≤ 3 := hle
      rw [← cnt_me hg] at hle
      have := cnt_mono (x := lN (meN a b p) &&& aR a b v) (y := lN (meN a b p)) (fun s hs => by
        rw [bt_and] at hs
        revert hs
        cases bt (lN (meN a b p)) s <;> simp)
      omega
def Cn (a b : Nat) (x : Int64) : Prop := ∃ t, t < sdN a b ∧ bt x t = true ∧ (∀ j, j < t → bt x j = false) ∧ Least a b (shlL 1 (nI t)) x x
def Rg (a b : Nat) (x : Int64) : Prop := (∃ v, Sp a b v ∧ x = aR a b v) ∧ x ≠ 0 ∧ (∀ p, p < (a + 1) * (b + 1) → cnt (lN (meN a b p) &&& x) = 0 ∨ cnt (lN (meN a b p) &&& x) = 2) ∧ Cn a b x
theorem low_uniq {x : Int64} {t u : Nat} (h1 : bt x t = true) (h2 : ∀ j, j < t → bt x j = false) (h3 : bt x u = true) (h4 : ∀ j, j < u → bt x j = false) : t = u := by
  rcases Nat.lt_or_ge t u with q | q
  · rw [h4 t q] at h1; cases h1
  · rcases Nat.lt_or_ge u t with q' | q'
    · rw [h2 u q'] at h3; cases h3
    · omega
theorem tk_iff {a b : Nat} (hg : gOK a b) {be : Nat → Int64} (hbe : ∀ s, s < sdN a b → be s = lN (beN a b s)) {x : Int64} (hx : ∀ i, sdN a b ≤ i → bt x i = false) : tkC be x = true ↔ (x ≠ 0 ∧ Cn a b x) := by
  have hn := gOK_lt hg
  unfold tkC
  by_cases q : x = 0
  · have : lg_cmp x 0 = 0 := (lg_cmp_eq x 0).mpr q
    rw [decide_eq_false (by simpa using this)]
    exact ⟨fun h => by simp at h, fun h => absurd q h.1⟩
  · have q1 : ¬ lg_cmp x 0 = 0 := fun e => q ((lg_cmp_eq x 0).mp e)
    rw [decide_eq_true q1]
    obtain ⟨t, ht64, ht, htb, htl, -⟩ := ntz_spec q
    have hts : t < sdN a b := by
      rcases Nat.lt_or_ge t (sdN a b) with z | z
      · exact z
      · rw [hx t z] at htb; cases htb
    have hL := chainOf_least hg (S := x) hbe hx hts
    rw [ht]
    constructor
    · intro h
      have e : f_X4_chainOf x (nI t) be = x := (lg_cmp_eq _ _).mp (by simpa using h)
      rw [e] at hL
      exact ⟨q, t, hts, htb, htl, hL⟩
    · rintro ⟨_, u, hus, hub, hul, hLu⟩
      have e := low_uniq htb htl hub hul
      subst e
      have := hL.uniq hLu (fun _ _ h => h) (fun _ _ h => h)
      rw [decide_eq_true ((lg_cmp_eq _ _).mpr this)]; rfl
/-- all that the class's search finds -/
theorem cls_list {a b : Nat} (hg : gOK a b) {l bb n : Int64} (hB : bOK (sdN a b) l bb) {cs ha : Nat → Int32} {ro be se co : Nat → Int64} (hcs : ∀ c, c < a * b → ∀ i, i < 4 → cs (4 * c + i) = nI (csN a b c i)) (hha : ∀ s, s < sdN a b → ∀ e, e < 2 → ha (2 * s + e) = nI (haN a b s e)) (hro : ∀ c, c < a * b → ro c = lN (roN a b c)) (hbe : ∀ s, s < sdN a b → be s = lN (beN a b s)) (hse : ∀ c, c < a * b → se c = lN (seN a b c)) (hco : ∀ c, c < a * b → co c = lN (meN a b (cnN a b c))) :
    (dl (ftC l bb n cs ha ro se co) (tkC be) ro (fun c => csN a b c 3) (a * b) 0).Pairwise (fun x y => x.toBitVec.toNat < y.toBitVec.toNat) ∧ ∀ y, y ∈ dl (ftC l bb n cs ha ro se co) (tkC be) ro (fun c => csN a b c 3) (a * b) 0 ↔ (Rg a b y ∧ Ft a b l bb n y) := by
  have hn := gOK_lt hg
  have h0 : Sp a b (fun _ => false) := fun _ _ => rfl
  rw [← aR_0 hg]
  refine ⟨dl_srt hg hro (a * b) (by omega) _ h0 (fun _ _ => rfl), fun y => ?_⟩
  rw [dl_mem hg hro (a * b) (by omega) _ h0 (fun _ _ => rfl) y]
  have pr : ∀ v, (∀ j, j < a * b → ftC l bb n cs ha ro se co j (aR a b (rs j v)) = true) ↔ (Ft a b l bb n (aR a b v) ∧ ∀ c, c < a * b → cnt (aR a b v &&& lN (meN a b (cnN a b c))) ≤ 2) := fun v => by
    rw [← prune_iff hg hB v]
    constructor
    · intro h c hc
      have := h c hc
      unfold ftC at this
      exact (fits_iff hg hc hcs hha hro hse hco).mp (by simpa using this)
    · intro h c hc
      have := (fits_iff (y := aR a b (rs c v)) hg hc hcs hha hro hse hco).mpr (h c hc)
      unfold ftC
      simpa using this
  constructor
  · rintro ⟨v, hv, _, rfl, ht, hf⟩
    obtain ⟨f1, f2⟩ := (pr v).mp hf
    obtain ⟨t1, t2⟩ := (tk_iff hg hbe (fun i hi => by rw [aR_bit hg, inA_out v i hi])).mp ht
    exact ⟨⟨⟨v, hv, rfl⟩, t1, (deg_iff hg hv).mpr f2, t2⟩, f1⟩
  · rintro ⟨⟨⟨v, hv, rfl⟩, r1, r2, r3⟩, f1⟩
    refine ⟨v, hv, fun k hk => hv k hk, rfl, ?_, ?_⟩
    · exact (tk_iff hg hbe (fun i hi => by rw [aR_bit hg, inA_out v i hi])).mpr ⟨r1, r3⟩
    · exact (pr v).mpr ⟨f1, (deg_iff hg hv).mp r2⟩
