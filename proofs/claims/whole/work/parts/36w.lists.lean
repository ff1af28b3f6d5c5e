/-! loops: both sides' lists -/
def tlt (x y : Int64) : Prop := x.toBitVec.toNat < y.toBitVec.toNat
theorem srt_uniq : ∀ L M : List Int64, L.Pairwise tlt → M.Pairwise tlt → (∀ x, x ∈ L ↔ x ∈ M) → L = M := by
  intro L
  induction L with
  | nil =>
    intro M _ _ h
    cases M with
    | nil => rfl
    | cons y M => exact absurd ((h y).mpr List.mem_cons_self) (by simp)
  | cons x L ih =>
    intro M h1 h2 h
    cases M with
    | nil => exact absurd ((h x).mp List.mem_cons_self) (by simp)
    | cons y M =>
      rw [List.pairwise_cons] at h1 h2
      have e : x = y := by
        rcases List.mem_cons.mp ((h x).mp List.mem_cons_self) with z | z
        · exact z
        · rcases List.mem_cons.mp ((h y).mpr List.mem_cons_self) with z2 | z2
          · exact z2.symm
          · have a1 := h2.1 x z
            have a2 := h1.1 y z2
            unfold tlt at a1 a2
            omega
      subst e
      congr 1
      refine ih M h1.2 h2.2 (fun z => ⟨fun hz => ?_, fun hz => ?_⟩)
      · rcases List.mem_cons.mp ((h z).mp (List.mem_cons_of_mem _ hz)) with q | q
        · have := h1.1 z hz
          rw [q] at this
          exact absurd this (Nat.lt_irrefl _)
        · exact q
      · rcases List.mem_cons.mp ((h z).mpr (List.mem_cons_of_mem _ hz)) with q | q
        · have := h2.1 z hz
          rw [q] at this
          exact absurd this (Nat.lt_irrefl _)
        · exact q
theorem pos_toInt {x : Int64} (h : ∀ i, 40 ≤ i → bt x i = false) : x.toInt = (x.toBitVec.toNat : Int) ∧ x.toBitVec.toNat < 2 ^ 40 := by
  have h1 : x.toBitVec.toNat < 2 ^ 40 := Nat.lt_pow_two_of_testBit _ (fun i hi => h i hi)
  exact ⟨BitVec.toInt_eq_toNat_of_lt (by omega), h1⟩
theorem Rg_out {a b : Nat} (hg : gOK a b) {x : Int64} (h : Rg a b x) : ∀ i, sdN a b ≤ i → bt x i = false := by
  obtain ⟨⟨v, _, rfl⟩, _⟩ := h
  intro i hi
  rw [aR_bit hg, inA_out v i hi]
theorem Rg_int {a b : Nat} (hg : gOK a b) {x : Int64} (h : Rg a b x) : x.toInt = (x.toBitVec.toNat : Int) ∧ x.toBitVec.toNat < 2 ^ 40 := by
  have hn := gOK_lt hg
  exact pos_toInt (fun i hi => Rg_out hg h i (by omega))
def RR (a b : Nat) (R : List Int64) : Prop := R.Pairwise tlt ∧ ∀ x, x ∈ R ↔ Rg a b x
def LPr (a b : Nat) (l bb n : Int64) (L : List Int64) : Prop := L.Pairwise tlt ∧ ∀ x, x ∈ L ↔ (Rg a b x ∧ Ft a b l bb n x)
def Ls (L : List Int64) (z : Int32) (A : Nat → Int64) : Prop := z = nI L.length ∧ L.length ≤ 9400 ∧ ∀ i (h : i < L.length), A i = L[i]
def LRep2 (a b : Nat) (l_z : Int32) (l_a : Nat → Int64) (b_l b_b b_n : Int64) : Prop := ∃ L, LPr a b b_l b_b b_n L ∧ Ls L l_z l_a
def RLoops2 (a b : Nat) (c_sr l_z : Int32) (l_a : Nat → Int64) (b_l b_b b_n : Int64) : Prop := c_sr = 0 ∨ LRep2 a b l_z l_a b_l b_b b_n
def MRep2 (m_rn m_rw m_rh : Int32) (m_ri : Nat → Int64) : Prop := ∀ a b, gOK a b → m_rw = nI a → m_rh = nI b → ∃ R, RR a b R ∧ Ls R m_rn m_ri
def RRings2 (m_rn m_rw m_rh : Int32) (m_ri : Nat → Int64) : Prop := (0 ≤ m_rn.toInt ∧ m_rn.toInt ≤ 9400) ∧ MRep2 m_rn m_rw m_rh m_ri
theorem RR_of {a b n : Nat} (hg : gOK a b) {f : Nat → Int64} (h1 : Good n (Rg a b) f) (h2 : Srt n f) : RR a b ((List.range n).map f) := by
  refine ⟨List.pairwise_map.mpr (List.Pairwise.imp_of_mem (fun {i j} hi hj hij => ?_) List.pairwise_lt_range), fun x => ?_⟩
  · rw [List.mem_range] at hi hj
    have s := h2 i j hij hj
    have r1 := (h1.2 (f i)).mpr ⟨i, hi, rfl⟩
    have r2 := (h1.2 (f j)).mpr ⟨j, hj, rfl⟩
    have e1 := (Rg_int hg r1).1
    have e2 := (Rg_int hg r2).1
    have ne : (f i).toBitVec.toNat ≠ (f j).toBitVec.toNat := fun e => by
      have : f i = f j := Int64.toBitVec_inj.mp (BitVec.eq_of_toNat_eq e)
      have := h1.1 i j hi hj this
      omega
    unfold tlt
    omega
  · rw [List.mem_map, h1.2 x]
    constructor
    · rintro ⟨i, hi, e⟩
      exact ⟨i, List.mem_range.mp hi, e⟩
    · rintro ⟨i, hi, e⟩
      exact ⟨i, List.mem_range.mpr hi, e⟩
/-- the model's list, laid anew -/
theorem lay_new {a b : Nat} (hg : gOK a b) {ho : Nat → Int32} {ap : Nat → Int64} (hho : ∀ s, s < sdN a b → ∀ e, e < 2 → ho (2 * s + e) = nI (haN a b s e)) (hap : ∀ p, p < (a + 1) * (b + 1) → ap p = lN (meN a b p)) (ri : Nat → Int64) (w h : Int32) :
    ∃ R ri', RR a b R ∧ Ls R (nI R.length) ri' ∧ F_X8_laysRings_46 (nI a) (nI b) (nI (a * b)) (nI (sdN a b)) ho ap (fun z7 z8 => F_X8_laysRings_100 z7 (fun z9 => (z7, w, h, z9)) ((4096 : Int32).toInt.toNat + 1) 4096 z8) (fu (1 <<< (nI (a * b) &&& 31)) (1 : Int32)) 1 0 ri = (nI R.length, w, h, ri') := by
  have hn := gOK_lt hg
  have hp : 2 ^ (a * b) ≤ 2 ^ 16 := Nat.pow_le_pow_right (by decide) hn.1.2
  have hp1 : 1 ≤ 2 ^ (a * b) := Nat.one_le_two_pow
  have hfu : fu (1 <<< (nI (a * b) &&& 31)) (1 : Int32) = 2 ^ (a * b) := by
    rw [show ((1 : Int32) <<< (nI (a * b) &&& 31)) = nI (2 ^ (a * b)) from sh_all ⟨a * b, by omega⟩]
    unfold fu
    rw [nI_toInt (by omega), show (1 : Int32).toInt = 1 from rfl]
    omega
  have h0 : rcnt (nI a) (nI b) (nI (sdN a b)) ho ap 1 = 0 := rfl
  have hN := rc_bound hg hho hap (Nat.le_refl (2 ^ (a * b)))
  obtain ⟨r1, e1, g1⟩ := F_la hg hho hap (fun z7 z8 => F_X8_laysRings_100 z7 (fun z9 => (z7, w, h, z9)) ((4096 : Int32).toInt.toNat + 1) 4096 z8) (2 ^ (a * b)) 1 0 ri (by omega) hp1 (by omega) h0.symm (by omega) ⟨fun i j hi => absurd hi (by omega), fun x => ⟨fun ⟨W, w1, w2, _⟩ => absurd w2 (by omega), fun ⟨i, hi, _⟩ => absurd hi (by omega)⟩⟩
  generalize rcnt (nI a) (nI b) (nI (sdN a b)) ho ap (2 ^ (a * b)) = N at e1 g1 hN
  obtain ⟨r2, e2, g2, s2⟩ := F_100 (n := N) (by omega) (fun z9 => (nI N, w, h, z9)) 12 ((4096 : Int32).toInt.toNat + 1) r1 (by omega) (by decide) g1
  have g3 : Good N (Rg a b) r2 := ⟨g2.1, fun x => by rw [Rg_W hg x]; exact g2.2 x⟩
  refine ⟨(List.range N).map r2, r2, RR_of hg g3 s2, ⟨rfl, by simpa using hN, fun i hi => by simp⟩, ?_⟩
  rw [hfu]
  rw [show (1 : Int32) = nI 1 from rfl, show (0 : Int32) = nI 0 from rfl, e1]
  rw [show (4096 : Int32) = nI (2 ^ 12) from rfl] at e2 ⊢
  rw [e2]
  simp
theorem RR_ex {a b : Nat} (hg : gOK a b) : ∃ R, RR a b R ∧ R.length ≤ 9400 := by
  obtain ⟨R, ri, h1, h2, _⟩ := lay_new (ho := fun i => nI (haN a b (i / 2) (i % 2))) (ap := fun p => lN (meN a b p)) hg (fun s _ e he => by
    show nI (haN a b ((2 * s + e) / 2) ((2 * s + e) % 2)) = _
    rw [show (2 * s + e) / 2 = s by omega, show (2 * s + e) % 2 = e by omega]) (fun p _ => rfl) (fun _ => 0) 0 0
  exact ⟨R, h1, h2.2.1⟩
theorem lays_sim {a b : Nat} (hg : gOK a b) {m_w m_h m_c m_s rn rw_ rh : Int32} {ho : Nat → Int32} {ac ap ri : Nat → Int64} (hM : RGridM a b m_w m_h m_c m_s ho ac ap) (hR : RRings2 rn rw_ rh ri) :
    ∃ R, RR a b R ∧ Ls R (f_X8_laysRings m_w m_h m_c m_s rn rw_ rh ho ap ri).1 (f_X8_laysRings m_w m_h m_c m_s rn rw_ rh ho ap ri).2.2.2 ∧ RRings2 (f_X8_laysRings m_w m_h m_c m_s rn rw_ rh ho ap ri).1 (f_X8_laysRings m_w m_h m_c m_s rn rw_ rh ho ap ri).2.1 (f_X8_laysRings m_w m_h m_c m_s rn rw_ rh ho ap ri).2.2.1 (f_X8_laysRings m_w m_h m_c m_s rn rw_ rh ho ap ri).2.2.2 ∧ ((f_X8_laysRings m_w m_h m_c m_s rn rw_ rh ho ap ri).2.1 = m_w ∧ (f_X8_laysRings m_w m_h m_c m_s rn rw_ rh ho ap ri).2.2.1 = m_h) := by
  obtain ⟨rfl, rfl, rfl, rfl, hT⟩ := hM
  obtain ⟨⟨ga1, ga2⟩, gb1, gb2⟩ := id hg
  have new : ∃ R, RR a b R ∧ ∃ ri', Ls R (nI R.length) ri' ∧ F_X8_laysRings_46 (nI a) (nI b) (nI (a * b)) (nI (sdN a b)) ho ap (fun z7 z8 => F_X8_laysRings_100 z7 (fun z9 => (z7, nI a, nI b, z9)) ((4096 : Int32).toInt.toNat + 1) 4096 z8) (fu (1 <<< (nI (a * b) &&& 31)) (1 : Int32)) 1 0 ri = (nI R.length, nI a, nI b, ri') := by
    obtain ⟨R, ri', h1, h2, h3⟩ := lay_new hg hT.1 hT.2.2 ri (nI a) (nI b)
    exact ⟨R, h1, ri', h2, h3⟩
  have fin : ∀ {R : List Int64} {ri' : Nat → Int64}, RR a b R → Ls R (nI R.length) ri' → RRings2 (nI R.length) (nI a) (nI b) ri' := fun {R} {ri'} h1 h2 => by
    refine ⟨?_, fun a' b' hg' e1 e2 => ?_⟩
    · have := h2.2.1
      rw [nI_toInt (by omega)]; omega
    · obtain ⟨⟨x1, x2⟩, x3, x4⟩ := hg'
      have q1 : a = a' := (nI_eq (by omega) (by omega)).mp e1
      have q2 : b = b' := (nI_eq (by omega) (by omega)).mp e2
      subst q1; subst q2
      exact ⟨R, h1, h2⟩
  rw [f_X8_laysRings]
  by_cases q1 : rw_ = nI a
  · by_cases q2 : rh = nI b
    · rw [if_pos q1, if_pos q2]
      obtain ⟨R, h1, h2⟩ := hR.2 a b hg q1 q2
      exact ⟨R, h1, h2, hR, q1, q2⟩
    · obtain ⟨R, h1, ri', h2, h3⟩ := new
      rw [if_pos q1, if_neg q2, h3]
      exact ⟨R, h1, h2, fin h1 h2, rfl, rfl⟩
  · obtain ⟨R, h1, ri', h2, h3⟩ := new
    rw [if_neg q1, h3]
    exact ⟨R, h1, h2, fin h1 h2, rfl, rfl⟩
