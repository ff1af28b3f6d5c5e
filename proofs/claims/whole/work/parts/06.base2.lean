theorem nwm_X7_9 : Cond.methodLinkNest RX7 9 yX6_init "NumberedLoops" ∈ nwL := List.mem_of_getElem? (i := 0) rfl
theorem nwm_X7_18 : Cond.methodLinkNest RX7 18 yX4_init "NumberedLoops" ∈ nwL := List.mem_of_getElem? (i := 1) rfl
theorem nwm_X7_25 : Cond.methodLinkNest RX7 25 yX0_init "NumberedLoops" ∈ nwL := List.mem_of_getElem? (i := 2) rfl
theorem nwm_X7_32 : Cond.methodLinkNest RX7 32 yX2_init "NumberedLoops" ∈ nwL := List.mem_of_getElem? (i := 3) rfl
theorem nwm_X4_108 : Cond.methodLinkNest RX4 108 yX7_put "NumberedLoops" ∈ nwL := List.mem_of_getElem? (i := 4) rfl
theorem nwm_X4_98 : Cond.methodLinkNest RX4 98 yX7_bit "NumberedLoops" ∈ nwL := List.mem_of_getElem? (i := 5) rfl
theorem nwm_X4_101 : Cond.methodLinkNest RX4 101 yX7_put_ "NumberedLoops" ∈ nwL := List.mem_of_getElem? (i := 6) rfl
theorem nwm_X4_132 : Cond.methodLinkNest RX4 132 yX7_at "NumberedLoops" ∈ nwL := List.mem_of_getElem? (i := 7) rfl
theorem nwm_X6_29 : Cond.methodLinkNest RX6 29 yX7_at "NumberedLoops" ∈ nwL := List.mem_of_getElem? (i := 8) rfl
theorem nwm_X0_21 : Cond.methodLinkNest RX0 21 yX7_bit "NumberedLoops" ∈ nwL := List.mem_of_getElem? (i := 9) rfl
theorem nwm_X5_40 : Cond.methodLinkNest RX5 40 yX7_put_ "NumberedLoops" ∈ nwL := List.mem_of_getElem? (i := 10) rfl
theorem nwm_X5_48 : Cond.methodLinkNest RX5 48 yX7_put "NumberedLoops" ∈ nwL := List.mem_of_getElem? (i := 11) rfl
theorem nwm_X3_105 : Cond.methodLinkNest RX3 105 yX7_bit "NumberedLoops" ∈ nwL := List.mem_of_getElem? (i := 12) rfl
theorem nwm_X5_51 : Cond.methodLinkNest RX5 51 yX7_at_ "NumberedLoops" ∈ nwL := List.mem_of_getElem? (i := 13) rfl
theorem nwm_X1_72 : Cond.methodLinkNest RX1 72 yX7_bit "NumberedLoops" ∈ nwL := List.mem_of_getElem? (i := 14) rfl
theorem nwm_X1_51 : Cond.methodLinkNest RX1 51 yX7_at_ "NumberedLoops" ∈ nwL := List.mem_of_getElem? (i := 15) rfl
theorem nwm_X5_29 : Cond.methodLinkNest RX5 29 yX7_at "NumberedLoops" ∈ nwL := List.mem_of_getElem? (i := 16) rfl
theorem bz_0 : bz 0 := rfl
theorem bz_1 : bz 1 := rfl
def bd {α β : Type} (a : α) (k : α → β) : β := k a
theorem bd_eq {α β : Type} {a u : α} {k : α → β} (h : a = u) : bd a k = k u := by subst h; rfl
def ushrI (x y : Int32) : Int32 := (x.toUInt32 >>> (y.toUInt32 &&& Int32.toUInt32 31)).toInt32
def ushrL (x : Int64) (y : Int32) : Int64 := (x.toUInt64 >>> (y.toInt64.toUInt64 &&& Int64.toUInt64 63)).toInt64
def shlL (x : Int64) (y : Int32) : Int64 := x <<< (y.toInt64 &&& 63)
def shrL (x : Int64) (y : Int32) : Int64 := x >>> (y.toInt64 &&& 63)
def maxI (x y : Int32) : Int32 := if x < y then y else x
def minI (x y : Int32) : Int32 := if y < x then y else x
theorem va_D_of {ad : Nat → Nat} {n : Nat} {ws : va_W} (h : ws.map (fun q => q.1) = (List.range n).map ad) (hi : ∀ i j, i < n → j < n → ad i = ad j → i = j) : va_D (fun q => ∃ k, k < n ∧ q = ad k) ws := by
  have key : ∀ (k : Nat) (q : Nat × va_E), ws[k]? = some q → k < n ∧ q.1 = ad k := by
    intro k q hq
    have h1 : (ws.map (fun q => q.1))[k]? = some q.1 := by rw [List.getElem?_map, hq]; rfl
    rw [h, List.getElem?_map] at h1
    rcases Nat.lt_or_ge k n with hk | hk
    · rw [List.getElem?_range hk] at h1
      exact ⟨hk, (Option.some.inj h1).symm⟩
    · rw [List.getElem?_eq_none (by simpa using hk)] at h1
      cases h1
  exact ⟨fun i j p q hp hq e => hi i j (key i p hp).1 (key j q hq).1 (by rw [← (key i p hp).2, ← (key j q hq).2]; exact e), fun k q hq => ⟨k, key k q hq⟩⟩
abbrev fuU (n : Nat) (b i : Int32) : Prop := 0 < n ∧ b.toInt - i.toInt < (n : Int) ∧ 0 ≤ i.toInt
def fu (b i : Int32) : Nat := (b.toInt - i.toInt).toNat + 1
theorem fuU_0 {b i : Int32} (h : 0 ≤ i.toInt) : fuU (fu b i) b i := ⟨Nat.succ_pos _, by unfold fu; omega, h⟩
theorem i32_inc {i b : Int32} (hc : i < b) : (i + 1).toInt = i.toInt + 1 := by
  have h1 := Int32.lt_iff_toInt_lt.mp hc
  have h2 := b.toInt_lt
  have h3 := i.le_toInt
  rw [Int32.toInt_add, show (1 : Int32).toInt = 1 from rfl]
  rw [Int.bmod_eq_of_le (by omega) (by omega)]
theorem i32_lt {i b : Int32} (hc : ¬ b ≤ i) : i < b := by
  rw [Int32.lt_iff_toInt_lt]; rw [Int32.le_iff_toInt_le] at hc; omega
theorem fuU_s {n : Nat} {b i : Int32} (h : fuU (n + 1) b i) (hc : ¬ b ≤ i) : fuU n b (i + 1) := by
  obtain ⟨h1, h2, h3⟩ := h
  have h4 := Int32.lt_iff_toInt_lt.mp (i32_lt hc)
  rw [fuU, i32_inc (i32_lt hc)]
  refine ⟨by omega, by omega, by omega⟩
theorem vin_g {i : Int32} {n : Nat} (hn : n < 2 ^ 31) (h0 : 0 ≤ i.toInt) (h1 : ¬ nI n ≤ i) : vp_in i n := by
  rw [vp_in_iff]
  have h2 := Int32.lt_iff_toInt_lt.mp (i32_lt h1)
  rw [nI_toInt hn] at h2
  exact ⟨h0, h2⟩
theorem vin_c {i b : Int32} {n : Nat} (h0 : 0 ≤ i.toInt) (h1 : ¬ b ≤ i) (hb : b.toInt ≤ n) : vp_in i n := by
  rw [vp_in_iff]
  have h2 := Int32.lt_iff_toInt_lt.mp (i32_lt h1)
  exact ⟨h0, by omega⟩
abbrev fuE (n : Nat) (b i : Int32) : Prop := 0 < n ∧ b.toInt + 1 - i.toInt < (n : Int) ∧ 0 ≤ i.toInt
def fue (b i : Int32) : Nat := (b.toInt + 1 - i.toInt).toNat + 1
theorem fuE_0 {b i : Int32} (h : 0 ≤ i.toInt) : fuE (fue b i) b i := ⟨Nat.succ_pos _, by unfold fue; omega, h⟩
theorem i32_inc2 {i : Int32} (hc : i.toInt < 2147483647) : (i + 1).toInt = i.toInt + 1 := by
  have h3 := i.le_toInt
  rw [Int32.toInt_add, show (1 : Int32).toInt = 1 from rfl]
  rw [Int.bmod_eq_of_le (by omega) (by omega)]
theorem fuE_s {n : Nat} {b i : Int32} (h : fuE (n + 1) b i) (hc : ¬ b < i) (hb : b.toInt < 2147483647) : fuE n b (i + 1) := by
  obtain ⟨h1, h2, h3⟩ := h
  rw [Int32.lt_iff_toInt_lt] at hc
  rw [fuE, i32_inc2 (by omega)]
  refine ⟨by omega, by omega, by omega⟩
theorem i32_nle {i b : Int32} (hc : i < b) : ¬ b ≤ i := by
  rw [Int32.le_iff_toInt_le]; rw [Int32.lt_iff_toInt_lt] at hc; omega
theorem sw_out8 {x : Int32} (h0 : ¬ x = 0) (h1 : ¬ x = 1) (h2 : ¬ x = 2) (h3 : ¬ x = 3) (h4 : ¬ x = 4) (h5 : ¬ x = 5) (h6 : ¬ x = 6) (h7 : ¬ x = 7) : x.toInt < 0 ∨ 7 < x.toInt := by
  have e : ∀ k : Int32, ¬ x = k → ¬ x.toInt = k.toInt := fun k h q => h (Int32.toInt_inj.mp q)
  have e0 := e 0 h0
  have e1 := e 1 h1
  have e2 := e 2 h2
  have e3 := e 3 h3
  have e4 := e 4 h4
  have e5 := e 5 h5
  have e6 := e 6 h6
  have e7 := e 7 h7
  rw [show (0 : Int32).toInt = 0 from rfl] at e0
  rw [show (1 : Int32).toInt = 1 from rfl] at e1
  rw [show (2 : Int32).toInt = 2 from rfl] at e2
  rw [show (3 : Int32).toInt = 3 from rfl] at e3
  rw [show (4 : Int32).toInt = 4 from rfl] at e4
  rw [show (5 : Int32).toInt = 5 from rfl] at e5
  rw [show (6 : Int32).toInt = 6 from rfl] at e6
  rw [show (7 : Int32).toInt = 7 from rfl] at e7
  omega
theorem sw_out3 {x : Int32} (h0 : ¬ x = 0) (h1 : ¬ x = 1) (h2 : ¬ x = 2) : x.toInt < 0 ∨ 2 < x.toInt := by
  have e : ∀ k : Int32, ¬ x = k → ¬ x.toInt = k.toInt := fun k h q => h (Int32.toInt_inj.mp q)
  have e0 := e 0 h0
  have e1 := e 1 h1
  have e2 := e 2 h2
  rw [show (0 : Int32).toInt = 0 from rfl] at e0
  rw [show (1 : Int32).toInt = 1 from rfl] at e1
  rw [show (2 : Int32).toInt = 2 from rfl] at e2
  omega
theorem nn_of {i : Int32} (h : ¬ i < 0) : 0 ≤ i.toInt := by
  rw [Int32.lt_iff_toInt_lt, Int32.toInt_zero] at h; omega
def cw (ad : Nat → Nat) (cI cL cZ : ClassId) (c_sr t_n t_r t_w s_w s_h s_c s_p s_s p_nx p_sz r_k r_r r_p l_z q_z : Int32) (t_t b_l b_b b_n r_t l_l l_b l_n q_l q_b q_n : Int64) (t_le s_cs s_ps s_ha s_en pk ik : Nat → Int32) (s_ro s_me s_be s_se s_co pl pb pn il ib im l_a q_a : Nat → Int64) : va_W := [(ad 0, .inr (7, [.ref (ad 1), .ref (ad 3), .ref (ad 13), .ref (ad 14), .ref (ad 20), .ref (ad 25), .ref (ad 26), .ref (ad 28), .int c_sr])), (ad 1, .inr (6, [.ref (ad 2), .int t_n, .int t_r, .int t_w, .long t_t])), (ad 2, .inl (cI, 40, .inl t_le)), (ad 3, .inr (4, [.int s_w, .int s_h, .int s_c, .int s_p, .int s_s, .ref (ad 4), .ref (ad 5), .ref (ad 6), .ref (ad 7), .ref (ad 8), .ref (ad 9), .ref (ad 10), .ref (ad 11), .ref (ad 12)])), (ad 4, .inl (cI, 64, .inl s_cs)), (ad 5, .inl (cI, 100, .inl s_ps)), (ad 6, .inl (cI, 80, .inl s_ha)), (ad 7, .inl (cI, 80, .inl s_en)), (ad 8, .inl (cL, 17, .inr (.inl s_ro))), (ad 9, .inl (cL, 25, .inr (.inl s_me))), (ad 10, .inl (cL, 40, .inr (.inl s_be))), (ad 11, .inl (cL, 16, .inr (.inl s_se))), (ad 12, .inl (cL, 16, .inr (.inl s_co))), (ad 13, .inr (0, [.long b_l, .long b_b, .long b_n])), (ad 14, .inr (2, [.ref (ad 15), .int p_nx, .int p_sz])), (ad 15, .inr (5, [.ref (ad 16), .ref (ad 17), .ref (ad 18), .ref (ad 19)])), (ad 16, .inl (cL, 10, .inr (.inl pl))), (ad 17, .inl (cL, 10, .inr (.inl pb))), (ad 18, .inl (cL, 10, .inr (.inl pn))), (ad 19, .inl (cI, 10, .inl pk)), (ad 20, .inr (5, [.ref (ad 21), .ref (ad 22), .ref (ad 23), .ref (ad 24)])), (ad 21, .inl (cL, 2, .inr (.inl il))), (ad 22, .inl (cL, 2, .inr (.inl ib))), (ad 23, .inl (cL, 2, .inr (.inl im))), (ad 24, .inl (cI, 2, .inl ik)), (ad 25, .inr (3, [.ref (ad 3), .ref (ad 13), .int r_k, .int r_r, .int r_p, .long r_t])), (ad 26, .inr (1, [.ref (ad 3), .ref (ad 27), .long l_l, .long l_b, .long l_n, .int l_z])), (ad 27, .inl (cL, 10000, .inr (.inl l_a))), (ad 28, .inr (1, [.ref (ad 3), .ref (ad 29), .long q_l, .long q_b, .long q_n, .int q_z])), (ad 29, .inl (cL, 2, .inr (.inl q_a)))]
def mw (ad : Nat → Nat) (cI cL cZ : ClassId) (m_w m_h m_c m_s m_le m_un m_he m_ro m_wi m_hi m_hr m_hp m_rn m_rw m_rh : Int32) (m_n m_l m_b m_to m_hs : Int64) (m_ho m_tx m_ik m_wt : Nat → Int32) (m_ac m_ap m_pa m_im m_ri : Nat → Int64) : va_W := [(ad 0, .inr (8, [.long m_n, .long m_l, .long m_b, .int m_w, .int m_h, .int m_c, .int m_s, .ref (ad 1), .ref (ad 2), .ref (ad 3), .ref (ad 4), .int m_le, .ref (ad 5), .int m_un, .ref (ad 6), .ref (ad 7), .int m_he, .int m_ro, .int m_wi, .long m_to, .int m_hi, .int m_hr, .int m_hp, .long m_hs, .ref (ad 8), .int m_rn, .int m_rw, .int m_rh, .ref (ad 9)])), (ad 1, .inl (cL, 16, .inr (.inl m_ac))), (ad 2, .inl (cL, 25, .inr (.inl m_ap))), (ad 3, .inl (cI, 80, .inl m_ho)), (ad 4, .inl (cI, 40, .inl m_tx)), (ad 5, .inl (cL, 30, .inr (.inl m_pa))), (ad 6, .inl (cL, 6, .inr (.inl m_im))), (ad 7, .inl (cZ, 2, .inl m_ik)), (ad 8, .inl (cL, 9400, .inr (.inl m_ri))), (ad 9, .inl (cI, 40, .inl m_wt))]
def cInj (ad : Nat → Nat) : Prop := ∀ i j, i < 30 → j < 30 → ad i = ad j → i = j
def cAd (ad : Nat → Nat) : Nat → Prop := fun q => ∃ k, k < 30 ∧ q = ad k
theorem cw_D {ad : Nat → Nat} {cI cL cZ : ClassId} {c_sr t_n t_r t_w s_w s_h s_c s_p s_s p_nx p_sz r_k r_r r_p l_z q_z : Int32} {t_t b_l b_b b_n r_t l_l l_b l_n q_l q_b q_n : Int64} {t_le s_cs s_ps s_ha s_en pk ik : Nat → Int32} {s_ro s_me s_be s_se s_co pl pb pn il ib im l_a q_a : Nat → Int64} (h : cInj ad) : va_D (cAd ad) (cw ad cI cL cZ c_sr t_n t_r t_w s_w s_h s_c s_p s_s p_nx p_sz r_k r_r r_p l_z q_z t_t b_l b_b b_n r_t l_l l_b l_n q_l q_b q_n t_le s_cs s_ps s_ha s_en pk ik s_ro s_me s_be s_se s_co pl pb pn il ib im l_a q_a) := va_D_of (n := 30) rfl h
def mInj (ad : Nat → Nat) : Prop := ∀ i j, i < 10 → j < 10 → ad i = ad j → i = j
def mAd (ad : Nat → Nat) : Nat → Prop := fun q => ∃ k, k < 10 ∧ q = ad k
theorem mw_D {ad : Nat → Nat} {cI cL cZ : ClassId} {m_w m_h m_c m_s m_le m_un m_he m_ro m_wi m_hi m_hr m_hp m_rn m_rw m_rh : Int32} {m_n m_l m_b m_to m_hs : Int64} {m_ho m_tx m_ik m_wt : Nat → Int32} {m_ac m_ap m_pa m_im m_ri : Nat → Int64} (h : mInj ad) : va_D (mAd ad) (mw ad cI cL cZ m_w m_h m_c m_s m_le m_un m_he m_ro m_wi m_hi m_hr m_hp m_rn m_rw m_rh m_n m_l m_b m_to m_hs m_ho m_tx m_ik m_wt m_ac m_ap m_pa m_im m_ri) := va_D_of (n := 10) rfl h
