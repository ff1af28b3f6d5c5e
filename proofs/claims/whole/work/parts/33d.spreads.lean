theorem F_37_ex {y1 y2 w h c s : Int32} {n0 l b : Int64} {ho : Nat → Int32} {ac ap : Nat → Int64} (hg : mG w h c s) (hy : pY y1 y2 c s w h) {β : Type} (k0 k1 : Int32 → Int32 → Int32 → Int64 → β) : ∀ (n : Nat) (x hi hr hp : Int32) (hs : Int64), fuU n y2 x → (∃ a b' c' d, F_X8_hints_37 y1 y2 w h c s n0 l b ho ac ap k0 k1 n x hi hr hp hs = k0 a b' c' d) ∨ (∃ a b' c' d, hI a d l b ∧ F_X8_hints_37 y1 y2 w h c s n0 l b ho ac ap k0 k1 n x hi hr hp hs = k1 a b' c' d) := by
  intro n
  induction n with
  | zero => intro x hi hr hp hs hf; exact absurd hf.1 (Nat.lt_irrefl 0)
  | succ n ih =>
    intro x hi hr hp hs hf
    rw [F_X8_hints_37]
    split
    · exact Or.inl ⟨_, _, _, _, rfl⟩
    · rename_i hc
      simp only [bd]
      split
      · exact ih _ _ _ _ _ (fuU_s hf hc)
      · rename_i h1
        exact Or.inr ⟨_, _, _, _, isAt_hI rfl hg (pB_of hy hf.2.2 hc) h1, rfl⟩
theorem F_2_ex {w h c s : Int32} {n0 l b : Int64} {ho : Nat → Int32} {ac ap : Nat → Int64} (hg : mG w h c s) {β : Type} (k0 k1 : Int32 → Int32 → Int32 → Int64 → β) : ∀ (n : Nat) (x hi hr hp : Int32) (hs : Int64), (∃ a b' c' d, F_X8_hints_2 w h c s n0 l b ho ac ap k0 k1 n x hi hr hp hs = k0 a b' c' d) ∨ (∃ a b' c' d, hI a d l b ∧ F_X8_hints_2 w h c s n0 l b ho ac ap k0 k1 n x hi hr hp hs = k1 a b' c' d) := by
  intro n
  induction n with
  | zero => intro x hi hr hp hs; exact Or.inl ⟨_, _, _, _, rfl⟩
  | succ n ih =>
    intro x hi hr hp hs
    rw [F_X8_hints_2]
    have key : ∀ (y : Int32), pY x y c s w h → (∃ a b' c' d, F_X8_hints_37 x y w h c s n0 l b ho ac ap (fun z18 z19 z20 z21 => F_X8_hints_2 w h c s n0 l b ho ac ap k0 k1 n (x + 1) z18 z19 z20 z21) (fun z22 z23 z24 z25 => k1 z22 z23 z24 z25) (fu y (0 : Int32)) 0 hi hr hp hs = k0 a b' c' d) ∨ (∃ a b' c' d, hI a d l b ∧ F_X8_hints_37 x y w h c s n0 l b ho ac ap (fun z18 z19 z20 z21 => F_X8_hints_2 w h c s n0 l b ho ac ap k0 k1 n (x + 1) z18 z19 z20 z21) (fun z22 z23 z24 z25 => k1 z22 z23 z24 z25) (fu y (0 : Int32)) 0 hi hr hp hs = k1 a b' c' d) := by
      intro y hy
      rcases F_37_ex (n0 := n0) (l := l) (b := b) (ho := ho) (ac := ac) (ap := ap) hg hy (fun z18 z19 z20 z21 => F_X8_hints_2 w h c s n0 l b ho ac ap k0 k1 n (x + 1) z18 z19 z20 z21) (fun z22 z23 z24 z25 => k1 z22 z23 z24 z25) (fu y (0 : Int32)) 0 hi hr hp hs (fuU_0 (by decide)) with ⟨a, b', c', d, e⟩ | ⟨a, b', c', d, hh, e⟩
      · rw [e]; exact ih _ _ _ _ _
      · rw [e]; exact Or.inr ⟨_, _, _, _, hh, rfl⟩
    split
    · exact Or.inl ⟨_, _, _, _, rfl⟩
    · split
      · exact key _ (pY_0 (by assumption))
      · split
        · exact key _ (pY_1 (by assumption))
        · exact key _ (pY_2 (by assumption) (by assumption))
theorem hints_hI {w h c s hi hr hp : Int32} {n0 l b hs : Int64} {ho : Nat → Int32} {ac ap : Nat → Int64} {u : Int32 × Int32 × Int32 × Int64} (hu : f_X8_hints w h c s hi hr hp n0 l b hs ho ac ap = u) (hg : mG w h c s) : hI u.1 u.2.2.2 l b := by
  rw [← hu, f_X8_hints]
  rcases F_2_ex (n0 := n0) (l := l) (b := b) (ho := ho) (ac := ac) (ap := ap) hg (fun z26 z27 z28 z29 => ((0 : Int32), z27, z28, (0 : Int64))) (fun z30 z31 z32 z33 => (z30, z31, z32, z33)) (fu 4 (0 : Int32)) 0 hi hr hp hs with ⟨a, b', c', d, e⟩ | ⟨a, b', c', d, hh, e⟩
  · rw [e]
    intro q
    rcases q with q | q <;> exact absurd (show (0 : Int32) = _ from q) (by decide)
  · rw [e]; exact hh
abbrev spC (n : Nat) (hi : Int32) (hs l b : Int64) : Prop := 0 < n ∧ 18446744073709551616 - (l ||| b).toBitVec.toNat < n ∧ hI hi hs l b
theorem sp_0 {hi : Int32} {hs l b : Int64} (h : hI hi hs l b) : spC (18446744073709551617 - (l ||| b).toBitVec.toNat) hi hs l b := by
  have h1 := (l ||| b).toBitVec.isLt
  exact ⟨by omega, by omega, h⟩
theorem sets_or {as : Int32} {hs l b : Int64} (ha : as = 1 ∨ as = 2) (hd : hs &&& (l ||| b) = 0) : (f_X8_sets hs as l b).1 ||| (f_X8_sets hs as l b).2 = (l ||| b) ||| hs := by
  have hk : ∀ k, (bt hs k && (bt l k || bt b k)) = false := fun k => by rw [← bt_or, ← bt_and, hd, bt_zero]
  apply bt_ext
  intro k hk64
  have h1 := hk k
  rcases ha with rfl | rfl
  · unfold f_X8_sets
    simp only [if_pos, if_neg (show ¬ (1 : Int32) = 2 by decide), bt_or, bt_and, bt_not _ hk64]
    cases bt hs k <;> cases bt l k <;> cases bt b k <;> simp_all
  · unfold f_X8_sets
    simp only [if_pos, if_neg (show ¬ (2 : Int32) = 1 by decide), bt_or, bt_and, bt_not _ hk64]
    cases bt hs k <;> cases bt l k <;> cases bt b k <;> simp_all
theorem or_lt {x y : Int64} (h0 : y ≠ 0) (hd : y &&& x = 0) : x.toBitVec.toNat < (x ||| y).toBitVec.toNat := by
  have h1 := or_le x y
  rcases Nat.lt_or_ge x.toBitVec.toNat (x ||| y).toBitVec.toNat with h | h
  · exact h
  · exfalso
    have e : x ||| y = x := Int64.toBitVec_inj.mp (BitVec.eq_of_toNat_eq (by omega))
    apply h0
    apply bt_ext
    intro k _
    have h2 : bt (x ||| y) k = bt x k := by rw [e]
    have h3 : bt (y &&& x) k = false := by rw [hd, bt_zero]
    rw [bt_or] at h2
    rw [bt_and] at h3
    rw [bt_zero]
    revert h2 h3
    cases bt x k <;> cases bt y k <;> simp
theorem sp_s {n : Nat} {hi as : Int32} {hs l b : Int64} {u : Int64 × Int64} {hi' : Int32} {hs' : Int64} (hf : spC (n + 1) hi hs l b) (hh : hi = 1 ∨ hi = 2) (ha : as = 1 ∨ as = 2) (hu : f_X8_sets hs as l b = u) (h' : hI hi' hs' u.1 u.2) : spC n hi' hs' u.1 u.2 := by
  obtain ⟨h1, h2, h3⟩ := hf
  obtain ⟨h4, h5⟩ := h3 hh
  have e := sets_or ha h5
  rw [hu] at e
  have h6 := or_lt h4 h5
  have h7 := ((l ||| b) ||| hs).toBitVec.isLt
  rw [spC, e]
  exact ⟨by omega, by omega, h'⟩
theorem hd_X8_spreads : yX8_spreads.cls = RX8 ∧ yX8_spreads.cls ≠ "java/lang/invoke/MethodHandle" ∧ yX8_spreads.cls ≠ "java/lang/invoke/VarHandle" ∧ (parseMethodDescriptor yX8_spreads.desc).map (fun d => d.parameters.length) = some 0 := by decide +kernel
def F_X8_spreads_10 (m_w : Int32) (m_h : Int32) (m_c : Int32) (m_s : Int32) (m_n : Int64) (m_ho : Nat → Int32) (m_ac : Nat → Int64) (m_ap : Nat → Int64) {β : Type} (k0 : Int32 → Int32 → Int32 → Int32 → Int64 → Int64 → Int64 → β) : Nat → Int32 → Int32 → Int32 → Int32 → Int64 → Int64 → Int64 → β
  | 0, x1, m_hi, m_hr, m_hp, m_l, m_b, m_hs => k0 x1 m_hi m_hr m_hp m_l m_b m_hs
  | n + 1, x1, m_hi, m_hr, m_hp, m_l, m_b, m_hs => (if m_hi = 1 then (if m_hi = 1 then (bd (f_X8_sets m_hs 2 m_l m_b) (fun u5 => (bd (f_X8_hints m_w m_h m_c m_s m_hi m_hr m_hp m_n u5.1 u5.2 m_hs m_ho m_ac m_ap) (fun u6 => F_X8_spreads_10 m_w m_h m_c m_s m_n m_ho m_ac m_ap k0 n (x1 + (f_X8_ones m_hs)) u6.1 u6.2.1 u6.2.2.1 u5.1 u5.2 u6.2.2.2)))) else (bd (f_X8_sets m_hs 1 m_l m_b) (fun u3 => (bd (f_X8_hints m_w m_h m_c m_s m_hi m_hr m_hp m_n u3.1 u3.2 m_hs m_ho m_ac m_ap) (fun u4 => F_X8_spreads_10 m_w m_h m_c m_s m_n m_ho m_ac m_ap k0 n (x1 + (f_X8_ones m_hs)) u4.1 u4.2.1 u4.2.2.1 u3.1 u3.2 u4.2.2.2))))) else (if m_hi = 2 then (if m_hi = 1 then (bd (f_X8_sets m_hs 2 m_l m_b) (fun u9 => (bd (f_X8_hints m_w m_h m_c m_s m_hi m_hr m_hp m_n u9.1 u9.2 m_hs m_ho m_ac m_ap) (fun u10 => F_X8_spreads_10 m_w m_h m_c m_s m_n m_ho m_ac m_ap k0 n (x1 + (f_X8_ones m_hs)) u10.1 u10.2.1 u10.2.2.1 u9.1 u9.2 u10.2.2.2)))) else (bd (f_X8_sets m_hs 1 m_l m_b) (fun u7 => (bd (f_X8_hints m_w m_h m_c m_s m_hi m_hr m_hp m_n u7.1 u7.2 m_hs m_ho m_ac m_ap) (fun u8 => F_X8_spreads_10 m_w m_h m_c m_s m_n m_ho m_ac m_ap k0 n (x1 + (f_X8_ones m_hs)) u8.1 u8.2.1 u8.2.2.1 u7.1 u7.2 u8.2.2.2))))) else k0 x1 m_hi m_hr m_hp m_l m_b m_hs))
def f_X8_spreads (m_w : Int32) (m_h : Int32) (m_c : Int32) (m_s : Int32) (m_un : Int32) (m_hi : Int32) (m_hr : Int32) (m_hp : Int32) (m_n : Int64) (m_l : Int64) (m_b : Int64) (m_hs : Int64) (m_ho : Nat → Int32) (m_ac : Nat → Int64) (m_ap : Nat → Int64) (m_pa : Nat → Int64) : Int32 × Int32 × Int32 × Int32 × Int32 × Int64 × Int64 × Int64 × (Nat → Int64) := (bd (f_X8_minds m_un m_n m_l m_b m_pa) (fun u1 => (bd (f_X8_hints m_w m_h m_c m_s m_hi m_hr m_hp m_n m_l m_b m_hs m_ho m_ac m_ap) (fun u2 => F_X8_spreads_10 m_w m_h m_c m_s m_n m_ho m_ac m_ap (fun z11 z12 z13 z14 z15 z16 z17 => (z11, u1.1, z12, z13, z14, z15, z16, z17, u1.2)) (18446744073709551617 - (m_l ||| m_b).toBitVec.toNat) 0 u2.1 u2.2.1 u2.2.2.1 m_l m_b u2.2.2.2))))
set_option maxHeartbeats 4000000 in
set_option maxRecDepth 100000 in
theorem lp_X8_spreads_10 (l : Launch) (D : va_G) (cI cL cZ : ClassId) (ad : Nat → Nat) (m_w m_h m_c m_s m_le m_un m_he m_ro m_wi m_rn m_rw m_rh : Int32) (m_n m_to : Int64) (m_ho m_tx m_ik m_wt : Nat → Int32) (m_ac m_ap m_pa m_im m_ri : Nat → Int64) {p : Program} {e : Env} {s : State} {m : MethodId} {args : Array Value} {below : List Frame} {meth : Method} {c : Code} {Q : State → Prop} (C : Cx p s m args meth c cX8_spreads 2 (some .int) W0 RX8 D cI cL cZ) (hAd : mInj ad) (hg : mG m_w m_h m_c m_s) {β : Type} (k0 : Int32 → Int32 → Int32 → Int32 → Int64 → Int64 → Int64 → β) (r : β)
    (h0 : ∀ (e1 m_hi m_hr m_hp : Int32) (m_l m_b m_hs : Int64) (H : Heap) (locs : List Loc) (ls : Array Slot), k0 e1 m_hi m_hr m_hp m_l m_b m_hs = r → va_P D vwCl (mw ad cI cL cZ m_w m_h m_c m_s m_le m_un m_he m_ro m_wi m_hi m_hr m_hp m_rn m_rw m_rh m_n m_l m_b m_to m_hs m_ho m_tx m_ik m_wt m_ac m_ap m_pa m_im m_ri) H → va_S (mAd ad) s.heap H locs → lv_has ls 2 [(1, .int e1)] → W p l e (rmS 6 142) s m args below meth c H locs 0 0 Q (F0 m 64 ls [])) :
    ∀ (n : Nat) (x1 m_hi m_hr m_hp : Int32) (m_l m_b m_hs : Int64) (H : Heap) (locs : List Loc) (ls : Array Slot), spC n m_hi m_hs m_l m_b → F_X8_spreads_10 m_w m_h m_c m_s m_n m_ho m_ac m_ap k0 n x1 m_hi m_hr m_hp m_l m_b m_hs = r → va_P D vwCl (mw ad cI cL cZ m_w m_h m_c m_s m_le m_un m_he m_ro m_wi m_hi m_hr m_hp m_rn m_rw m_rh m_n m_l m_b m_to m_hs m_ho m_tx m_ik m_wt m_ac m_ap m_pa m_im m_ri) H → va_S (mAd ad) s.heap H locs → lv_has ls 2 [(0, .ref (ad 0)), (1, .int x1)] → W p l e (rmS 6 142) s m args below meth c H locs 0 0 Q (F0 m 10 ls []) := by
  obtain ⟨hx, hb, hml, hrt, hlocks, hown, hts, hk⟩ := C
  intro n
  induction n with
  | zero =>
    intro x1 m_hi m_hr m_hp m_l m_b m_hs H locs ls hf
    exact absurd hf.1 (Nat.lt_irrefl 0)
  | succ n ih =>
    intro x1 m_hi m_hr m_hp m_l m_b m_hs H locs ls hf hr hP hS hl
    rw [F_X8_spreads_10] at hr
    refine lv_aload_n hx hb dX8_spreads_10 rfl (lv_at hl 0 rfl) ?_
    refine va_get (D := D) (ci := 8) (v := .int m_hi) (C := RX8) (T := TX8) (N := 29) hx hb hts u_X8 hown hk.1 hP 0 rfl rfl 20 (by decide) (hts _ q4_32) (fun _ h9 => h9) rfl dX8_spreads_11 ?_
    refine lv_iconst (v := 1) hx hb dX8_spreads_14 (by decide) ?_
    refine lv_icmp_eq (tgt := 26) hx hb dX8_spreads_15 (by decide) (fun c15 => ?_) (fun c15 => ?_)
    · have hr := (if_pos c15).symm.trans hr
      refine lv_iload_n hx hb dX8_spreads_26 rfl (lv_at hl 1 rfl) ?_
      refine lv_aload_n hx hb dX8_spreads_27 rfl (lv_at hl 0 rfl) ?_
      refine va_get (D := D) (ci := 8) (v := .long m_hs) (C := RX8) (T := TX8) (N := 29) hx hb hts u_X8 hown hk.1 hP 0 rfl rfl 23 (by decide) (hts _ q4_35) (fun _ h9 => h9) rfl dX8_spreads_28 ?_
      refine go_i (ru_S (n := 1) ⟨hx, hb, hml, hown, hts⟩ hk hP (c_X8_ones l D cI cL cZ (mAd ad) (mw ad cI cL cZ m_w m_h m_c m_s m_le m_un m_he m_ro m_wi m_hi m_hr m_hp m_rn m_rw m_rh m_n m_l m_b m_to m_hs m_ho m_tx m_ik m_wt m_ac m_ap m_pa m_im m_ri) m_hs _ rfl) (va_cwS 1 hts (gS q4_213 q4_214 q1_11 q4_215) rfl rfl rfl hd_X8_ones ⟨Nat.le_of_ble_eq_true rfl, Nat.le_of_ble_eq_true rfl⟩) rfl hl.1 rfl (Nat.le_of_ble_eq_true rfl) dX8_spreads_31 ⟨Nat.zero_le _, Nat.zero_le _⟩) hS (fun _ h => h) (fun H locs hP hS => ?_)
      have hP : va_P D vwCl (mw ad cI cL cZ m_w m_h m_c m_s m_le m_un m_he m_ro m_wi m_hi m_hr m_hp m_rn m_rw m_rh m_n m_l m_b m_to m_hs m_ho m_tx m_ik m_wt m_ac m_ap m_pa m_im m_ri) H := hP
      refine lv_iadd hx hb dX8_spreads_34 ?_
      refine lv_istore_n (lv' := [(1, .int (x1 + (f_X8_ones m_hs))), (0, .ref (ad 0))]) hx hb dX8_spreads_35 rfl hl (by decide) rfl (fun ls hl => ?_)
      refine lv_aload_n hx hb dX8_spreads_36 rfl (lv_at hl 1 rfl) ?_
      refine lv_aload_n hx hb dX8_spreads_37 rfl (lv_at hl 1 rfl) ?_
      refine va_get (D := D) (ci := 8) (v := .long m_hs) (C := RX8) (T := TX8) (N := 29) hx hb hts u_X8 hown hk.1 hP 0 rfl rfl 23 (by decide) (hts _ q4_35) (fun _ h9 => h9) rfl dX8_spreads_38 ?_
      refine lv_aload_n hx hb dX8_spreads_41 rfl (lv_at hl 1 rfl) ?_
      refine va_get (D := D) (ci := 8) (v := .int m_hi) (C := RX8) (T := TX8) (N := 29) hx hb hts u_X8 hown hk.1 hP 0 rfl rfl 20 (by decide) (hts _ q4_32) (fun _ h9 => h9) rfl dX8_spreads_42 ?_
      refine lv_iconst (v := 1) hx hb dX8_spreads_45 (by decide) ?_
      refine lv_icmp_ne (tgt := 53) hx hb dX8_spreads_46 (by decide) (fun c46 => ?_) (fun c46 => ?_)
      · have hr := (if_neg c46).symm.trans hr
        refine lv_iconst (v := 1) hx hb dX8_spreads_53 (by decide) ?_
        obtain ⟨u3, hu3⟩ : ∃ z, f_X8_sets m_hs 1 m_l m_b = z := ⟨_, rfl⟩
        have hr := (bd_eq hu3).symm.trans hr
        refine go_v (ru_V (n := 2) ⟨hx, hb, hml, hown, hts⟩ hk hP (c_X8_sets l D cI cL cZ ad m_w m_h m_c m_s m_le m_un m_he m_ro m_wi m_hi m_hr m_hp m_rn m_rw m_rh m_n m_l m_b m_to m_hs m_ho m_tx m_ik m_wt m_ac m_ap m_pa m_im m_ri hAd m_hs 1 _ hu3) (cwV 2 hts (gV q4_183 q4_185 qs3_15 q1_11 q4_186) rfl rfl rfl hd_X8_sets ⟨Nat.le_of_ble_eq_true rfl, Nat.le_of_ble_eq_true rfl⟩) (va_recv hk.1 hP (ci := 8) (q0 := 0) rfl rfl) rfl hl.1 rfl (Nat.le_of_ble_eq_true rfl) dX8_spreads_54 ⟨Nat.zero_le _, Nat.zero_le _⟩) hS (fun _ h => h) (fun H locs hP hS => ?_)
        have hP : va_P D vwCl (mw ad cI cL cZ m_w m_h m_c m_s m_le m_un m_he m_ro m_wi m_hi m_hr m_hp m_rn m_rw m_rh m_n u3.1 u3.2 m_to m_hs m_ho m_tx m_ik m_wt m_ac m_ap m_pa m_im m_ri) H := hP
        refine lv_aload_n hx hb dX8_spreads_57 rfl (lv_at hl 1 rfl) ?_
        obtain ⟨u4, hu4⟩ : ∃ z, f_X8_hints m_w m_h m_c m_s m_hi m_hr m_hp m_n u3.1 u3.2 m_hs m_ho m_ac m_ap = z := ⟨_, rfl⟩
        have hr := (bd_eq hu4).symm.trans hr
        refine go_v (ru_V (n := 0) ⟨hx, hb, hml, hown, hts⟩ hk hP (c_X8_hints l D cI cL cZ ad m_w m_h m_c m_s m_le m_un m_he m_ro m_wi m_hi m_hr m_hp m_rn m_rw m_rh m_n u3.1 u3.2 m_to m_hs m_ho m_tx m_ik m_wt m_ac m_ap m_pa m_im m_ri hAd _ hu4 hg) (cwV 0 hts (gV q4_201 q4_203 qs4_1 q1_11 q4_204) rfl rfl rfl hd_X8_hints ⟨Nat.le_of_ble_eq_true rfl, Nat.le_of_ble_eq_true rfl⟩) (va_recv hk.1 hP (ci := 8) (q0 := 0) rfl rfl) rfl hl.1 rfl (Nat.le_of_ble_eq_true rfl) dX8_spreads_58 ⟨Nat.zero_le _, Nat.zero_le _⟩) hS (fun _ h => h) (fun H locs hP hS => ?_)
        have hP : va_P D vwCl (mw ad cI cL cZ m_w m_h m_c m_s m_le m_un m_he m_ro m_wi u4.1 u4.2.1 u4.2.2.1 m_rn m_rw m_rh m_n u3.1 u3.2 m_to u4.2.2.2 m_ho m_tx m_ik m_wt m_ac m_ap m_pa m_im m_ri) H := hP
        refine lv_goto (tgt := 10) hx hb dX8_spreads_61 (by decide) ?_
        exact ih (x1 + (f_X8_ones m_hs)) u4.1 u4.2.1 u4.2.2.1 u3.1 u3.2 u4.2.2.2 _ _ _ (by first | exact sp_s hf (Or.inl c15) (Or.inr rfl) hu5 (hints_hI hu6 hg) | exact sp_s hf (Or.inl c15) (Or.inr rfl) hu3 (hints_hI hu4 hg) | exact sp_s hf (Or.inl c15) (Or.inr rfl) hu9 (hints_hI hu10 hg) | exact sp_s hf (Or.inl c15) (Or.inr rfl) hu7 (hints_hI hu8 hg) | exact sp_s hf (Or.inl c15) (Or.inr rfl) hu4 (hints_hI hu5 hg) | exact sp_s hf (Or.inl c15) (Or.inr rfl) hu6 (hints_hI hu7 hg) | exact sp_s hf (Or.inl c15) (Or.inr rfl) hu8 (hints_hI hu9 hg) | exact sp_s hf (Or.inl c15) (Or.inr rfl) hu10 (hints_hI hu11 hg) | exact sp_s hf (Or.inl c15) (Or.inr rfl) hu11 (hints_hI hu12 hg) | exact sp_s hf (Or.inl c15) (Or.inl rfl) hu5 (hints_hI hu6 hg) | exact sp_s hf (Or.inl c15) (Or.inl rfl) hu3 (hints_hI hu4 hg) | exact sp_s hf (Or.inl c15) (Or.inl rfl) hu9 (hints_hI hu10 hg) | exact sp_s hf (Or.inl c15) (Or.inl rfl) hu7 (hints_hI hu8 hg) | exact sp_s hf (Or.inl c15) (Or.inl rfl) hu4 (hints_hI hu5 hg) | exact sp_s hf (Or.inl c15) (Or.inl rfl) hu6 (hints_hI hu7 hg) | exact sp_s hf (Or.inl c15) (Or.inl rfl) hu8 (hints_hI hu9 hg) | exact sp_s hf (Or.inl c15) (Or.inl rfl) hu10 (hints_hI hu11 hg) | exact sp_s hf (Or.inl c15) (Or.inl rfl) hu11 (hints_hI hu12 hg) | exact sp_s hf (Or.inr c23) (Or.inr rfl) hu5 (hints_hI hu6 hg) | exact sp_s hf (Or.inr c23) (Or.inr rfl) hu3 (hints_hI hu4 hg) | exact sp_s hf (Or.inr c23) (Or.inr rfl) hu9 (hints_hI hu10 hg) | exact sp_s hf (Or.inr c23) (Or.inr rfl) hu7 (hints_hI hu8 hg) | exact sp_s hf (Or.inr c23) (Or.inr rfl) hu4 (hints_hI hu5 hg) | exact sp_s hf (Or.inr c23) (Or.inr rfl) hu6 (hints_hI hu7 hg) | exact sp_s hf (Or.inr c23) (Or.inr rfl) hu8 (hints_hI hu9 hg) | exact sp_s hf (Or.inr c23) (Or.inr rfl) hu10 (hints_hI hu11 hg) | exact sp_s hf (Or.inr c23) (Or.inr rfl) hu11 (hints_hI hu12 hg) | exact sp_s hf (Or.inr c23) (Or.inl rfl) hu5 (hints_hI hu6 hg) | exact sp_s hf (Or.inr c23) (Or.inl rfl) hu3 (hints_hI hu4 hg) | exact sp_s hf (Or.inr c23) (Or.inl rfl) hu9 (hints_hI hu10 hg) | exact sp_s hf (Or.inr c23) (Or.inl rfl) hu7 (hints_hI hu8 hg) | exact sp_s hf (Or.inr c23) (Or.inl rfl) hu4 (hints_hI hu5 hg) | exact sp_s hf (Or.inr c23) (Or.inl rfl) hu6 (hints_hI hu7 hg) | exact sp_s hf (Or.inr c23) (Or.inl rfl) hu8 (hints_hI hu9 hg) | exact sp_s hf (Or.inr c23) (Or.inl rfl) hu10 (hints_hI hu11 hg) | exact sp_s hf (Or.inr c23) (Or.inl rfl) hu11 (hints_hI hu12 hg)) hr hP hS (lv_sub hl [1, 0] rfl)
      · have hr := (if_pos c46).symm.trans hr
        refine lv_iconst (v := 2) hx hb dX8_spreads_49 (by decide) ?_
        refine lv_goto (tgt := 54) hx hb dX8_spreads_50 (by decide) ?_
        obtain ⟨u5, hu5⟩ : ∃ z, f_X8_sets m_hs 2 m_l m_b = z := ⟨_, rfl⟩
        have hr := (bd_eq hu5).symm.trans hr
        refine go_v (ru_V (n := 2) ⟨hx, hb, hml, hown, hts⟩ hk hP (c_X8_sets l D cI cL cZ ad m_w m_h m_c m_s m_le m_un m_he m_ro m_wi m_hi m_hr m_hp m_rn m_rw m_rh m_n m_l m_b m_to m_hs m_ho m_tx m_ik m_wt m_ac m_ap m_pa m_im m_ri hAd m_hs 2 _ hu5) (cwV 2 hts (gV q4_183 q4_185 qs3_15 q1_11 q4_186) rfl rfl rfl hd_X8_sets ⟨Nat.le_of_ble_eq_true rfl, Nat.le_of_ble_eq_true rfl⟩) (va_recv hk.1 hP (ci := 8) (q0 := 0) rfl rfl) rfl hl.1 rfl (Nat.le_of_ble_eq_true rfl) dX8_spreads_54 ⟨Nat.zero_le _, Nat.zero_le _⟩) hS (fun _ h => h) (fun H locs hP hS => ?_)
        have hP : va_P D vwCl (mw ad cI cL cZ m_w m_h m_c m_s m_le m_un m_he m_ro m_wi m_hi m_hr m_hp m_rn m_rw m_rh m_n u5.1 u5.2 m_to m_hs m_ho m_tx m_ik m_wt m_ac m_ap m_pa m_im m_ri) H := hP
        refine lv_aload_n hx hb dX8_spreads_57 rfl (lv_at hl 1 rfl) ?_
        obtain ⟨u6, hu6⟩ : ∃ z, f_X8_hints m_w m_h m_c m_s m_hi m_hr m_hp m_n u5.1 u5.2 m_hs m_ho m_ac m_ap = z := ⟨_, rfl⟩
        have hr := (bd_eq hu6).symm.trans hr
        refine go_v (ru_V (n := 0) ⟨hx, hb, hml, hown, hts⟩ hk hP (c_X8_hints l D cI cL cZ ad m_w m_h m_c m_s m_le m_un m_he m_ro m_wi m_hi m_hr m_hp m_rn m_rw m_rh m_n u5.1 u5.2 m_to m_hs m_ho m_tx m_ik m_wt m_ac m_ap m_pa m_im m_ri hAd _ hu6 hg) (cwV 0 hts (gV q4_201 q4_203 qs4_1 q1_11 q4_204) rfl rfl rfl hd_X8_hints ⟨Nat.le_of_ble_eq_true rfl, Nat.le_of_ble_eq_true rfl⟩) (va_recv hk.1 hP (ci := 8) (q0 := 0) rfl rfl) rfl hl.1 rfl (Nat.le_of_ble_eq_true rfl) dX8_spreads_58 ⟨Nat.zero_le _, Nat.zero_le _⟩) hS (fun _ h => h) (fun H locs hP hS => ?_)
        have hP : va_P D vwCl (mw ad cI cL cZ m_w m_h m_c m_s m_le m_un m_he m_ro m_wi u6.1 u6.2.1 u6.2.2.1 m_rn m_rw m_rh m_n u5.1 u5.2 m_to u6.2.2.2 m_ho m_tx m_ik m_wt m_ac m_ap m_pa m_im m_ri) H := hP
        refine lv_goto (tgt := 10) hx hb dX8_spreads_61 (by decide) ?_
        exact ih (x1 + (f_X8_ones m_hs)) u6.1 u6.2.1 u6.2.2.1 u5.1 u5.2 u6.2.2.2 _ _ _ (by first | exact sp_s hf (Or.inl c15) (Or.inr rfl) hu5 (hints_hI hu6 hg) | exact sp_s hf (Or.inl c15) (Or.inr rfl) hu3 (hints_hI hu4 hg) | exact sp_s hf (Or.inl c15) (Or.inr rfl) hu9 (hints_hI hu10 hg) | exact sp_s hf (Or.inl c15) (Or.inr rfl) hu7 (hints_hI hu8 hg) | exact sp_s hf (Or.inl c15) (Or.inr rfl) hu4 (hints_hI hu5 hg) | exact sp_s hf (Or.inl c15) (Or.inr rfl) hu6 (hints_hI hu7 hg) | exact sp_s hf (Or.inl c15) (Or.inr rfl) hu8 (hints_hI hu9 hg) | exact sp_s hf (Or.inl c15) (Or.inr rfl) hu10 (hints_hI hu11 hg) | exact sp_s hf (Or.inl c15) (Or.inr rfl) hu11 (hints_hI hu12 hg) | exact sp_s hf (Or.inl c15) (Or.inl rfl) hu5 (hints_hI hu6 hg) | exact sp_s hf (Or.inl c15) (Or.inl rfl) hu3 (hints_hI hu4 hg) | exact sp_s hf (Or.inl c15) (Or.inl rfl) hu9 (hints_hI hu10 hg) | exact sp_s hf (Or.inl c15) (Or.inl rfl) hu7 (hints_hI hu8 hg) | exact sp_s hf (Or.inl c15) (Or.inl rfl) hu4 (hints_hI hu5 hg) | exact sp_s hf (Or.inl c15) (Or.inl rfl) hu6 (hints_hI hu7 hg) | exact sp_s hf (Or.inl c15) (Or.inl rfl) hu8 (hints_hI hu9 hg) | exact sp_s hf (Or.inl c15) (Or.inl rfl) hu10 (hints_hI hu11 hg) | exact sp_s hf (Or.inl c15) (Or.inl rfl) hu11 (hints_hI hu12 hg) | exact sp_s hf (Or.inr c23) (Or.inr rfl) hu5 (hints_hI hu6 hg) | exact sp_s hf (Or.inr c23) (Or.inr rfl) hu3 (hints_hI hu4 hg) | exact sp_s hf (Or.inr c23) (Or.inr rfl) hu9 (hints_hI hu10 hg) | exact sp_s hf (Or.inr c23) (Or.inr rfl) hu7 (hints_hI hu8 hg) | exact sp_s hf (Or.inr c23) (Or.inr rfl) hu4 (hints_hI hu5 hg) | exact sp_s hf (Or.inr c23) (Or.inr rfl) hu6 (hints_hI hu7 hg) | exact sp_s hf (Or.inr c23) (Or.inr rfl) hu8 (hints_hI hu9 hg) | exact sp_s hf (Or.inr c23) (Or.inr rfl) hu10 (hints_hI hu11 hg) | exact sp_s hf (Or.inr c23) (Or.inr rfl) hu11 (hints_hI hu12 hg) | exact sp_s hf (Or.inr c23) (Or.inl rfl) hu5 (hints_hI hu6 hg) | exact sp_s hf (Or.inr c23) (Or.inl rfl) hu3 (hints_hI hu4 hg) | exact sp_s hf (Or.inr c23) (Or.inl rfl) hu9 (hints_hI hu10 hg) | exact sp_s hf (Or.inr c23) (Or.inl rfl) hu7 (hints_hI hu8 hg) | exact sp_s hf (Or.inr c23) (Or.inl rfl) hu4 (hints_hI hu5 hg) | exact sp_s hf (Or.inr c23) (Or.inl rfl) hu6 (hints_hI hu7 hg) | exact sp_s hf (Or.inr c23) (Or.inl rfl) hu8 (hints_hI hu9 hg) | exact sp_s hf (Or.inr c23) (Or.inl rfl) hu10 (hints_hI hu11 hg) | exact sp_s hf (Or.inr c23) (Or.inl rfl) hu11 (hints_hI hu12 hg)) hr hP hS (lv_sub hl [1, 0] rfl)
    · have hr := (if_neg c15).symm.trans hr
      refine lv_aload_n hx hb dX8_spreads_18 rfl (lv_at hl 0 rfl) ?_
      refine va_get (D := D) (ci := 8) (v := .int m_hi) (C := RX8) (T := TX8) (N := 29) hx hb hts u_X8 hown hk.1 hP 0 rfl rfl 20 (by decide) (hts _ q4_32) (fun _ h9 => h9) rfl dX8_spreads_19 ?_
      refine lv_iconst (v := 2) hx hb dX8_spreads_22 (by decide) ?_
      refine lv_icmp_ne (tgt := 64) hx hb dX8_spreads_23 (by decide) (fun c23 => ?_) (fun c23 => ?_)
      · have hr := (if_neg c23).symm.trans hr
        exact h0 x1 m_hi m_hr m_hp m_l m_b m_hs _ _ _ hr hP hS (lv_sub hl [1] rfl)
      · have hr := (if_pos c23).symm.trans hr
        refine lv_iload_n hx hb dX8_spreads_26 rfl (lv_at hl 1 rfl) ?_
        refine lv_aload_n hx hb dX8_spreads_27 rfl (lv_at hl 0 rfl) ?_
        refine va_get (D := D) (ci := 8) (v := .long m_hs) (C := RX8) (T := TX8) (N := 29) hx hb hts u_X8 hown hk.1 hP 0 rfl rfl 23 (by decide) (hts _ q4_35) (fun _ h9 => h9) rfl dX8_spreads_28 ?_
        refine go_i (ru_S (n := 1) ⟨hx, hb, hml, hown, hts⟩ hk hP (c_X8_ones l D cI cL cZ (mAd ad) (mw ad cI cL cZ m_w m_h m_c m_s m_le m_un m_he m_ro m_wi m_hi m_hr m_hp m_rn m_rw m_rh m_n m_l m_b m_to m_hs m_ho m_tx m_ik m_wt m_ac m_ap m_pa m_im m_ri) m_hs _ rfl) (va_cwS 1 hts (gS q4_213 q4_214 q1_11 q4_215) rfl rfl rfl hd_X8_ones ⟨Nat.le_of_ble_eq_true rfl, Nat.le_of_ble_eq_true rfl⟩) rfl hl.1 rfl (Nat.le_of_ble_eq_true rfl) dX8_spreads_31 ⟨Nat.zero_le _, Nat.zero_le _⟩) hS (fun _ h => h) (fun H locs hP hS => ?_)
        have hP : va_P D vwCl (mw ad cI cL cZ m_w m_h m_c m_s m_le m_un m_he m_ro m_wi m_hi m_hr m_hp m_rn m_rw m_rh m_n m_l m_b m_to m_hs m_ho m_tx m_ik m_wt m_ac m_ap m_pa m_im m_ri) H := hP
        refine lv_iadd hx hb dX8_spreads_34 ?_
        refine lv_istore_n (lv' := [(1, .int (x1 + (f_X8_ones m_hs))), (0, .ref (ad 0))]) hx hb dX8_spreads_35 rfl hl (by decide) rfl (fun ls hl => ?_)
        refine lv_aload_n hx hb dX8_spreads_36 rfl (lv_at hl 1 rfl) ?_
        refine lv_aload_n hx hb dX8_spreads_37 rfl (lv_at hl 1 rfl) ?_
        refine va_get (D := D) (ci := 8) (v := .long m_hs) (C := RX8) (T := TX8) (N := 29) hx hb hts u_X8 hown hk.1 hP 0 rfl rfl 23 (by decide) (hts _ q4_35) (fun _ h9 => h9) rfl dX8_spreads_38 ?_
        refine lv_aload_n hx hb dX8_spreads_41 rfl (lv_at hl 1 rfl) ?_
        refine va_get (D := D) (ci := 8) (v := .int m_hi) (C := RX8) (T := TX8) (N := 29) hx hb hts u_X8 hown hk.1 hP 0 rfl rfl 20 (by decide) (hts _ q4_32) (fun _ h9 => h9) rfl dX8_spreads_42 ?_
        refine lv_iconst (v := 1) hx hb dX8_spreads_45 (by decide) ?_
        refine lv_icmp_ne (tgt := 53) hx hb dX8_spreads_46 (by decide) (fun c46 => ?_) (fun c46 => ?_)
        · have hr := (if_neg c46).symm.trans hr
          refine lv_iconst (v := 1) hx hb dX8_spreads_53 (by decide) ?_
          obtain ⟨u7, hu7⟩ : ∃ z, f_X8_sets m_hs 1 m_l m_b = z := ⟨_, rfl⟩
          have hr := (bd_eq hu7).symm.trans hr
          refine go_v (ru_V (n := 2) ⟨hx, hb, hml, hown, hts⟩ hk hP (c_X8_sets l D cI cL cZ ad m_w m_h m_c m_s m_le m_un m_he m_ro m_wi m_hi m_hr m_hp m_rn m_rw m_rh m_n m_l m_b m_to m_hs m_ho m_tx m_ik m_wt m_ac m_ap m_pa m_im m_ri hAd m_hs 1 _ hu7) (cwV 2 hts (gV q4_183 q4_185 qs3_15 q1_11 q4_186) rfl rfl rfl hd_X8_sets ⟨Nat.le_of_ble_eq_true rfl, Nat.le_of_ble_eq_true rfl⟩) (va_recv hk.1 hP (ci := 8) (q0 := 0) rfl rfl) rfl hl.1 rfl (Nat.le_of_ble_eq_true rfl) dX8_spreads_54 ⟨Nat.zero_le _, Nat.zero_le _⟩) hS (fun _ h => h) (fun H locs hP hS => ?_)
          have hP : va_P D vwCl (mw ad cI cL cZ m_w m_h m_c m_s m_le m_un m_he m_ro m_wi m_hi m_hr m_hp m_rn m_rw m_rh m_n u7.1 u7.2 m_to m_hs m_ho m_tx m_ik m_wt m_ac m_ap m_pa m_im m_ri) H := hP
          refine lv_aload_n hx hb dX8_spreads_57 rfl (lv_at hl 1 rfl) ?_
          obtain ⟨u8, hu8⟩ : ∃ z, f_X8_hints m_w m_h m_c m_s m_hi m_hr m_hp m_n u7.1 u7.2 m_hs m_ho m_ac m_ap = z := ⟨_, rfl⟩
          have hr := (bd_eq hu8).symm.trans hr
          refine go_v (ru_V (n := 0) ⟨hx, hb, hml, hown, hts⟩ hk hP (c_X8_hints l D cI cL cZ ad m_w m_h m_c m_s m_le m_un m_he m_ro m_wi m_hi m_hr m_hp m_rn m_rw m_rh m_n u7.1 u7.2 m_to m_hs m_ho m_tx m_ik m_wt m_ac m_ap m_pa m_im m_ri hAd _ hu8 hg) (cwV 0 hts (gV q4_201 q4_203 qs4_1 q1_11 q4_204) rfl rfl rfl hd_X8_hints ⟨Nat.le_of_ble_eq_true rfl, Nat.le_of_ble_eq_true rfl⟩) (va_recv hk.1 hP (ci := 8) (q0 := 0) rfl rfl) rfl hl.1 rfl (Nat.le_of_ble_eq_true rfl) dX8_spreads_58 ⟨Nat.zero_le _, Nat.zero_le _⟩) hS (fun _ h => h) (fun H locs hP hS => ?_)
          have hP : va_P D vwCl (mw ad cI cL cZ m_w m_h m_c m_s m_le m_un m_he m_ro m_wi u8.1 u8.2.1 u8.2.2.1 m_rn m_rw m_rh m_n u7.1 u7.2 m_to u8.2.2.2 m_ho m_tx m_ik m_wt m_ac m_ap m_pa m_im m_ri) H := hP
          refine lv_goto (tgt := 10) hx hb dX8_spreads_61 (by decide) ?_
          exact ih (x1 + (f_X8_ones m_hs)) u8.1 u8.2.1 u8.2.2.1 u7.1 u7.2 u8.2.2.2 _ _ _ (by first | exact sp_s hf (Or.inl c15) (Or.inr rfl) hu5 (hints_hI hu6 hg) | exact sp_s hf (Or.inl c15) (Or.inr rfl) hu3 (hints_hI hu4 hg) | exact sp_s hf (Or.inl c15) (Or.inr rfl) hu9 (hints_hI hu10 hg) | exact sp_s hf (Or.inl c15) (Or.inr rfl) hu7 (hints_hI hu8 hg) | exact sp_s hf (Or.inl c15) (Or.inr rfl) hu4 (hints_hI hu5 hg) | exact sp_s hf (Or.inl c15) (Or.inr rfl) hu6 (hints_hI hu7 hg) | exact sp_s hf (Or.inl c15) (Or.inr rfl) hu8 (hints_hI hu9 hg) | exact sp_s hf (Or.inl c15) (Or.inr rfl) hu10 (hints_hI hu11 hg) | exact sp_s hf (Or.inl c15) (Or.inr rfl) hu11 (hints_hI hu12 hg) | exact sp_s hf (Or.inl c15) (Or.inl rfl) hu5 (hints_hI hu6 hg) | exact sp_s hf (Or.inl c15) (Or.inl rfl) hu3 (hints_hI hu4 hg) | exact sp_s hf (Or.inl c15) (Or.inl rfl) hu9 (hints_hI hu10 hg) | exact sp_s hf (Or.inl c15) (Or.inl rfl) hu7 (hints_hI hu8 hg) | exact sp_s hf (Or.inl c15) (Or.inl rfl) hu4 (hints_hI hu5 hg) | exact sp_s hf (Or.inl c15) (Or.inl rfl) hu6 (hints_hI hu7 hg) | exact sp_s hf (Or.inl c15) (Or.inl rfl) hu8 (hints_hI hu9 hg) | exact sp_s hf (Or.inl c15) (Or.inl rfl) hu10 (hints_hI hu11 hg) | exact sp_s hf (Or.inl c15) (Or.inl rfl) hu11 (hints_hI hu12 hg) | exact sp_s hf (Or.inr c23) (Or.inr rfl) hu5 (hints_hI hu6 hg) | exact sp_s hf (Or.inr c23) (Or.inr rfl) hu3 (hints_hI hu4 hg) | exact sp_s hf (Or.inr c23) (Or.inr rfl) hu9 (hints_hI hu10 hg) | exact sp_s hf (Or.inr c23) (Or.inr rfl) hu7 (hints_hI hu8 hg) | exact sp_s hf (Or.inr c23) (Or.inr rfl) hu4 (hints_hI hu5 hg) | exact sp_s hf (Or.inr c23) (Or.inr rfl) hu6 (hints_hI hu7 hg) | exact sp_s hf (Or.inr c23) (Or.inr rfl) hu8 (hints_hI hu9 hg) | exact sp_s hf (Or.inr c23) (Or.inr rfl) hu10 (hints_hI hu11 hg) | exact sp_s hf (Or.inr c23) (Or.inr rfl) hu11 (hints_hI hu12 hg) | exact sp_s hf (Or.inr c23) (Or.inl rfl) hu5 (hints_hI hu6 hg) | exact sp_s hf (Or.inr c23) (Or.inl rfl) hu3 (hints_hI hu4 hg) | exact sp_s hf (Or.inr c23) (Or.inl rfl) hu9 (hints_hI hu10 hg) | exact sp_s hf (Or.inr c23) (Or.inl rfl) hu7 (hints_hI hu8 hg) | exact sp_s hf (Or.inr c23) (Or.inl rfl) hu4 (hints_hI hu5 hg) | exact sp_s hf (Or.inr c23) (Or.inl rfl) hu6 (hints_hI hu7 hg) | exact sp_s hf (Or.inr c23) (Or.inl rfl) hu8 (hints_hI hu9 hg) | exact sp_s hf (Or.inr c23) (Or.inl rfl) hu10 (hints_hI hu11 hg) | exact sp_s hf (Or.inr c23) (Or.inl rfl) hu11 (hints_hI hu12 hg)) hr hP hS (lv_sub hl [1, 0] rfl)
        · have hr := (if_pos c46).symm.trans hr
          refine lv_iconst (v := 2) hx hb dX8_spreads_49 (by decide) ?_
          refine lv_goto (tgt := 54) hx hb dX8_spreads_50 (by decide) ?_
          obtain ⟨u9, hu9⟩ : ∃ z, f_X8_sets m_hs 2 m_l m_b = z := ⟨_, rfl⟩
          have hr := (bd_eq hu9).symm.trans hr
          refine go_v (ru_V (n := 2) ⟨hx, hb, hml, hown, hts⟩ hk hP (c_X8_sets l D cI cL cZ ad m_w m_h m_c m_s m_le m_un m_he m_ro m_wi m_hi m_hr m_hp m_rn m_rw m_rh m_n m_l m_b m_to m_hs m_ho m_tx m_ik m_wt m_ac m_ap m_pa m_im m_ri hAd m_hs 2 _ hu9) (cwV 2 hts (gV q4_183 q4_185 qs3_15 q1_11 q4_186) rfl rfl rfl hd_X8_sets ⟨Nat.le_of_ble_eq_true rfl, Nat.le_of_ble_eq_true rfl⟩) (va_recv hk.1 hP (ci := 8) (q0 := 0) rfl rfl) rfl hl.1 rfl (Nat.le_of_ble_eq_true rfl) dX8_spreads_54 ⟨Nat.zero_le _, Nat.zero_le _⟩) hS (fun _ h => h) (fun H locs hP hS => ?_)
          have hP : va_P D vwCl (mw ad cI cL cZ m_w m_h m_c m_s m_le m_un m_he m_ro m_wi m_hi m_hr m_hp m_rn m_rw m_rh m_n u9.1 u9.2 m_to m_hs m_ho m_tx m_ik m_wt m_ac m_ap m_pa m_im m_ri) H := hP
          refine lv_aload_n hx hb dX8_spreads_57 rfl (lv_at hl 1 rfl) ?_
          obtain ⟨u10, hu10⟩ : ∃ z, f_X8_hints m_w m_h m_c m_s m_hi m_hr m_hp m_n u9.1 u9.2 m_hs m_ho m_ac m_ap = z := ⟨_, rfl⟩
          have hr := (bd_eq hu10).symm.trans hr
          refine go_v (ru_V (n := 0) ⟨hx, hb, hml, hown, hts⟩ hk hP (c_X8_hints l D cI cL cZ ad m_w m_h m_c m_s m_le m_un m_he m_ro m_wi m_hi m_hr m_hp m_rn m_rw m_rh m_n u9.1 u9.2 m_to m_hs m_ho m_tx m_ik m_wt m_ac m_ap m_pa m_im m_ri hAd _ hu10 hg) (cwV 0 hts (gV q4_201 q4_203 qs4_1 q1_11 q4_204) rfl rfl rfl hd_X8_hints ⟨Nat.le_of_ble_eq_true rfl, Nat.le_of_ble_eq_true rfl⟩) (va_recv hk.1 hP (ci := 8) (q0 := 0) rfl rfl) rfl hl.1 rfl (Nat.le_of_ble_eq_true rfl) dX8_spreads_58 ⟨Nat.zero_le _, Nat.zero_le _⟩) hS (fun _ h => h) (fun H locs hP hS => ?_)
          have hP : va_P D vwCl (mw ad cI cL cZ m_w m_h m_c m_s m_le m_un m_he m_ro m_wi u10.1 u10.2.1 u10.2.2.1 m_rn m_rw m_rh m_n u9.1 u9.2 m_to u10.2.2.2 m_ho m_tx m_ik m_wt m_ac m_ap m_pa m_im m_ri) H := hP
          refine lv_goto (tgt := 10) hx hb dX8_spreads_61 (by decide) ?_
          exact ih (x1 + (f_X8_ones m_hs)) u10.1 u10.2.1 u10.2.2.1 u9.1 u9.2 u10.2.2.2 _ _ _ (by first | exact sp_s hf (Or.inl c15) (Or.inr rfl) hu5 (hints_hI hu6 hg) | exact sp_s hf (Or.inl c15) (Or.inr rfl) hu3 (hints_hI hu4 hg) | exact sp_s hf (Or.inl c15) (Or.inr rfl) hu9 (hints_hI hu10 hg) | exact sp_s hf (Or.inl c15) (Or.inr rfl) hu7 (hints_hI hu8 hg) | exact sp_s hf (Or.inl c15) (Or.inr rfl) hu4 (hints_hI hu5 hg) | exact sp_s hf (Or.inl c15) (Or.inr rfl) hu6 (hints_hI hu7 hg) | exact sp_s hf (Or.inl c15) (Or.inr rfl) hu8 (hints_hI hu9 hg) | exact sp_s hf (Or.inl c15) (Or.inr rfl) hu10 (hints_hI hu11 hg) | exact sp_s hf (Or.inl c15) (Or.inr rfl) hu11 (hints_hI hu12 hg) | exact sp_s hf (Or.inl c15) (Or.inl rfl) hu5 (hints_hI hu6 hg) | exact sp_s hf (Or.inl c15) (Or.inl rfl) hu3 (hints_hI hu4 hg) | exact sp_s hf (Or.inl c15) (Or.inl rfl) hu9 (hints_hI hu10 hg) | exact sp_s hf (Or.inl c15) (Or.inl rfl) hu7 (hints_hI hu8 hg) | exact sp_s hf (Or.inl c15) (Or.inl rfl) hu4 (hints_hI hu5 hg) | exact sp_s hf (Or.inl c15) (Or.inl rfl) hu6 (hints_hI hu7 hg) | exact sp_s hf (Or.inl c15) (Or.inl rfl) hu8 (hints_hI hu9 hg) | exact sp_s hf (Or.inl c15) (Or.inl rfl) hu10 (hints_hI hu11 hg) | exact sp_s hf (Or.inl c15) (Or.inl rfl) hu11 (hints_hI hu12 hg) | exact sp_s hf (Or.inr c23) (Or.inr rfl) hu5 (hints_hI hu6 hg) | exact sp_s hf (Or.inr c23) (Or.inr rfl) hu3 (hints_hI hu4 hg) | exact sp_s hf (Or.inr c23) (Or.inr rfl) hu9 (hints_hI hu10 hg) | exact sp_s hf (Or.inr c23) (Or.inr rfl) hu7 (hints_hI hu8 hg) | exact sp_s hf (Or.inr c23) (Or.inr rfl) hu4 (hints_hI hu5 hg) | exact sp_s hf (Or.inr c23) (Or.inr rfl) hu6 (hints_hI hu7 hg) | exact sp_s hf (Or.inr c23) (Or.inr rfl) hu8 (hints_hI hu9 hg) | exact sp_s hf (Or.inr c23) (Or.inr rfl) hu10 (hints_hI hu11 hg) | exact sp_s hf (Or.inr c23) (Or.inr rfl) hu11 (hints_hI hu12 hg) | exact sp_s hf (Or.inr c23) (Or.inl rfl) hu5 (hints_hI hu6 hg) | exact sp_s hf (Or.inr c23) (Or.inl rfl) hu3 (hints_hI hu4 hg) | exact sp_s hf (Or.inr c23) (Or.inl rfl) hu9 (hints_hI hu10 hg) | exact sp_s hf (Or.inr c23) (Or.inl rfl) hu7 (hints_hI hu8 hg) | exact sp_s hf (Or.inr c23) (Or.inl rfl) hu4 (hints_hI hu5 hg) | exact sp_s hf (Or.inr c23) (Or.inl rfl) hu6 (hints_hI hu7 hg) | exact sp_s hf (Or.inr c23) (Or.inl rfl) hu8 (hints_hI hu9 hg) | exact sp_s hf (Or.inr c23) (Or.inl rfl) hu10 (hints_hI hu11 hg) | exact sp_s hf (Or.inr c23) (Or.inl rfl) hu11 (hints_hI hu12 hg)) hr hP hS (lv_sub hl [1, 0] rfl)
set_option maxHeartbeats 4000000 in
set_option maxRecDepth 100000 in
theorem c_X8_spreads (l : Launch) (D : va_G) (cI cL cZ : ClassId) (ad : Nat → Nat) (m_w m_h m_c m_s m_le m_un m_he m_ro m_wi m_hi m_hr m_hp m_rn m_rw m_rh : Int32) (m_n m_l m_b m_to m_hs : Int64) (m_ho m_tx m_ik m_wt : Nat → Int32) (m_ac m_ap m_pa m_im m_ri : Nat → Int64) (hAd : mInj ad) (r : Int32 × Int32 × Int32 × Int32 × Int32 × Int64 × Int64 × Int64 × (Nat → Int64)) (hr : f_X8_spreads m_w m_h m_c m_s m_un m_hi m_hr m_hp m_n m_l m_b m_hs m_ho m_ac m_ap m_pa = r) (hg : mG m_w m_h m_c m_s) (hu0 : 0 ≤ m_un.toInt) (hu : m_un.toInt ≤ 10) : MI l yX8_spreads (Cond.code yX8_spreads cX8_spreads 2 (some .int) :: W0) 6 142 D cI cL cZ (mAd ad) [.ref (ad 0)] (mw ad cI cL cZ m_w m_h m_c m_s m_le m_un m_he m_ro m_wi m_hi m_hr m_hp m_rn m_rw m_rh m_n m_l m_b m_to m_hs m_ho m_tx m_ik m_wt m_ac m_ap m_pa m_im m_ri) r.1 (mw ad cI cL cZ m_w m_h m_c m_s m_le r.2.1 m_he m_ro m_wi r.2.2.1 r.2.2.2.1 r.2.2.2.2.1 m_rn m_rw m_rh m_n r.2.2.2.2.2.1 r.2.2.2.2.2.2.1 m_to r.2.2.2.2.2.2.2.1 m_ho m_tx m_ik m_wt m_ac m_ap r.2.2.2.2.2.2.2.2 m_im m_ri) := by
  refine mk_start (cc := cX8_spreads) (maxL := 2) (ret := (some .int)) (by decide) rfl (Nat.le_of_ble_eq_true rfl) ?_
  intro p e s m below meth c ls C hP hS hl
  obtain ⟨hx, hb, hml, hrt, hlocks, hown, hts, hk⟩ := C
  have hown : s.vm.findClass RX8 = some m.cls := hown
  have hl : lv_has ls 2 [(0, .ref (ad 0))] := hl
  rw [f_X8_spreads] at hr
  refine lv_aload_n hx hb dX8_spreads_0 rfl (lv_at hl 0 rfl) ?_
  obtain ⟨u1, hu1⟩ : ∃ z, f_X8_minds m_un m_n m_l m_b m_pa = z := ⟨_, rfl⟩
  have hr := (bd_eq hu1).symm.trans hr
  refine go_v (ru_V (n := 0) ⟨hx, hb, hml, hown, hts⟩ hk hP (c_X8_minds l D cI cL cZ ad m_w m_h m_c m_s m_le m_un m_he m_ro m_wi m_hi m_hr m_hp m_rn m_rw m_rh m_n m_l m_b m_to m_hs m_ho m_tx m_ik m_wt m_ac m_ap m_pa m_im m_ri hAd _ hu1 hu0 hu) (cwV 0 hts (gV q4_179 q4_181 qs3_14 q1_11 q4_182) rfl rfl rfl hd_X8_minds ⟨Nat.le_of_ble_eq_true rfl, Nat.le_of_ble_eq_true rfl⟩) (va_recv hk.1 hP (ci := 8) (q0 := 0) rfl rfl) rfl hl.1 rfl (Nat.le_of_ble_eq_true rfl) dX8_spreads_1 ⟨Nat.zero_le _, Nat.zero_le _⟩) hS (fun _ h => h) (fun H locs hP hS => ?_)
  have hP : va_P D vwCl (mw ad cI cL cZ m_w m_h m_c m_s m_le u1.1 m_he m_ro m_wi m_hi m_hr m_hp m_rn m_rw m_rh m_n m_l m_b m_to m_hs m_ho m_tx m_ik m_wt m_ac m_ap u1.2 m_im m_ri) H := hP
  refine lv_iconst (v := 0) hx hb dX8_spreads_4 (by decide) ?_
  refine lv_istore_n (lv' := [(1, .int 0), (0, .ref (ad 0))]) hx hb dX8_spreads_5 rfl hl (by decide) rfl (fun ls hl => ?_)
  refine lv_aload_n hx hb dX8_spreads_6 rfl (lv_at hl 1 rfl) ?_
  obtain ⟨u2, hu2⟩ : ∃ z, f_X8_hints m_w m_h m_c m_s m_hi m_hr m_hp m_n m_l m_b m_hs m_ho m_ac m_ap = z := ⟨_, rfl⟩
  have hr := (bd_eq hu2).symm.trans hr
  refine go_v (ru_V (n := 0) ⟨hx, hb, hml, hown, hts⟩ hk hP (c_X8_hints l D cI cL cZ ad m_w m_h m_c m_s m_le u1.1 m_he m_ro m_wi m_hi m_hr m_hp m_rn m_rw m_rh m_n m_l m_b m_to m_hs m_ho m_tx m_ik m_wt m_ac m_ap u1.2 m_im m_ri hAd _ hu2 hg) (cwV 0 hts (gV q4_201 q4_203 qs4_1 q1_11 q4_204) rfl rfl rfl hd_X8_hints ⟨Nat.le_of_ble_eq_true rfl, Nat.le_of_ble_eq_true rfl⟩) (va_recv hk.1 hP (ci := 8) (q0 := 0) rfl rfl) rfl hl.1 rfl (Nat.le_of_ble_eq_true rfl) dX8_spreads_7 ⟨Nat.zero_le _, Nat.zero_le _⟩) hS (fun _ h => h) (fun H locs hP hS => ?_)
  have hP : va_P D vwCl (mw ad cI cL cZ m_w m_h m_c m_s m_le u1.1 m_he m_ro m_wi u2.1 u2.2.1 u2.2.2.1 m_rn m_rw m_rh m_n m_l m_b m_to u2.2.2.2 m_ho m_tx m_ik m_wt m_ac m_ap u1.2 m_im m_ri) H := hP
  refine lp_X8_spreads_10 l D cI cL cZ ad m_w m_h m_c m_s m_le u1.1 m_he m_ro m_wi m_rn m_rw m_rh m_n m_to m_ho m_tx m_ik m_wt m_ac m_ap u1.2 m_im m_ri ⟨hx, hb, hml, hrt, hlocks, hown, hts, hk⟩ hAd hg _ _ (fun z11 z12 z13 z14 z15 z16 z17 H locs ls hr hP hS hl => ?_) (18446744073709551617 - (m_l ||| m_b).toBitVec.toNat) 0 u2.1 u2.2.1 u2.2.2.1 m_l m_b u2.2.2.2 _ _ _ (sp_0 (hints_hI hu2 hg)) hr hP hS (lv_sub hl [1, 0] rfl)
  refine lv_iload_n hx hb dX8_spreads_64 rfl (lv_at hl 0 rfl) ?_
  subst hr
  exact ret_i hx hb hrt hlocks hP hS dX8_spreads_65
