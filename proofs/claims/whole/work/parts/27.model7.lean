theorem ne40 {x : Int32} (h : ¬ x = 40) (hl : x.toInt ≤ 40) : x.toInt < ((40 : Nat) : Int) := by
  have e : ¬ x.toInt = (40 : Int32).toInt := fun q => h (Int32.toInt_inj.mp q)
  rw [show (40 : Int32).toInt = 40 from rfl] at e
  show x.toInt < 40
  omega
theorem F_35_ex {β : Type} (k : (Nat → Int64) → (Nat → Int64) → β) : ∀ (n : Nat) (x : Int32) (a b : Nat → Int64), ∃ a' b', F_X8_laysGrid_35 k n x a b = k a' b' := by
  intro n
  induction n with
  | zero => intro x a b; exact ⟨_, _, rfl⟩
  | succ n ih =>
    intro x a b
    rw [F_X8_laysGrid_35]
    repeat' split
    all_goals first | exact ⟨_, _, rfl⟩ | exact ih _ _ _
theorem F_83_ex (y w h : Int32) {β : Type} (k : (Nat → Int32) → (Nat → Int64) → (Nat → Int64) → β) : ∀ (n : Nat) (x : Int32) (o : Nat → Int32) (a b : Nat → Int64), ∃ o' a' b', F_X8_laysGrid_83 y w h k n x o a b = k o' a' b' := by
  intro n
  induction n with
  | zero => intro x o a b; exact ⟨_, _, _, rfl⟩
  | succ n ih =>
    intro x o a b
    rw [F_X8_laysGrid_83]
    split
    · exact ⟨_, _, _, rfl⟩
    · exact ih _ _ _ _
theorem F_161_ex (y w h : Int32) {β : Type} (k : (Nat → Int32) → (Nat → Int64) → (Nat → Int64) → β) : ∀ (n : Nat) (x : Int32) (o : Nat → Int32) (a b : Nat → Int64), ∃ o' a' b', F_X8_laysGrid_161 y w h k n x o a b = k o' a' b' := by
  intro n
  induction n with
  | zero => intro x o a b; exact ⟨_, _, _, rfl⟩
  | succ n ih =>
    intro x o a b
    rw [F_X8_laysGrid_161]
    split
    · exact ⟨_, _, _, rfl⟩
    · exact ih _ _ _ _
theorem F_73_ex (w h : Int32) {β : Type} (k : (Nat → Int32) → (Nat → Int64) → (Nat → Int64) → β) : ∀ (n : Nat) (x : Int32) (o : Nat → Int32) (a b : Nat → Int64), ∃ o' a' b', F_X8_laysGrid_73 w h k n x o a b = k o' a' b' := by
  intro n
  induction n with
  | zero => intro x o a b; exact ⟨_, _, _, rfl⟩
  | succ n ih =>
    intro x o a b
    rw [F_X8_laysGrid_73]
    split
    · exact ⟨_, _, _, rfl⟩
    · obtain ⟨o', a', b', e⟩ := F_83_ex x w h (fun z4 z5 z6 => F_X8_laysGrid_73 w h k n (x + 1) z4 z5 z6) (fu w 0) 0 o a b
      rw [e]
      exact ih _ _ _ _
theorem F_151_ex (w h : Int32) {β : Type} (k : (Nat → Int32) → (Nat → Int64) → (Nat → Int64) → β) : ∀ (n : Nat) (x : Int32) (o : Nat → Int32) (a b : Nat → Int64), ∃ o' a' b', F_X8_laysGrid_151 w h k n x o a b = k o' a' b' := by
  intro n
  induction n with
  | zero => intro x o a b; exact ⟨_, _, _, rfl⟩
  | succ n ih =>
    intro x o a b
    rw [F_X8_laysGrid_151]
    split
    · exact ⟨_, _, _, rfl⟩
    · obtain ⟨o', a', b', e⟩ := F_161_ex x w h (fun z4 z5 z6 => F_X8_laysGrid_151 w h k n (x + 1) z4 z5 z6) (fue w 0) 0 o a b
      rw [e]
      exact ih _ _ _ _
theorem lays_cs {w h : Int32} {o : Nat → Int32} {a b : Nat → Int64} {u : Int32 × Int32 × (Nat → Int32) × (Nat → Int64) × (Nat → Int64)} (hu : f_X8_laysGrid w h o a b = u) : u.1 = w * h ∧ u.2.1 = 2 * (w * h) + w + h := by
  rw [← hu, f_X8_laysGrid]
  obtain ⟨a1, b1, e⟩ := F_35_ex (fun z1 z2 => F_X8_laysGrid_73 w h (fun z7 z8 z9 => F_X8_laysGrid_151 w h (fun z14 z15 z16 => (w * h, ((2 * (w * h)) + w) + h, z14, z15, z16)) (fu h 0) 0 z7 z8 z9) (fue h 0) 0 o z1 z2) (fu 25 0) 0 a b
  rw [e]
  obtain ⟨o2, a2, b2, e⟩ := F_73_ex w h (fun z7 z8 z9 => F_X8_laysGrid_151 w h (fun z14 z15 z16 => (w * h, ((2 * (w * h)) + w) + h, z14, z15, z16)) (fu h 0) 0 z7 z8 z9) (fue h 0) 0 o a1 b1
  rw [e]
  obtain ⟨o3, a3, b3, e⟩ := F_151_ex w h (fun z14 z15 z16 => (w * h, ((2 * (w * h)) + w) + h, z14, z15, z16)) (fu h 0) 0 o2 a2 b2
  rw [e]
  exact ⟨rfl, rfl⟩
theorem wh_num : ∀ a b : Fin 5, 1 ≤ a.val → 1 ≤ b.val → ((0 ≤ (nI a.val * nI b.val).toInt ∧ (nI a.val * nI b.val).toInt ≤ 16) ∧ (0 ≤ (2 * (nI a.val * nI b.val) + nI a.val + nI b.val).toInt ∧ (2 * (nI a.val * nI b.val) + nI a.val + nI b.val).toInt ≤ 40) ∧ (0 ≤ ((nI a.val + 1) * (nI b.val + 1)).toInt ∧ ((nI a.val + 1) * (nI b.val + 1)).toInt ≤ 25)) ∧ ¬ nI a.val = 0 ∧ ¬ nI a.val + 1 = 0 := by decide +kernel
theorem wh_nums {w h : Int32} (hg : wh w h) : ((0 ≤ (w * h).toInt ∧ (w * h).toInt ≤ 16) ∧ (0 ≤ (2 * (w * h) + w + h).toInt ∧ (2 * (w * h) + w + h).toInt ≤ 40) ∧ (0 ≤ ((w + 1) * (h + 1)).toInt ∧ ((w + 1) * (h + 1)).toInt ≤ 25)) ∧ ¬ w = 0 ∧ ¬ w + 1 = 0 := by
  obtain ⟨a, b, ha, hb, rfl, rfl⟩ := wh_of hg
  exact wh_num a b ha hb
theorem vin_k {i : Int32} {m a : Nat} (hi : 0 ≤ i.toInt) (hm : i.toInt ≤ m) (hb : 3 * m + a < 1000000000) : (3 * i).toInt = 3 * i.toInt := by
  rw [mulT] <;> rw [show (3 : Int32).toInt = 3 from rfl] <;> omega
theorem vin3 {i : Int32} {m n : Nat} (hi : 0 ≤ i.toInt) (hm : i.toInt ≤ m) (hb : 3 * m < 1000000000) (hn : 3 * m + 2 < n) : vp_in (3 * i) n ∧ vp_in (3 * i + 1) n ∧ vp_in (3 * i + 2) n := by
  have e := vin_k (a := 0) hi hm (by omega)
  have e1 : (3 * i + 1).toInt = 3 * i.toInt + 1 := by rw [addT] <;> rw [e, show (1 : Int32).toInt = 1 from rfl] <;> omega
  have e2 : (3 * i + 2).toInt = 3 * i.toInt + 2 := by rw [addT] <;> rw [e, show (2 : Int32).toInt = 2 from rfl] <;> omega
  exact ⟨vin (by omega) (by omega), vin (by omega) (by omega), vin (by omega) (by omega)⟩
theorem vin_a3 {i : Int32} (h0 : 0 ≤ i.toInt) (h : ¬ (27 : Int32) ≤ i) : vp_in (i + 3) 30 := by
  have h1 := lt_tt h
  rw [show (27 : Int32).toInt = 27 from rfl] at h1
  have e1 : (i + 3).toInt = i.toInt + 3 := by rw [addT] <;> rw [show (3 : Int32).toInt = 3 from rfl] <;> omega
  exact vin (by omega) (by omega)
theorem mu_a {x : Int32} (h : x = 10) : 0 ≤ (x - 1).toInt ∧ (x - 1).toInt ≤ ((9 : Nat) : Int) := by subst h; decide
theorem mu_b {x : Int32} (h0 : 0 ≤ x.toInt) (h1 : x.toInt ≤ 10) (h : ¬ x = 10) : 0 ≤ x.toInt ∧ x.toInt ≤ ((9 : Nat) : Int) := by
  have e : ¬ x.toInt = (10 : Int32).toInt := fun q => h (Int32.toInt_inj.mp q)
  rw [show (10 : Int32).toInt = 10 from rfl] at e
  exact ⟨h0, by omega⟩
theorem mu_c {x : Int32} (h0 : 0 ≤ x.toInt) (h1 : x.toInt ≤ 10) (h : ¬ x = 0) : 0 ≤ (x - 1).toInt ∧ (x - 1).toInt ≤ ((9 : Nat) : Int) := by
  have e : ¬ x.toInt = (0 : Int32).toInt := fun q => h (Int32.toInt_inj.mp q)
  rw [show (0 : Int32).toInt = 0 from rfl] at e
  rw [subT] <;> rw [show (1 : Int32).toInt = 1 from rfl] <;> omega
theorem in_t {a b c : Int64} (h : ¬ f_X8_in a b c = 0) : b.toInt ≤ a.toInt ∧ a.toInt ≤ c.toInt := by
  unfold f_X8_in at h
  by_cases h1 : lg_cmp a b < 0
  · rw [if_pos h1] at h; exact absurd rfl h
  · rw [if_neg h1] at h
    by_cases h2 : 0 < lg_cmp a c
    · rw [if_pos h2] at h; exact absurd rfl h
    · rw [lg_cmp_lt, Int64.lt_iff_toInt_lt] at h1
      rw [lg_cmp_gt, Int64.lt_iff_toInt_lt] at h2
      omega
theorem in_01 {p : Int32} (h : ¬ f_X8_in p.toInt64 0 1 = 0) : 0 ≤ p.toInt ∧ p.toInt ≤ ((1 : Nat) : Int) := by
  have h1 := in_t h
  rw [Int32.toInt_toInt64, show (0 : Int64).toInt = 0 from rfl, show (1 : Int64).toInt = 1 from rfl] at h1
  exact h1
theorem hd_X8_type : yX8_type.cls = RX8 ∧ yX8_type.cls ≠ "java/lang/invoke/MethodHandle" ∧ yX8_type.cls ≠ "java/lang/invoke/VarHandle" ∧ (parseMethodDescriptor yX8_type.desc).map (fun d => d.parameters.length) = some 1 := by decide +kernel
def f_X8_type (p1 : Int32) (m_le : Int32) (m_tx : Nat → Int32) : Int32 × Int32 × (Nat → Int32) := (if (f_X8_in p1.toInt64 0 255) = 0 then ((-1), m_le, m_tx) else (if m_le = 40 then ((-3), m_le, m_tx) else (m_le + 1, m_le + 1, upd m_tx m_le.toNatClampNeg p1)))
set_option maxHeartbeats 4000000 in
set_option maxRecDepth 100000 in
theorem c_X8_type (l : Launch) (D : va_G) (cI cL cZ : ClassId) (ad : Nat → Nat) (m_w m_h m_c m_s m_le m_un m_he m_ro m_wi m_hi m_hr m_hp m_rn m_rw m_rh : Int32) (m_n m_l m_b m_to m_hs : Int64) (m_ho m_tx m_ik m_wt : Nat → Int32) (m_ac m_ap m_pa m_im m_ri : Nat → Int64) (hAd : mInj ad) (p1 : Int32) (r : Int32 × Int32 × (Nat → Int32)) (hr : f_X8_type p1 m_le m_tx = r) (hl0 : 0 ≤ m_le.toInt) (hlen : m_le.toInt ≤ 40) : MI l yX8_type (Cond.code yX8_type cX8_type 2 (some .int) :: W0) 1 25 D cI cL cZ (mAd ad) [.ref (ad 0), .int p1] (mw ad cI cL cZ m_w m_h m_c m_s m_le m_un m_he m_ro m_wi m_hi m_hr m_hp m_rn m_rw m_rh m_n m_l m_b m_to m_hs m_ho m_tx m_ik m_wt m_ac m_ap m_pa m_im m_ri) r.1 (mw ad cI cL cZ m_w m_h m_c m_s r.2.1 m_un m_he m_ro m_wi m_hi m_hr m_hp m_rn m_rw m_rh m_n m_l m_b m_to m_hs m_ho r.2.2 m_ik m_wt m_ac m_ap m_pa m_im m_ri) := by
  refine mk_start (cc := cX8_type) (maxL := 2) (ret := (some .int)) (by decide) rfl (Nat.le_of_ble_eq_true rfl) ?_
  intro p e s m below meth c ls C hP hS hl
  obtain ⟨hx, hb, hml, hrt, hlocks, hown, hts, hk⟩ := C
  have hown : s.vm.findClass RX8 = some m.cls := hown
  have hl : lv_has ls 2 [(0, .ref (ad 0)), (1, .int p1)] := hl
  rw [f_X8_type] at hr
  refine lv_iload_n hx hb dX8_type_0 rfl (lv_at hl 1 rfl) ?_
  refine lv_i2l hx hb dX8_type_1 rfl ?_
  refine lv_lconst (v := 0) hx hb dX8_type_2 (by decide) ?_
  refine lv_ldc2 hx hb hown (hts _ q4_105) dX8_type_3 ?_
  refine go_z (ru_S (n := 3) ⟨hx, hb, hml, hown, hts⟩ hk hP (c_X8_in l D cI cL cZ (mAd ad) (mw ad cI cL cZ m_w m_h m_c m_s m_le m_un m_he m_ro m_wi m_hi m_hr m_hp m_rn m_rw m_rh m_n m_l m_b m_to m_hs m_ho m_tx m_ik m_wt m_ac m_ap m_pa m_im m_ri) p1.toInt64 0 255 _ rfl) (va_cwS 3 hts (gS q4_1 q4_2 q1_11 q4_3) rfl rfl rfl hd_X8_in ⟨Nat.le_of_ble_eq_true rfl, Nat.le_of_ble_eq_true rfl⟩) rfl hl.1 rfl (Nat.le_of_ble_eq_true rfl) dX8_type_6 ⟨Nat.zero_le _, Nat.zero_le _⟩) hS (fun _ h => h) (fun H locs hz6 hP hS => ?_)
  have hP : va_P D vwCl (mw ad cI cL cZ m_w m_h m_c m_s m_le m_un m_he m_ro m_wi m_hi m_hr m_hp m_rn m_rw m_rh m_n m_l m_b m_to m_hs m_ho m_tx m_ik m_wt m_ac m_ap m_pa m_im m_ri) H := hP
  refine lv_if_ne (tgt := 14) hx hb dX8_type_9 (by decide) (fun c9 => ?_) (fun c9 => ?_)
  · have hr := (if_neg c9).symm.trans hr
    refine lv_aload_n hx hb dX8_type_14 rfl (lv_at hl 0 rfl) ?_
    refine va_get (D := D) (ci := 8) (v := .int m_le) (C := RX8) (T := TX8) (N := 29) hx hb hts u_X8 hown hk.1 hP 0 rfl rfl 11 (by decide) (hts _ q4_23) (fun _ h9 => h9) rfl dX8_type_15 ?_
    refine lv_bipush (v := 40) hx hb dX8_type_18 (by decide) ?_
    refine lv_icmp_ne (tgt := 26) hx hb dX8_type_20 (by decide) (fun c20 => ?_) (fun c20 => ?_)
    · have hr := (if_neg c20).symm.trans hr
      refine lv_aload_n hx hb dX8_type_26 rfl (lv_at hl 0 rfl) ?_
      refine va_get (D := D) (ci := 8) (v := .ref (ad 4)) (C := RX8) (T := TX8) (N := 29) hx hb hts u_X8 hown hk.1 hP 0 rfl rfl 10 (by decide) (hts _ q4_22) (fun _ h9 => h9) rfl dX8_type_27 ?_
      refine lv_aload_n hx hb dX8_type_30 rfl (lv_at hl 0 rfl) ?_
      refine va_get (D := D) (ci := 8) (v := .int m_le) (C := RX8) (T := TX8) (N := 29) hx hb hts u_X8 hown hk.1 hP 0 rfl rfl 11 (by decide) (hts _ q4_23) (fun _ h9 => h9) rfl dX8_type_31 ?_
      refine lv_iload_n hx hb dX8_type_34 rfl (lv_at hl 1 rfl) ?_
      refine va_iast hx hb hk.1 hP (mw_D hAd) hS 4 0 (rfl) rfl (vin hl0 (ne40 c20 hlen)) dX8_type_35 (fun H locs hP _ hS => ?_)
      have hP : va_P D vwCl (mw ad cI cL cZ m_w m_h m_c m_s m_le m_un m_he m_ro m_wi m_hi m_hr m_hp m_rn m_rw m_rh m_n m_l m_b m_to m_hs m_ho (upd m_tx m_le.toNatClampNeg p1) m_ik m_wt m_ac m_ap m_pa m_im m_ri) H := hP
      refine lv_aload_n hx hb dX8_type_36 rfl (lv_at hl 0 rfl) ?_
      refine lv_dup hx hb dX8_type_37 rfl ?_
      refine va_get (D := D) (ci := 8) (v := .int m_le) (C := RX8) (T := TX8) (N := 29) hx hb hts u_X8 hown hk.1 hP 0 rfl rfl 11 (by decide) (hts _ q4_23) (fun _ h9 => h9) rfl dX8_type_38 ?_
      refine lv_iconst (v := 1) hx hb dX8_type_41 (by decide) ?_
      refine lv_iadd hx hb dX8_type_42 ?_
      refine va_put (D := D) (ci := 8) (v := .int (m_le + 1)) (ty := .int) (C := RX8) (T := TX8) (N := 29) hx hb hts u_X8 tyX8 tyX8_ok nmX8 hown hk.1 hP (mw_D hAd) hS 0 rfl rfl 11 (by decide) (hts _ q4_23) (fun _ h9 => h9) rfl (tyX8_ok 11 (by decide)) rfl rfl (Nat.le_of_ble_eq_true rfl) dX8_type_43 (fun H locs hP _ hS => ?_)
      have hP : va_P D vwCl (mw ad cI cL cZ m_w m_h m_c m_s (m_le + 1) m_un m_he m_ro m_wi m_hi m_hr m_hp m_rn m_rw m_rh m_n m_l m_b m_to m_hs m_ho (upd m_tx m_le.toNatClampNeg p1) m_ik m_wt m_ac m_ap m_pa m_im m_ri) H := hP
      refine lv_aload_n hx hb dX8_type_46 rfl (lv_at hl 0 rfl) ?_
      refine va_get (D := D) (ci := 8) (v := .int (m_le + 1)) (C := RX8) (T := TX8) (N := 29) hx hb hts u_X8 hown hk.1 hP 0 rfl rfl 11 (by decide) (hts _ q4_23) (fun _ h9 => h9) rfl dX8_type_47 ?_
      subst hr
      exact ret_i hx hb hrt hlocks hP hS dX8_type_50
    · have hr := (if_pos c20).symm.trans hr
      refine lv_bipush (v := (-3)) hx hb dX8_type_23 (by decide) ?_
      subst hr
      exact ret_i hx hb hrt hlocks hP hS dX8_type_25
  · have hr := (if_pos c9).symm.trans hr
    refine lv_iconst (v := (-1)) hx hb dX8_type_12 (by decide) ?_
    subst hr
    exact ret_i hx hb hrt hlocks hP hS dX8_type_13
theorem hd_X8_clear : yX8_clear.cls = RX8 ∧ yX8_clear.cls ≠ "java/lang/invoke/MethodHandle" ∧ yX8_clear.cls ≠ "java/lang/invoke/VarHandle" ∧ (parseMethodDescriptor yX8_clear.desc).map (fun d => d.parameters.length) = some 0 := by decide +kernel
def f_X8_clear (m_le : Int32) : Int32 × Int32 := (m_le, 0)
set_option maxHeartbeats 4000000 in
set_option maxRecDepth 100000 in
theorem c_X8_clear (l : Launch) (D : va_G) (cI cL cZ : ClassId) (ad : Nat → Nat) (m_w m_h m_c m_s m_le m_un m_he m_ro m_wi m_hi m_hr m_hp m_rn m_rw m_rh : Int32) (m_n m_l m_b m_to m_hs : Int64) (m_ho m_tx m_ik m_wt : Nat → Int32) (m_ac m_ap m_pa m_im m_ri : Nat → Int64) (hAd : mInj ad) (r : Int32 × Int32) (hr : f_X8_clear m_le = r) : MI l yX8_clear (Cond.code yX8_clear cX8_clear 2 (some .int) :: W0) 0 0 D cI cL cZ (mAd ad) [.ref (ad 0)] (mw ad cI cL cZ m_w m_h m_c m_s m_le m_un m_he m_ro m_wi m_hi m_hr m_hp m_rn m_rw m_rh m_n m_l m_b m_to m_hs m_ho m_tx m_ik m_wt m_ac m_ap m_pa m_im m_ri) r.1 (mw ad cI cL cZ m_w m_h m_c m_s r.2 m_un m_he m_ro m_wi m_hi m_hr m_hp m_rn m_rw m_rh m_n m_l m_b m_to m_hs m_ho m_tx m_ik m_wt m_ac m_ap m_pa m_im m_ri) := by
  refine mk_start (cc := cX8_clear) (maxL := 2) (ret := (some .int)) (by decide) rfl (Nat.le_of_ble_eq_true rfl) ?_
  intro p e s m below meth c ls C hP hS hl
  obtain ⟨hx, hb, hml, hrt, hlocks, hown, hts, hk⟩ := C
  have hown : s.vm.findClass RX8 = some m.cls := hown
  have hl : lv_has ls 2 [(0, .ref (ad 0))] := hl
  rw [f_X8_clear] at hr
  refine lv_aload_n hx hb dX8_clear_0 rfl (lv_at hl 0 rfl) ?_
  refine va_get (D := D) (ci := 8) (v := .int m_le) (C := RX8) (T := TX8) (N := 29) hx hb hts u_X8 hown hk.1 hP 0 rfl rfl 11 (by decide) (hts _ q4_23) (fun _ h9 => h9) rfl dX8_clear_1 ?_
  refine lv_istore_n (lv' := [(1, .int m_le), (0, .ref (ad 0))]) hx hb dX8_clear_4 rfl hl (by decide) rfl (fun ls hl => ?_)
  refine lv_aload_n hx hb dX8_clear_5 rfl (lv_at hl 1 rfl) ?_
  refine lv_iconst (v := 0) hx hb dX8_clear_6 (by decide) ?_
  refine va_put (D := D) (ci := 8) (v := .int 0) (ty := .int) (C := RX8) (T := TX8) (N := 29) hx hb hts u_X8 tyX8 tyX8_ok nmX8 hown hk.1 hP (mw_D hAd) hS 0 rfl rfl 11 (by decide) (hts _ q4_23) (fun _ h9 => h9) rfl (tyX8_ok 11 (by decide)) rfl rfl (Nat.le_of_ble_eq_true rfl) dX8_clear_7 (fun H locs hP _ hS => ?_)
  have hP : va_P D vwCl (mw ad cI cL cZ m_w m_h m_c m_s 0 m_un m_he m_ro m_wi m_hi m_hr m_hp m_rn m_rw m_rh m_n m_l m_b m_to m_hs m_ho m_tx m_ik m_wt m_ac m_ap m_pa m_im m_ri) H := hP
  refine lv_iload_n hx hb dX8_clear_10 rfl (lv_at hl 0 rfl) ?_
  subst hr
  exact ret_i hx hb hrt hlocks hP hS dX8_clear_11
theorem hd_X8_grid : yX8_grid.cls = RX8 ∧ yX8_grid.cls ≠ "java/lang/invoke/MethodHandle" ∧ yX8_grid.cls ≠ "java/lang/invoke/VarHandle" ∧ (parseMethodDescriptor yX8_grid.desc).map (fun d => d.parameters.length) = some 0 := by decide +kernel
def F_X8_grid_48 {β : Type} (k0 : Int64 → β) : Nat → Int32 → Int64 → β
  | 0, x1, m_n => k0 m_n
  | n + 1, x1, m_n => (if 16 ≤ x1 then k0 m_n else F_X8_grid_48 k0 n (x1 + 1) (m_n ||| (shlL 5 (3 * x1))))
def f_X8_grid (m_w : Int32) (m_h : Int32) (m_c : Int32) (m_s : Int32) (m_le : Int32) (m_un : Int32) (m_n : Int64) (m_l : Int64) (m_b : Int64) (m_ho : Nat → Int32) (m_tx : Nat → Int32) (m_ik : Nat → Int32) (m_ac : Nat → Int64) (m_ap : Nat → Int64) : Int32 × Int32 × Int32 × Int32 × Int32 × Int32 × Int32 × Int32 × Int32 × Int32 × Int64 × Int64 × Int64 × Int64 × (Nat → Int32) × (Nat → Int32) × (Nat → Int64) × (Nat → Int64) := (bd (f_X8_reads m_le m_tx) (fun u1 => (if u1.1 = 0 then (((-10)) - u1.2.1, m_w, m_h, m_c, m_s, m_le, m_un, u1.2.1, u1.2.2.1, u1.2.2.2.1, m_n, m_l, m_b, u1.2.2.2.2, m_ho, m_ik, m_ac, m_ap) else (bd (f_X8_laysGrid u1.2.2.2.1 u1.2.2.1 m_ho m_ac m_ap) (fun u2 => F_X8_grid_48 (fun z3 => (u1.2.2.1, u1.2.2.2.1, u1.2.2.1, u2.1, u2.2.1, 0, 0, u1.2.1, u1.2.2.1, u1.2.2.2.1, z3, 0, 0, u1.2.2.2.2, u2.2.2.1, upd (upd m_ik (0 : Int32).toNatClampNeg (vp_nar .boolean 0)) (1 : Int32).toNatClampNeg (vp_nar .boolean 0), u2.2.2.2.1, u2.2.2.2.2)) (fu 16 u2.1) u2.1 u1.2.2.2.2)))))
set_option maxHeartbeats 4000000 in
set_option maxRecDepth 100000 in
theorem lp_X8_grid_48 (l : Launch) (D : va_G) (cI cL cZ : ClassId) (ad : Nat → Nat) (m_w m_h m_c m_s m_le m_un m_he m_ro m_wi m_hi m_hr m_hp m_rn m_rw m_rh : Int32) (m_l m_b m_to m_hs : Int64) (m_ho m_tx m_ik m_wt : Nat → Int32) (m_ac m_ap m_pa m_im m_ri : Nat → Int64) {p : Program} {e : Env} {s : State} {m : MethodId} {args : Array Value} {below : List Frame} {meth : Method} {c : Code} {Q : State → Prop} (C : Cx p s m args meth c cX8_grid 2 (some .int) W0 RX8 D cI cL cZ) (hAd : mInj ad) {β : Type} (k0 : Int64 → β) (r : β)
    (h0 : ∀ (m_n : Int64) (H : Heap) (locs : List Loc) (ls : Array Slot), k0 m_n = r → va_P D vwCl (mw ad cI cL cZ m_w m_h m_c m_s m_le m_un m_he m_ro m_wi m_hi m_hr m_hp m_rn m_rw m_rh m_n m_l m_b m_to m_hs m_ho m_tx m_ik m_wt m_ac m_ap m_pa m_im m_ri) H → va_S (mAd ad) s.heap H locs → lv_has ls 2 [(0, .ref (ad 0))] → W p l e (rmS 4 89) s m args below meth c H locs 0 0 Q (F0 m 76 ls [])) :
    ∀ (n : Nat) (x1 : Int32) (m_n : Int64) (H : Heap) (locs : List Loc) (ls : Array Slot), fuU n 16 x1 → F_X8_grid_48 k0 n x1 m_n = r → va_P D vwCl (mw ad cI cL cZ m_w m_h m_c m_s m_le m_un m_he m_ro m_wi m_hi m_hr m_hp m_rn m_rw m_rh m_n m_l m_b m_to m_hs m_ho m_tx m_ik m_wt m_ac m_ap m_pa m_im m_ri) H → va_S (mAd ad) s.heap H locs → lv_has ls 2 [(0, .ref (ad 0)), (1, .int x1)] → W p l e (rmS 4 89) s m args below meth c H locs 0 0 Q (F0 m 48 ls []) := by
  obtain ⟨hx, hb, hml, hrt, hlocks, hown, hts, hk⟩ := C
  intro n
  induction n with
  | zero =>
    intro x1 m_n H locs ls hf
    exact absurd hf.1 (Nat.lt_irrefl 0)
  | succ n ih =>
    intro x1 m_n H locs ls hf hr hP hS hl
    rw [F_X8_grid_48] at hr
    refine lv_iload_n hx hb dX8_grid_48 rfl (lv_at hl 1 rfl) ?_
    refine lv_bipush (v := 16) hx hb dX8_grid_49 (by decide) ?_
    refine lv_icmp_ge (tgt := 76) hx hb dX8_grid_51 (by decide) (fun c51 => ?_) (fun c51 => ?_)
    · have hr := (if_pos c51).symm.trans hr
      exact h0 m_n _ _ _ hr hP hS (lv_sub hl [0] rfl)
    · have hr := (if_neg c51).symm.trans hr
      refine lv_aload_n hx hb dX8_grid_54 rfl (lv_at hl 0 rfl) ?_
      refine lv_dup hx hb dX8_grid_55 rfl ?_
      refine va_get (D := D) (ci := 8) (v := .long m_n) (C := RX8) (T := TX8) (N := 29) hx hb hts u_X8 hown hk.1 hP 0 rfl rfl 0 (by decide) (hts _ q4_12) (fun _ h9 => h9) rfl dX8_grid_56 ?_
      refine lv_ldc2 hx hb hown (hts _ q3_228) dX8_grid_59 ?_
      refine lv_iconst (v := 3) hx hb dX8_grid_62 (by decide) ?_
      refine lv_iload_n hx hb dX8_grid_63 rfl (lv_at hl 1 rfl) ?_
      refine lv_imul hx hb dX8_grid_64 ?_
      refine lv_lshl (v := shlL 5 (3 * x1)) hx hb dX8_grid_65 rfl ?_
      refine lv_lor hx hb dX8_grid_66 ?_
      refine va_put (D := D) (ci := 8) (v := .long (m_n ||| (shlL 5 (3 * x1)))) (ty := .long) (C := RX8) (T := TX8) (N := 29) hx hb hts u_X8 tyX8 tyX8_ok nmX8 hown hk.1 hP (mw_D hAd) hS 0 rfl rfl 0 (by decide) (hts _ q4_12) (fun _ h9 => h9) rfl (tyX8_ok 0 (by decide)) rfl rfl (Nat.le_of_ble_eq_true rfl) dX8_grid_67 (fun H locs hP _ hS => ?_)
      have hP : va_P D vwCl (mw ad cI cL cZ m_w m_h m_c m_s m_le m_un m_he m_ro m_wi m_hi m_hr m_hp m_rn m_rw m_rh (m_n ||| (shlL 5 (3 * x1))) m_l m_b m_to m_hs m_ho m_tx m_ik m_wt m_ac m_ap m_pa m_im m_ri) H := hP
      refine lv_iinc (v := x1 + 1) (lv' := [(1, .int (x1 + 1)), (0, .ref (ad 0))]) hx hb dX8_grid_70 hl (k := 1) rfl rfl (by decide) rfl (fun ls hl => ?_)
      refine lv_goto (tgt := 48) hx hb dX8_grid_73 (by decide) ?_
      exact ih (x1 + 1) (m_n ||| (shlL 5 (3 * x1))) _ _ _ (fuU_s hf c51) hr hP hS (lv_sub hl [1, 0] rfl)
set_option maxHeartbeats 4000000 in
set_option maxRecDepth 100000 in
theorem c_X8_grid (l : Launch) (D : va_G) (cI cL cZ : ClassId) (ad : Nat → Nat) (m_w m_h m_c m_s m_le m_un m_he m_ro m_wi m_hi m_hr m_hp m_rn m_rw m_rh : Int32) (m_n m_l m_b m_to m_hs : Int64) (m_ho m_tx m_ik m_wt : Nat → Int32) (m_ac m_ap m_pa m_im m_ri : Nat → Int64) (hAd : mInj ad) (r : Int32 × Int32 × Int32 × Int32 × Int32 × Int32 × Int32 × Int32 × Int32 × Int32 × Int64 × Int64 × Int64 × Int64 × (Nat → Int32) × (Nat → Int32) × (Nat → Int64) × (Nat → Int64)) (hr : f_X8_grid m_w m_h m_c m_s m_le m_un m_n m_l m_b m_ho m_tx m_ik m_ac m_ap = r) (hlen : m_le.toInt ≤ 40) : MI l yX8_grid (Cond.code yX8_grid cX8_grid 2 (some .int) :: W0) 4 89 D cI cL cZ (mAd ad) [.ref (ad 0)] (mw ad cI cL cZ m_w m_h m_c m_s m_le m_un m_he m_ro m_wi m_hi m_hr m_hp m_rn m_rw m_rh m_n m_l m_b m_to m_hs m_ho m_tx m_ik m_wt m_ac m_ap m_pa m_im m_ri) r.1 (mw ad cI cL cZ r.2.1 r.2.2.1 r.2.2.2.1 r.2.2.2.2.1 r.2.2.2.2.2.1 r.2.2.2.2.2.2.1 r.2.2.2.2.2.2.2.1 r.2.2.2.2.2.2.2.2.1 r.2.2.2.2.2.2.2.2.2.1 m_hi m_hr m_hp m_rn m_rw m_rh r.2.2.2.2.2.2.2.2.2.2.1 r.2.2.2.2.2.2.2.2.2.2.2.1 r.2.2.2.2.2.2.2.2.2.2.2.2.1 r.2.2.2.2.2.2.2.2.2.2.2.2.2.1 m_hs r.2.2.2.2.2.2.2.2.2.2.2.2.2.2.1 m_tx r.2.2.2.2.2.2.2.2.2.2.2.2.2.2.2.1 m_wt r.2.2.2.2.2.2.2.2.2.2.2.2.2.2.2.2.1 r.2.2.2.2.2.2.2.2.2.2.2.2.2.2.2.2.2 m_pa m_im m_ri) := by
  refine mk_start (cc := cX8_grid) (maxL := 2) (ret := (some .int)) (by decide) rfl (Nat.le_of_ble_eq_true rfl) ?_
  intro p e s m below meth c ls C hP hS hl
  obtain ⟨hx, hb, hml, hrt, hlocks, hown, hts, hk⟩ := C
  have hown : s.vm.findClass RX8 = some m.cls := hown
  have hl : lv_has ls 2 [(0, .ref (ad 0))] := hl
  rw [f_X8_grid] at hr
  refine lv_aload_n hx hb dX8_grid_0 rfl (lv_at hl 0 rfl) ?_
  obtain ⟨u1, hu1⟩ : ∃ z, f_X8_reads m_le m_tx = z := ⟨_, rfl⟩
  have hr := (bd_eq hu1).symm.trans hr
  refine go_z (ru_V (n := 0) ⟨hx, hb, hml, hown, hts⟩ hk hP (c_X8_reads l D cI cL cZ ad m_w m_h m_c m_s m_le m_un m_he m_ro m_wi m_hi m_hr m_hp m_rn m_rw m_rh m_n m_l m_b m_to m_hs m_ho m_tx m_ik m_wt m_ac m_ap m_pa m_im m_ri hAd _ hu1 hlen) (cwV 0 hts (gV q4_114 q4_116 qs3_4 q1_11 q4_117) rfl rfl rfl hd_X8_reads ⟨Nat.le_of_ble_eq_true rfl, Nat.le_of_ble_eq_true rfl⟩) (va_recv hk.1 hP (ci := 8) (q0 := 0) rfl rfl) rfl hl.1 rfl (Nat.le_of_ble_eq_true rfl) dX8_grid_1 ⟨Nat.zero_le _, Nat.zero_le _⟩) hS (fun _ h => h) (fun H locs hz1 hP hS => ?_)
  have hP : va_P D vwCl (mw ad cI cL cZ m_w m_h m_c m_s m_le m_un u1.2.1 u1.2.2.1 u1.2.2.2.1 m_hi m_hr m_hp m_rn m_rw m_rh m_n m_l m_b u1.2.2.2.2 m_hs m_ho m_tx m_ik m_wt m_ac m_ap m_pa m_im m_ri) H := hP
  refine lv_if_ne (tgt := 15) hx hb dX8_grid_4 (by decide) (fun c4 => ?_) (fun c4 => ?_)
  · have hr := (if_neg c4).symm.trans hr
    refine lv_aload_n hx hb dX8_grid_15 rfl (lv_at hl 0 rfl) ?_
    refine lv_aload_n hx hb dX8_grid_16 rfl (lv_at hl 0 rfl) ?_
    refine va_get (D := D) (ci := 8) (v := .int u1.2.2.2.1) (C := RX8) (T := TX8) (N := 29) hx hb hts u_X8 hown hk.1 hP 0 rfl rfl 18 (by decide) (hts _ q4_30) (fun _ h9 => h9) rfl dX8_grid_17 ?_
    refine va_put (D := D) (ci := 8) (v := .int u1.2.2.2.1) (ty := .int) (C := RX8) (T := TX8) (N := 29) hx hb hts u_X8 tyX8 tyX8_ok nmX8 hown hk.1 hP (mw_D hAd) hS 0 rfl rfl 3 (by decide) (hts _ q4_15) (fun _ h9 => h9) rfl (tyX8_ok 3 (by decide)) rfl rfl (Nat.le_of_ble_eq_true rfl) dX8_grid_20 (fun H locs hP _ hS => ?_)
    have hP : va_P D vwCl (mw ad cI cL cZ u1.2.2.2.1 m_h m_c m_s m_le m_un u1.2.1 u1.2.2.1 u1.2.2.2.1 m_hi m_hr m_hp m_rn m_rw m_rh m_n m_l m_b u1.2.2.2.2 m_hs m_ho m_tx m_ik m_wt m_ac m_ap m_pa m_im m_ri) H := hP
    refine lv_aload_n hx hb dX8_grid_23 rfl (lv_at hl 0 rfl) ?_
    refine lv_aload_n hx hb dX8_grid_24 rfl (lv_at hl 0 rfl) ?_
    refine va_get (D := D) (ci := 8) (v := .int u1.2.2.1) (C := RX8) (T := TX8) (N := 29) hx hb hts u_X8 hown hk.1 hP 0 rfl rfl 17 (by decide) (hts _ q4_29) (fun _ h9 => h9) rfl dX8_grid_25 ?_
    refine va_put (D := D) (ci := 8) (v := .int u1.2.2.1) (ty := .int) (C := RX8) (T := TX8) (N := 29) hx hb hts u_X8 tyX8 tyX8_ok nmX8 hown hk.1 hP (mw_D hAd) hS 0 rfl rfl 4 (by decide) (hts _ q4_16) (fun _ h9 => h9) rfl (tyX8_ok 4 (by decide)) rfl rfl (Nat.le_of_ble_eq_true rfl) dX8_grid_28 (fun H locs hP _ hS => ?_)
    have hP : va_P D vwCl (mw ad cI cL cZ u1.2.2.2.1 u1.2.2.1 m_c m_s m_le m_un u1.2.1 u1.2.2.1 u1.2.2.2.1 m_hi m_hr m_hp m_rn m_rw m_rh m_n m_l m_b u1.2.2.2.2 m_hs m_ho m_tx m_ik m_wt m_ac m_ap m_pa m_im m_ri) H := hP
    refine lv_aload_n hx hb dX8_grid_31 rfl (lv_at hl 0 rfl) ?_
    obtain ⟨u2, hu2⟩ : ∃ z, f_X8_laysGrid u1.2.2.2.1 u1.2.2.1 m_ho m_ac m_ap = z := ⟨_, rfl⟩
    have hr := (bd_eq hu2).symm.trans hr
    refine go_v (ru_V (n := 0) ⟨hx, hb, hml, hown, hts⟩ hk hP (c_X8_laysGrid l D cI cL cZ ad u1.2.2.2.1 u1.2.2.1 m_c m_s m_le m_un u1.2.1 u1.2.2.1 u1.2.2.2.1 m_hi m_hr m_hp m_rn m_rw m_rh m_n m_l m_b u1.2.2.2.2 m_hs m_ho m_tx m_ik m_wt m_ac m_ap m_pa m_im m_ri hAd _ hu2 (reads_wh hu1 c4)) (cwV 0 hts (gV q3_229 q3_231 qs2_15 q1_11 q3_232) rfl rfl rfl hd_X8_laysGrid ⟨Nat.le_of_ble_eq_true rfl, Nat.le_of_ble_eq_true rfl⟩) (va_recv hk.1 hP (ci := 8) (q0 := 0) rfl rfl) rfl hl.1 rfl (Nat.le_of_ble_eq_true rfl) dX8_grid_32 ⟨Nat.zero_le _, Nat.zero_le _⟩) hS (fun _ h => h) (fun H locs hP hS => ?_)
    have hP : va_P D vwCl (mw ad cI cL cZ u1.2.2.2.1 u1.2.2.1 u2.1 u2.2.1 m_le m_un u1.2.1 u1.2.2.1 u1.2.2.2.1 m_hi m_hr m_hp m_rn m_rw m_rh m_n m_l m_b u1.2.2.2.2 m_hs u2.2.2.1 m_tx m_ik m_wt u2.2.2.2.1 u2.2.2.2.2 m_pa m_im m_ri) H := hP
    refine lv_aload_n hx hb dX8_grid_35 rfl (lv_at hl 0 rfl) ?_
    refine lv_aload_n hx hb dX8_grid_36 rfl (lv_at hl 0 rfl) ?_
    refine va_get (D := D) (ci := 8) (v := .long u1.2.2.2.2) (C := RX8) (T := TX8) (N := 29) hx hb hts u_X8 hown hk.1 hP 0 rfl rfl 19 (by decide) (hts _ q4_31) (fun _ h9 => h9) rfl dX8_grid_37 ?_
    refine va_put (D := D) (ci := 8) (v := .long u1.2.2.2.2) (ty := .long) (C := RX8) (T := TX8) (N := 29) hx hb hts u_X8 tyX8 tyX8_ok nmX8 hown hk.1 hP (mw_D hAd) hS 0 rfl rfl 0 (by decide) (hts _ q4_12) (fun _ h9 => h9) rfl (tyX8_ok 0 (by decide)) rfl rfl (Nat.le_of_ble_eq_true rfl) dX8_grid_40 (fun H locs hP _ hS => ?_)
    have hP : va_P D vwCl (mw ad cI cL cZ u1.2.2.2.1 u1.2.2.1 u2.1 u2.2.1 m_le m_un u1.2.1 u1.2.2.1 u1.2.2.2.1 m_hi m_hr m_hp m_rn m_rw m_rh u1.2.2.2.2 m_l m_b u1.2.2.2.2 m_hs u2.2.2.1 m_tx m_ik m_wt u2.2.2.2.1 u2.2.2.2.2 m_pa m_im m_ri) H := hP
    refine lv_aload_n hx hb dX8_grid_43 rfl (lv_at hl 0 rfl) ?_
    refine va_get (D := D) (ci := 8) (v := .int u2.1) (C := RX8) (T := TX8) (N := 29) hx hb hts u_X8 hown hk.1 hP 0 rfl rfl 5 (by decide) (hts _ q4_17) (fun _ h9 => h9) rfl dX8_grid_44 ?_
    refine lv_istore_n (lv' := [(1, .int u2.1), (0, .ref (ad 0))]) hx hb dX8_grid_47 rfl hl (by decide) rfl (fun ls hl => ?_)
    refine lp_X8_grid_48 l D cI cL cZ ad u1.2.2.2.1 u1.2.2.1 u2.1 u2.2.1 m_le m_un u1.2.1 u1.2.2.1 u1.2.2.2.1 m_hi m_hr m_hp m_rn m_rw m_rh m_l m_b u1.2.2.2.2 m_hs u2.2.2.1 m_tx m_ik m_wt u2.2.2.2.1 u2.2.2.2.2 m_pa m_im m_ri ⟨hx, hb, hml, hrt, hlocks, hown, hts, hk⟩ hAd _ _ (fun z3 H locs ls hr hP hS hl => ?_) (fu 16 u2.1) u2.1 u1.2.2.2.2 _ _ _ (fuU_0 (by rw [(lays_cs hu2).1]; exact (wh_nums (reads_wh hu1 c4)).1.1.1)) hr hP hS (lv_sub hl [1, 0] rfl)
    refine lv_aload_n hx hb dX8_grid_76 rfl (lv_at hl 0 rfl) ?_
    refine lv_lconst (v := 0) hx hb dX8_grid_77 (by decide) ?_
    refine va_put (D := D) (ci := 8) (v := .long 0) (ty := .long) (C := RX8) (T := TX8) (N := 29) hx hb hts u_X8 tyX8 tyX8_ok nmX8 hown hk.1 hP (mw_D hAd) hS 0 rfl rfl 1 (by decide) (hts _ q4_13) (fun _ h9 => h9) rfl (tyX8_ok 1 (by decide)) rfl rfl (Nat.le_of_ble_eq_true rfl) dX8_grid_78 (fun H locs hP _ hS => ?_)
    have hP : va_P D vwCl (mw ad cI cL cZ u1.2.2.2.1 u1.2.2.1 u2.1 u2.2.1 m_le m_un u1.2.1 u1.2.2.1 u1.2.2.2.1 m_hi m_hr m_hp m_rn m_rw m_rh z3 0 m_b u1.2.2.2.2 m_hs u2.2.2.1 m_tx m_ik m_wt u2.2.2.2.1 u2.2.2.2.2 m_pa m_im m_ri) H := hP
    refine lv_aload_n hx hb dX8_grid_81 rfl (lv_at hl 0 rfl) ?_
    refine lv_lconst (v := 0) hx hb dX8_grid_82 (by decide) ?_
    refine va_put (D := D) (ci := 8) (v := .long 0) (ty := .long) (C := RX8) (T := TX8) (N := 29) hx hb hts u_X8 tyX8 tyX8_ok nmX8 hown hk.1 hP (mw_D hAd) hS 0 rfl rfl 2 (by decide) (hts _ q4_14) (fun _ h9 => h9) rfl (tyX8_ok 2 (by decide)) rfl rfl (Nat.le_of_ble_eq_true rfl) dX8_grid_83 (fun H locs hP _ hS => ?_)
    have hP : va_P D vwCl (mw ad cI cL cZ u1.2.2.2.1 u1.2.2.1 u2.1 u2.2.1 m_le m_un u1.2.1 u1.2.2.1 u1.2.2.2.1 m_hi m_hr m_hp m_rn m_rw m_rh z3 0 0 u1.2.2.2.2 m_hs u2.2.2.1 m_tx m_ik m_wt u2.2.2.2.1 u2.2.2.2.2 m_pa m_im m_ri) H := hP
    refine lv_aload_n hx hb dX8_grid_86 rfl (lv_at hl 0 rfl) ?_
    refine lv_iconst (v := 0) hx hb dX8_grid_87 (by decide) ?_
    refine va_put (D := D) (ci := 8) (v := .int 0) (ty := .int) (C := RX8) (T := TX8) (N := 29) hx hb hts u_X8 tyX8 tyX8_ok nmX8 hown hk.1 hP (mw_D hAd) hS 0 rfl rfl 11 (by decide) (hts _ q4_23) (fun _ h9 => h9) rfl (tyX8_ok 11 (by decide)) rfl rfl (Nat.le_of_ble_eq_true rfl) dX8_grid_88 (fun H locs hP _ hS => ?_)
    have hP : va_P D vwCl (mw ad cI cL cZ u1.2.2.2.1 u1.2.2.1 u2.1 u2.2.1 0 m_un u1.2.1 u1.2.2.1 u1.2.2.2.1 m_hi m_hr m_hp m_rn m_rw m_rh z3 0 0 u1.2.2.2.2 m_hs u2.2.2.1 m_tx m_ik m_wt u2.2.2.2.1 u2.2.2.2.2 m_pa m_im m_ri) H := hP
    refine lv_aload_n hx hb dX8_grid_91 rfl (lv_at hl 0 rfl) ?_
    refine lv_iconst (v := 0) hx hb dX8_grid_92 (by decide) ?_
    refine va_put (D := D) (ci := 8) (v := .int 0) (ty := .int) (C := RX8) (T := TX8) (N := 29) hx hb hts u_X8 tyX8 tyX8_ok nmX8 hown hk.1 hP (mw_D hAd) hS 0 rfl rfl 13 (by decide) (hts _ q4_25) (fun _ h9 => h9) rfl (tyX8_ok 13 (by decide)) rfl rfl (Nat.le_of_ble_eq_true rfl) dX8_grid_93 (fun H locs hP _ hS => ?_)
    have hP : va_P D vwCl (mw ad cI cL cZ u1.2.2.2.1 u1.2.2.1 u2.1 u2.2.1 0 0 u1.2.1 u1.2.2.1 u1.2.2.2.1 m_hi m_hr m_hp m_rn m_rw m_rh z3 0 0 u1.2.2.2.2 m_hs u2.2.2.1 m_tx m_ik m_wt u2.2.2.2.1 u2.2.2.2.2 m_pa m_im m_ri) H := hP
    refine lv_aload_n hx hb dX8_grid_96 rfl (lv_at hl 0 rfl) ?_
    refine va_get (D := D) (ci := 8) (v := .ref (ad 7)) (C := RX8) (T := TX8) (N := 29) hx hb hts u_X8 hown hk.1 hP 0 rfl rfl 15 (by decide) (hts _ q4_27) (fun _ h9 => h9) rfl dX8_grid_97 ?_
    refine lv_iconst (v := 0) hx hb dX8_grid_100 (by decide) ?_
    refine lv_iconst (v := 0) hx hb dX8_grid_101 (by decide) ?_
    refine va_zast hx hb hk.1 hP (mw_D hAd) hS 7 2 (rfl) rfl (vin (by decide) (by decide)) dX8_grid_102 (fun H locs hP _ hS => ?_)
    have hP : va_P D vwCl (mw ad cI cL cZ u1.2.2.2.1 u1.2.2.1 u2.1 u2.2.1 0 0 u1.2.1 u1.2.2.1 u1.2.2.2.1 m_hi m_hr m_hp m_rn m_rw m_rh z3 0 0 u1.2.2.2.2 m_hs u2.2.2.1 m_tx (upd m_ik (0 : Int32).toNatClampNeg (vp_nar .boolean 0)) m_wt u2.2.2.2.1 u2.2.2.2.2 m_pa m_im m_ri) H := hP
    refine lv_aload_n hx hb dX8_grid_103 rfl (lv_at hl 0 rfl) ?_
    refine va_get (D := D) (ci := 8) (v := .ref (ad 7)) (C := RX8) (T := TX8) (N := 29) hx hb hts u_X8 hown hk.1 hP 0 rfl rfl 15 (by decide) (hts _ q4_27) (fun _ h9 => h9) rfl dX8_grid_104 ?_
    refine lv_iconst (v := 1) hx hb dX8_grid_107 (by decide) ?_
    refine lv_iconst (v := 0) hx hb dX8_grid_108 (by decide) ?_
    refine va_zast hx hb hk.1 hP (mw_D hAd) hS 7 2 (rfl) rfl (vin (by decide) (by decide)) dX8_grid_109 (fun H locs hP _ hS => ?_)
    have hP : va_P D vwCl (mw ad cI cL cZ u1.2.2.2.1 u1.2.2.1 u2.1 u2.2.1 0 0 u1.2.1 u1.2.2.1 u1.2.2.2.1 m_hi m_hr m_hp m_rn m_rw m_rh z3 0 0 u1.2.2.2.2 m_hs u2.2.2.1 m_tx (upd (upd m_ik (0 : Int32).toNatClampNeg (vp_nar .boolean 0)) (1 : Int32).toNatClampNeg (vp_nar .boolean 0)) m_wt u2.2.2.2.1 u2.2.2.2.2 m_pa m_im m_ri) H := hP
    refine lv_aload_n hx hb dX8_grid_110 rfl (lv_at hl 0 rfl) ?_
    refine va_get (D := D) (ci := 8) (v := .int u1.2.2.1) (C := RX8) (T := TX8) (N := 29) hx hb hts u_X8 hown hk.1 hP 0 rfl rfl 17 (by decide) (hts _ q4_29) (fun _ h9 => h9) rfl dX8_grid_111 ?_
    subst hr
    exact ret_i hx hb hrt hlocks hP hS dX8_grid_114
  · have hr := (if_pos c4).symm.trans hr
    refine lv_bipush (v := (-10)) hx hb dX8_grid_7 (by decide) ?_
    refine lv_aload_n hx hb dX8_grid_9 rfl (lv_at hl 0 rfl) ?_
    refine va_get (D := D) (ci := 8) (v := .int u1.2.1) (C := RX8) (T := TX8) (N := 29) hx hb hts u_X8 hown hk.1 hP 0 rfl rfl 16 (by decide) (hts _ q4_28) (fun _ h9 => h9) rfl dX8_grid_10 ?_
    refine lv_isub hx hb dX8_grid_13 ?_
    subst hr
    exact ret_i hx hb hrt hlocks hP hS dX8_grid_14
theorem hd_X8_isCell : yX8_isCell.cls = RX8 ∧ yX8_isCell.cls ≠ "java/lang/invoke/MethodHandle" ∧ yX8_isCell.cls ≠ "java/lang/invoke/VarHandle" ∧ (parseMethodDescriptor yX8_isCell.desc).map (fun d => d.parameters.length) = some 1 := by decide +kernel
def f_X8_isCell (p1 : Int32) (m_c : Int32) : Int32 := f_X8_in p1.toInt64 0 ((m_c - 1).toInt64)
set_option maxHeartbeats 4000000 in
set_option maxRecDepth 100000 in
theorem c_X8_isCell (l : Launch) (D : va_G) (cI cL cZ : ClassId) (ad : Nat → Nat) (m_w m_h m_c m_s m_le m_un m_he m_ro m_wi m_hi m_hr m_hp m_rn m_rw m_rh : Int32) (m_n m_l m_b m_to m_hs : Int64) (m_ho m_tx m_ik m_wt : Nat → Int32) (m_ac m_ap m_pa m_im m_ri : Nat → Int64) (hAd : mInj ad) (p1 : Int32) (r : Int32) (hr : f_X8_isCell p1 m_c = r) : MZ l yX8_isCell (Cond.code yX8_isCell cX8_isCell 2 (some .boolean) :: W0) 1 25 D cI cL cZ (mAd ad) [.ref (ad 0), .int p1] (mw ad cI cL cZ m_w m_h m_c m_s m_le m_un m_he m_ro m_wi m_hi m_hr m_hp m_rn m_rw m_rh m_n m_l m_b m_to m_hs m_ho m_tx m_ik m_wt m_ac m_ap m_pa m_im m_ri) r (mw ad cI cL cZ m_w m_h m_c m_s m_le m_un m_he m_ro m_wi m_hi m_hr m_hp m_rn m_rw m_rh m_n m_l m_b m_to m_hs m_ho m_tx m_ik m_wt m_ac m_ap m_pa m_im m_ri) := by
  refine mk_start (cc := cX8_isCell) (maxL := 2) (ret := (some .boolean)) (by decide) rfl (Nat.le_of_ble_eq_true rfl) ?_
  intro p e s m below meth c ls C hP hS hl
  obtain ⟨hx, hb, hml, hrt, hlocks, hown, hts, hk⟩ := C
  have hown : s.vm.findClass RX8 = some m.cls := hown
  have hl : lv_has ls 2 [(0, .ref (ad 0)), (1, .int p1)] := hl
  rw [f_X8_isCell] at hr
  refine lv_iload_n hx hb dX8_isCell_0 rfl (lv_at hl 1 rfl) ?_
  refine lv_i2l hx hb dX8_isCell_1 rfl ?_
  refine lv_lconst (v := 0) hx hb dX8_isCell_2 (by decide) ?_
  refine lv_aload_n hx hb dX8_isCell_3 rfl (lv_at hl 0 rfl) ?_
  refine va_get (D := D) (ci := 8) (v := .int m_c) (C := RX8) (T := TX8) (N := 29) hx hb hts u_X8 hown hk.1 hP 0 rfl rfl 5 (by decide) (hts _ q4_17) (fun _ h9 => h9) rfl dX8_isCell_4 ?_
  refine lv_iconst (v := 1) hx hb dX8_isCell_7 (by decide) ?_
  refine lv_isub hx hb dX8_isCell_8 ?_
  refine lv_i2l hx hb dX8_isCell_9 rfl ?_
  refine go_z (ru_S (n := 3) ⟨hx, hb, hml, hown, hts⟩ hk hP (c_X8_in l D cI cL cZ (mAd ad) (mw ad cI cL cZ m_w m_h m_c m_s m_le m_un m_he m_ro m_wi m_hi m_hr m_hp m_rn m_rw m_rh m_n m_l m_b m_to m_hs m_ho m_tx m_ik m_wt m_ac m_ap m_pa m_im m_ri) p1.toInt64 0 ((m_c - 1).toInt64) _ rfl) (va_cwS 3 hts (gS q4_1 q4_2 q1_11 q4_3) rfl rfl rfl hd_X8_in ⟨Nat.le_of_ble_eq_true rfl, Nat.le_of_ble_eq_true rfl⟩) rfl hl.1 rfl (Nat.le_of_ble_eq_true rfl) dX8_isCell_10 ⟨Nat.zero_le _, Nat.zero_le _⟩) hS (fun _ h => h) (fun H locs hz10 hP hS => ?_)
  have hP : va_P D vwCl (mw ad cI cL cZ m_w m_h m_c m_s m_le m_un m_he m_ro m_wi m_hi m_hr m_hp m_rn m_rw m_rh m_n m_l m_b m_to m_hs m_ho m_tx m_ik m_wt m_ac m_ap m_pa m_im m_ri) H := hP
  subst hr
  exact ret_z hx hb hrt hlocks (by first | assumption | exact bz_ok (by assumption)) hP hS dX8_isCell_13
theorem hd_X8_isSide : yX8_isSide.cls = RX8 ∧ yX8_isSide.cls ≠ "java/lang/invoke/MethodHandle" ∧ yX8_isSide.cls ≠ "java/lang/invoke/VarHandle" ∧ (parseMethodDescriptor yX8_isSide.desc).map (fun d => d.parameters.length) = some 1 := by decide +kernel
def f_X8_isSide (p1 : Int32) (m_s : Int32) : Int32 := f_X8_in p1.toInt64 0 ((m_s - 1).toInt64)
set_option maxHeartbeats 4000000 in
set_option maxRecDepth 100000 in
theorem c_X8_isSide (l : Launch) (D : va_G) (cI cL cZ : ClassId) (ad : Nat → Nat) (m_w m_h m_c m_s m_le m_un m_he m_ro m_wi m_hi m_hr m_hp m_rn m_rw m_rh : Int32) (m_n m_l m_b m_to m_hs : Int64) (m_ho m_tx m_ik m_wt : Nat → Int32) (m_ac m_ap m_pa m_im m_ri : Nat → Int64) (hAd : mInj ad) (p1 : Int32) (r : Int32) (hr : f_X8_isSide p1 m_s = r) : MZ l yX8_isSide (Cond.code yX8_isSide cX8_isSide 2 (some .boolean) :: W0) 1 25 D cI cL cZ (mAd ad) [.ref (ad 0), .int p1] (mw ad cI cL cZ m_w m_h m_c m_s m_le m_un m_he m_ro m_wi m_hi m_hr m_hp m_rn m_rw m_rh m_n m_l m_b m_to m_hs m_ho m_tx m_ik m_wt m_ac m_ap m_pa m_im m_ri) r (mw ad cI cL cZ m_w m_h m_c m_s m_le m_un m_he m_ro m_wi m_hi m_hr m_hp m_rn m_rw m_rh m_n m_l m_b m_to m_hs m_ho m_tx m_ik m_wt m_ac m_ap m_pa m_im m_ri) := by
  refine mk_start (cc := cX8_isSide) (maxL := 2) (ret := (some .boolean)) (by decide) rfl (Nat.le_of_ble_eq_true rfl) ?_
  intro p e s m below meth c ls C hP hS hl
  obtain ⟨hx, hb, hml, hrt, hlocks, hown, hts, hk⟩ := C
  have hown : s.vm.findClass RX8 = some m.cls := hown
  have hl : lv_has ls 2 [(0, .ref (ad 0)), (1, .int p1)] := hl
  rw [f_X8_isSide] at hr
  refine lv_iload_n hx hb dX8_isSide_0 rfl (lv_at hl 1 rfl) ?_
  refine lv_i2l hx hb dX8_isSide_1 rfl ?_
  refine lv_lconst (v := 0) hx hb dX8_isSide_2 (by decide) ?_
  refine lv_aload_n hx hb dX8_isSide_3 rfl (lv_at hl 0 rfl) ?_
  refine va_get (D := D) (ci := 8) (v := .int m_s) (C := RX8) (T := TX8) (N := 29) hx hb hts u_X8 hown hk.1 hP 0 rfl rfl 6 (by decide) (hts _ q4_18) (fun _ h9 => h9) rfl dX8_isSide_4 ?_
  refine lv_iconst (v := 1) hx hb dX8_isSide_7 (by decide) ?_
  refine lv_isub hx hb dX8_isSide_8 ?_
  refine lv_i2l hx hb dX8_isSide_9 rfl ?_
  refine go_z (ru_S (n := 3) ⟨hx, hb, hml, hown, hts⟩ hk hP (c_X8_in l D cI cL cZ (mAd ad) (mw ad cI cL cZ m_w m_h m_c m_s m_le m_un m_he m_ro m_wi m_hi m_hr m_hp m_rn m_rw m_rh m_n m_l m_b m_to m_hs m_ho m_tx m_ik m_wt m_ac m_ap m_pa m_im m_ri) p1.toInt64 0 ((m_s - 1).toInt64) _ rfl) (va_cwS 3 hts (gS q4_1 q4_2 q1_11 q4_3) rfl rfl rfl hd_X8_in ⟨Nat.le_of_ble_eq_true rfl, Nat.le_of_ble_eq_true rfl⟩) rfl hl.1 rfl (Nat.le_of_ble_eq_true rfl) dX8_isSide_10 ⟨Nat.zero_le _, Nat.zero_le _⟩) hS (fun _ h => h) (fun H locs hz10 hP hS => ?_)
  have hP : va_P D vwCl (mw ad cI cL cZ m_w m_h m_c m_s m_le m_un m_he m_ro m_wi m_hi m_hr m_hp m_rn m_rw m_rh m_n m_l m_b m_to m_hs m_ho m_tx m_ik m_wt m_ac m_ap m_pa m_im m_ri) H := hP
  subst hr
  exact ret_z hx hb hrt hlocks (by first | assumption | exact bz_ok (by assumption)) hP hS dX8_isSide_13
theorem hd_X8_number : yX8_number.cls = RX8 ∧ yX8_number.cls ≠ "java/lang/invoke/MethodHandle" ∧ yX8_number.cls ≠ "java/lang/invoke/VarHandle" ∧ (parseMethodDescriptor yX8_number.desc).map (fun d => d.parameters.length) = some 1 := by decide +kernel
def f_X8_number (p1 : Int32) (m_c : Int32) (m_n : Int64) : Int32 := (if (f_X8_isCell p1 m_c) = 0 then (-1) else (if (f_X8_numberAt p1 m_n) = 5 then (-9) else f_X8_numberAt p1 m_n))
set_option maxHeartbeats 4000000 in
set_option maxRecDepth 100000 in
theorem c_X8_number (l : Launch) (D : va_G) (cI cL cZ : ClassId) (ad : Nat → Nat) (m_w m_h m_c m_s m_le m_un m_he m_ro m_wi m_hi m_hr m_hp m_rn m_rw m_rh : Int32) (m_n m_l m_b m_to m_hs : Int64) (m_ho m_tx m_ik m_wt : Nat → Int32) (m_ac m_ap m_pa m_im m_ri : Nat → Int64) (hAd : mInj ad) (p1 : Int32) (r : Int32) (hr : f_X8_number p1 m_c m_n = r) : MI l yX8_number (Cond.code yX8_number cX8_number 2 (some .int) :: W0) 2 46 D cI cL cZ (mAd ad) [.ref (ad 0), .int p1] (mw ad cI cL cZ m_w m_h m_c m_s m_le m_un m_he m_ro m_wi m_hi m_hr m_hp m_rn m_rw m_rh m_n m_l m_b m_to m_hs m_ho m_tx m_ik m_wt m_ac m_ap m_pa m_im m_ri) r (mw ad cI cL cZ m_w m_h m_c m_s m_le m_un m_he m_ro m_wi m_hi m_hr m_hp m_rn m_rw m_rh m_n m_l m_b m_to m_hs m_ho m_tx m_ik m_wt m_ac m_ap m_pa m_im m_ri) := by
  refine mk_start (cc := cX8_number) (maxL := 2) (ret := (some .int)) (by decide) rfl (Nat.le_of_ble_eq_true rfl) ?_
  intro p e s m below meth c ls C hP hS hl
  obtain ⟨hx, hb, hml, hrt, hlocks, hown, hts, hk⟩ := C
  have hown : s.vm.findClass RX8 = some m.cls := hown
  have hl : lv_has ls 2 [(0, .ref (ad 0)), (1, .int p1)] := hl
  rw [f_X8_number] at hr
  refine lv_aload_n hx hb dX8_number_0 rfl (lv_at hl 0 rfl) ?_
  refine lv_iload_n hx hb dX8_number_1 rfl (lv_at hl 1 rfl) ?_
  refine go_z (ru_V (n := 1) ⟨hx, hb, hml, hown, hts⟩ hk hP (c_X8_isCell l D cI cL cZ ad m_w m_h m_c m_s m_le m_un m_he m_ro m_wi m_hi m_hr m_hp m_rn m_rw m_rh m_n m_l m_b m_to m_hs m_ho m_tx m_ik m_wt m_ac m_ap m_pa m_im m_ri hAd p1 _ rfl) (cwV 1 hts (gV q4_136 q4_138 qs3_8 q1_11 q4_139) rfl rfl rfl hd_X8_isCell ⟨Nat.le_of_ble_eq_true rfl, Nat.le_of_ble_eq_true rfl⟩) (va_recv hk.1 hP (ci := 8) (q0 := 0) rfl rfl) rfl hl.1 rfl (Nat.le_of_ble_eq_true rfl) dX8_number_2 ⟨Nat.zero_le _, Nat.zero_le _⟩) hS (fun _ h => h) (fun H locs hz2 hP hS => ?_)
  have hP : va_P D vwCl (mw ad cI cL cZ m_w m_h m_c m_s m_le m_un m_he m_ro m_wi m_hi m_hr m_hp m_rn m_rw m_rh m_n m_l m_b m_to m_hs m_ho m_tx m_ik m_wt m_ac m_ap m_pa m_im m_ri) H := hP
  refine lv_if_ne (tgt := 12) hx hb dX8_number_5 (by decide) (fun c5 => ?_) (fun c5 => ?_)
  · have hr := (if_neg c5).symm.trans hr
    refine lv_aload_n hx hb dX8_number_12 rfl (lv_at hl 0 rfl) ?_
    refine lv_iload_n hx hb dX8_number_13 rfl (lv_at hl 1 rfl) ?_
    refine go_i (ru_V (n := 1) ⟨hx, hb, hml, hown, hts⟩ hk hP (c_X8_numberAt l D cI cL cZ ad m_w m_h m_c m_s m_le m_un m_he m_ro m_wi m_hi m_hr m_hp m_rn m_rw m_rh m_n m_l m_b m_to m_hs m_ho m_tx m_ik m_wt m_ac m_ap m_pa m_im m_ri hAd p1 _ rfl) (cwV 1 hts (gV q4_140 q4_142 qs3_9 q1_11 q4_143) rfl rfl rfl hd_X8_numberAt ⟨Nat.le_of_ble_eq_true rfl, Nat.le_of_ble_eq_true rfl⟩) (va_recv hk.1 hP (ci := 8) (q0 := 0) rfl rfl) rfl hl.1 rfl (Nat.le_of_ble_eq_true rfl) dX8_number_14 ⟨Nat.zero_le _, Nat.zero_le _⟩) hS (fun _ h => h) (fun H locs hP hS => ?_)
    have hP : va_P D vwCl (mw ad cI cL cZ m_w m_h m_c m_s m_le m_un m_he m_ro m_wi m_hi m_hr m_hp m_rn m_rw m_rh m_n m_l m_b m_to m_hs m_ho m_tx m_ik m_wt m_ac m_ap m_pa m_im m_ri) H := hP
    refine lv_iconst (v := 5) hx hb dX8_number_17 (by decide) ?_
    refine lv_icmp_ne (tgt := 26) hx hb dX8_number_18 (by decide) (fun c18 => ?_) (fun c18 => ?_)
    · have hr := (if_neg c18).symm.trans hr
      refine lv_aload_n hx hb dX8_number_26 rfl (lv_at hl 0 rfl) ?_
      refine lv_iload_n hx hb dX8_number_27 rfl (lv_at hl 1 rfl) ?_
      refine go_i (ru_V (n := 1) ⟨hx, hb, hml, hown, hts⟩ hk hP (c_X8_numberAt l D cI cL cZ ad m_w m_h m_c m_s m_le m_un m_he m_ro m_wi m_hi m_hr m_hp m_rn m_rw m_rh m_n m_l m_b m_to m_hs m_ho m_tx m_ik m_wt m_ac m_ap m_pa m_im m_ri hAd p1 _ rfl) (cwV 1 hts (gV q4_140 q4_142 qs3_9 q1_11 q4_143) rfl rfl rfl hd_X8_numberAt ⟨Nat.le_of_ble_eq_true rfl, Nat.le_of_ble_eq_true rfl⟩) (va_recv hk.1 hP (ci := 8) (q0 := 0) rfl rfl) rfl hl.1 rfl (Nat.le_of_ble_eq_true rfl) dX8_number_28 ⟨Nat.zero_le _, Nat.zero_le _⟩) hS (fun _ h => h) (fun H locs hP hS => ?_)
      have hP : va_P D vwCl (mw ad cI cL cZ m_w m_h m_c m_s m_le m_un m_he m_ro m_wi m_hi m_hr m_hp m_rn m_rw m_rh m_n m_l m_b m_to m_hs m_ho m_tx m_ik m_wt m_ac m_ap m_pa m_im m_ri) H := hP
      subst hr
      exact ret_i hx hb hrt hlocks hP hS dX8_number_31
    · have hr := (if_pos c18).symm.trans hr
      refine lv_bipush (v := (-9)) hx hb dX8_number_21 (by decide) ?_
      refine lv_goto (tgt := 31) hx hb dX8_number_23 (by decide) ?_
      subst hr
      exact ret_i hx hb hrt hlocks hP hS dX8_number_31
  · have hr := (if_pos c5).symm.trans hr
    refine lv_iconst (v := (-1)) hx hb dX8_number_8 (by decide) ?_
    refine lv_goto (tgt := 31) hx hb dX8_number_9 (by decide) ?_
    subst hr
    exact ret_i hx hb hrt hlocks hP hS dX8_number_31
theorem hd_X8_side : yX8_side.cls = RX8 ∧ yX8_side.cls ≠ "java/lang/invoke/MethodHandle" ∧ yX8_side.cls ≠ "java/lang/invoke/VarHandle" ∧ (parseMethodDescriptor yX8_side.desc).map (fun d => d.parameters.length) = some 1 := by decide +kernel
def f_X8_side (p1 : Int32) (m_s : Int32) (m_l : Int64) (m_b : Int64) : Int32 := (if (f_X8_isSide p1 m_s) = 0 then (-1) else (if (f_X8_has m_l p1) = 0 then (if (f_X8_has m_b p1) = 0 then 0 else 2) else 1))
set_option maxHeartbeats 4000000 in
set_option maxRecDepth 100000 in
theorem c_X8_side (l : Launch) (D : va_G) (cI cL cZ : ClassId) (ad : Nat → Nat) (m_w m_h m_c m_s m_le m_un m_he m_ro m_wi m_hi m_hr m_hp m_rn m_rw m_rh : Int32) (m_n m_l m_b m_to m_hs : Int64) (m_ho m_tx m_ik m_wt : Nat → Int32) (m_ac m_ap m_pa m_im m_ri : Nat → Int64) (hAd : mInj ad) (p1 : Int32) (r : Int32) (hr : f_X8_side p1 m_s m_l m_b = r) : MI l yX8_side (Cond.code yX8_side cX8_side 2 (some .int) :: W0) 2 46 D cI cL cZ (mAd ad) [.ref (ad 0), .int p1] (mw ad cI cL cZ m_w m_h m_c m_s m_le m_un m_he m_ro m_wi m_hi m_hr m_hp m_rn m_rw m_rh m_n m_l m_b m_to m_hs m_ho m_tx m_ik m_wt m_ac m_ap m_pa m_im m_ri) r (mw ad cI cL cZ m_w m_h m_c m_s m_le m_un m_he m_ro m_wi m_hi m_hr m_hp m_rn m_rw m_rh m_n m_l m_b m_to m_hs m_ho m_tx m_ik m_wt m_ac m_ap m_pa m_im m_ri) := by
  refine mk_start (cc := cX8_side) (maxL := 2) (ret := (some .int)) (by decide) rfl (Nat.le_of_ble_eq_true rfl) ?_
  intro p e s m below meth c ls C hP hS hl
  obtain ⟨hx, hb, hml, hrt, hlocks, hown, hts, hk⟩ := C
  have hown : s.vm.findClass RX8 = some m.cls := hown
  have hl : lv_has ls 2 [(0, .ref (ad 0)), (1, .int p1)] := hl
  rw [f_X8_side] at hr
  refine lv_aload_n hx hb dX8_side_0 rfl (lv_at hl 0 rfl) ?_
  refine lv_iload_n hx hb dX8_side_1 rfl (lv_at hl 1 rfl) ?_
  refine go_z (ru_V (n := 1) ⟨hx, hb, hml, hown, hts⟩ hk hP (c_X8_isSide l D cI cL cZ ad m_w m_h m_c m_s m_le m_un m_he m_ro m_wi m_hi m_hr m_hp m_rn m_rw m_rh m_n m_l m_b m_to m_hs m_ho m_tx m_ik m_wt m_ac m_ap m_pa m_im m_ri hAd p1 _ rfl) (cwV 1 hts (gV q4_149 q4_151 qs3_10 q1_11 q4_152) rfl rfl rfl hd_X8_isSide ⟨Nat.le_of_ble_eq_true rfl, Nat.le_of_ble_eq_true rfl⟩) (va_recv hk.1 hP (ci := 8) (q0 := 0) rfl rfl) rfl hl.1 rfl (Nat.le_of_ble_eq_true rfl) dX8_side_2 ⟨Nat.zero_le _, Nat.zero_le _⟩) hS (fun _ h => h) (fun H locs hz2 hP hS => ?_)
  have hP : va_P D vwCl (mw ad cI cL cZ m_w m_h m_c m_s m_le m_un m_he m_ro m_wi m_hi m_hr m_hp m_rn m_rw m_rh m_n m_l m_b m_to m_hs m_ho m_tx m_ik m_wt m_ac m_ap m_pa m_im m_ri) H := hP
  refine lv_if_ne (tgt := 12) hx hb dX8_side_5 (by decide) (fun c5 => ?_) (fun c5 => ?_)
  · have hr := (if_neg c5).symm.trans hr
    refine lv_aload_n hx hb dX8_side_12 rfl (lv_at hl 0 rfl) ?_
    refine va_get (D := D) (ci := 8) (v := .long m_l) (C := RX8) (T := TX8) (N := 29) hx hb hts u_X8 hown hk.1 hP 0 rfl rfl 1 (by decide) (hts _ q4_13) (fun _ h9 => h9) rfl dX8_side_13 ?_
    refine lv_iload_n hx hb dX8_side_16 rfl (lv_at hl 1 rfl) ?_
    refine go_z (ru_S (n := 2) ⟨hx, hb, hml, hown, hts⟩ hk hP (c_X8_has l D cI cL cZ (mAd ad) (mw ad cI cL cZ m_w m_h m_c m_s m_le m_un m_he m_ro m_wi m_hi m_hr m_hp m_rn m_rw m_rh m_n m_l m_b m_to m_hs m_ho m_tx m_ik m_wt m_ac m_ap m_pa m_im m_ri) m_l p1 _ rfl) (va_cwS 2 hts (gS q4_153 q4_154 q1_11 q4_155) rfl rfl rfl hd_X8_has ⟨Nat.le_of_ble_eq_true rfl, Nat.le_of_ble_eq_true rfl⟩) rfl hl.1 rfl (Nat.le_of_ble_eq_true rfl) dX8_side_17 ⟨Nat.zero_le _, Nat.zero_le _⟩) hS (fun _ h => h) (fun H locs hz17 hP hS => ?_)
    have hP : va_P D vwCl (mw ad cI cL cZ m_w m_h m_c m_s m_le m_un m_he m_ro m_wi m_hi m_hr m_hp m_rn m_rw m_rh m_n m_l m_b m_to m_hs m_ho m_tx m_ik m_wt m_ac m_ap m_pa m_im m_ri) H := hP
    refine lv_if_eq (tgt := 27) hx hb dX8_side_20 (by decide) (fun c20 => ?_) (fun c20 => ?_)
    · have hr := (if_pos c20).symm.trans hr
      refine lv_aload_n hx hb dX8_side_27 rfl (lv_at hl 0 rfl) ?_
      refine va_get (D := D) (ci := 8) (v := .long m_b) (C := RX8) (T := TX8) (N := 29) hx hb hts u_X8 hown hk.1 hP 0 rfl rfl 2 (by decide) (hts _ q4_14) (fun _ h9 => h9) rfl dX8_side_28 ?_
      refine lv_iload_n hx hb dX8_side_31 rfl (lv_at hl 1 rfl) ?_
      refine go_z (ru_S (n := 2) ⟨hx, hb, hml, hown, hts⟩ hk hP (c_X8_has l D cI cL cZ (mAd ad) (mw ad cI cL cZ m_w m_h m_c m_s m_le m_un m_he m_ro m_wi m_hi m_hr m_hp m_rn m_rw m_rh m_n m_l m_b m_to m_hs m_ho m_tx m_ik m_wt m_ac m_ap m_pa m_im m_ri) m_b p1 _ rfl) (va_cwS 2 hts (gS q4_153 q4_154 q1_11 q4_155) rfl rfl rfl hd_X8_has ⟨Nat.le_of_ble_eq_true rfl, Nat.le_of_ble_eq_true rfl⟩) rfl hl.1 rfl (Nat.le_of_ble_eq_true rfl) dX8_side_32 ⟨Nat.zero_le _, Nat.zero_le _⟩) hS (fun _ h => h) (fun H locs hz32 hP hS => ?_)
      have hP : va_P D vwCl (mw ad cI cL cZ m_w m_h m_c m_s m_le m_un m_he m_ro m_wi m_hi m_hr m_hp m_rn m_rw m_rh m_n m_l m_b m_to m_hs m_ho m_tx m_ik m_wt m_ac m_ap m_pa m_im m_ri) H := hP
      refine lv_if_eq (tgt := 42) hx hb dX8_side_35 (by decide) (fun c35 => ?_) (fun c35 => ?_)
      · have hr := (if_pos c35).symm.trans hr
        refine lv_iconst (v := 0) hx hb dX8_side_42 (by decide) ?_
        subst hr
        exact ret_i hx hb hrt hlocks hP hS dX8_side_43
      · have hr := (if_neg c35).symm.trans hr
        refine lv_iconst (v := 2) hx hb dX8_side_38 (by decide) ?_
        refine lv_goto (tgt := 43) hx hb dX8_side_39 (by decide) ?_
        subst hr
        exact ret_i hx hb hrt hlocks hP hS dX8_side_43
    · have hr := (if_neg c20).symm.trans hr
      refine lv_iconst (v := 1) hx hb dX8_side_23 (by decide) ?_
      refine lv_goto (tgt := 43) hx hb dX8_side_24 (by decide) ?_
      subst hr
      exact ret_i hx hb hrt hlocks hP hS dX8_side_43
  · have hr := (if_pos c5).symm.trans hr
    refine lv_iconst (v := (-1)) hx hb dX8_side_8 (by decide) ?_
    refine lv_goto (tgt := 43) hx hb dX8_side_9 (by decide) ?_
    subst hr
    exact ret_i hx hb hrt hlocks hP hS dX8_side_43
theorem hd_X8_sideOfCell : yX8_sideOfCell.cls = RX8 ∧ yX8_sideOfCell.cls ≠ "java/lang/invoke/MethodHandle" ∧ yX8_sideOfCell.cls ≠ "java/lang/invoke/VarHandle" ∧ (parseMethodDescriptor yX8_sideOfCell.desc).map (fun d => d.parameters.length) = some 2 := by decide +kernel
def f_X8_sideOfCell (p1 : Int32) (p2 : Int32) (m_w : Int32) (m_h : Int32) : Int32 := (if p2 = 0 then f_X8_lying (p1 - p1 / m_w * m_w) (p1 / m_w) m_w else (if p2 = 1 then f_X8_lying (p1 - p1 / m_w * m_w) ((p1 / m_w) + 1) m_w else (if p2 = 2 then f_X8_standing (p1 - p1 / m_w * m_w) (p1 / m_w) m_w m_h else f_X8_standing ((p1 - p1 / m_w * m_w) + 1) (p1 / m_w) m_w m_h)))
set_option maxHeartbeats 4000000 in
set_option maxRecDepth 100000 in
theorem c_X8_sideOfCell (l : Launch) (D : va_G) (cI cL cZ : ClassId) (ad : Nat → Nat) (m_w m_h m_c m_s m_le m_un m_he m_ro m_wi m_hi m_hr m_hp m_rn m_rw m_rh : Int32) (m_n m_l m_b m_to m_hs : Int64) (m_ho m_tx m_ik m_wt : Nat → Int32) (m_ac m_ap m_pa m_im m_ri : Nat → Int64) (hAd : mInj ad) (p1 p2 : Int32) (r : Int32) (hr : f_X8_sideOfCell p1 p2 m_w m_h = r) (hg : wh m_w m_h) : MI l yX8_sideOfCell (Cond.code yX8_sideOfCell cX8_sideOfCell 5 (some .int) :: W0) 1 22 D cI cL cZ (mAd ad) [.ref (ad 0), .int p1, .int p2] (mw ad cI cL cZ m_w m_h m_c m_s m_le m_un m_he m_ro m_wi m_hi m_hr m_hp m_rn m_rw m_rh m_n m_l m_b m_to m_hs m_ho m_tx m_ik m_wt m_ac m_ap m_pa m_im m_ri) r (mw ad cI cL cZ m_w m_h m_c m_s m_le m_un m_he m_ro m_wi m_hi m_hr m_hp m_rn m_rw m_rh m_n m_l m_b m_to m_hs m_ho m_tx m_ik m_wt m_ac m_ap m_pa m_im m_ri) := by
  refine mk_start (cc := cX8_sideOfCell) (maxL := 5) (ret := (some .int)) (by decide) rfl (Nat.le_of_ble_eq_true rfl) ?_
  intro p e s m below meth c ls C hP hS hl
  obtain ⟨hx, hb, hml, hrt, hlocks, hown, hts, hk⟩ := C
  have hown : s.vm.findClass RX8 = some m.cls := hown
  have hl : lv_has ls 5 [(0, .ref (ad 0)), (1, .int p1), (2, .int p2)] := hl
  rw [f_X8_sideOfCell] at hr
  refine lv_iload_n hx hb dX8_sideOfCell_0 rfl (lv_at hl 1 rfl) ?_
  refine lv_aload_n hx hb dX8_sideOfCell_1 rfl (lv_at hl 0 rfl) ?_
  refine va_get (D := D) (ci := 8) (v := .int m_w) (C := RX8) (T := TX8) (N := 29) hx hb hts u_X8 hown hk.1 hP 0 rfl rfl 3 (by decide) (hts _ q4_15) (fun _ h9 => h9) rfl dX8_sideOfCell_2 ?_
  refine lv_irem hx hb dX8_sideOfCell_5 (wh_nums hg).2.1 ?_
  refine lv_istore_n (lv' := [(3, .int (p1 - p1 / m_w * m_w)), (0, .ref (ad 0)), (1, .int p1), (2, .int p2)]) hx hb dX8_sideOfCell_6 rfl hl (by decide) rfl (fun ls hl => ?_)
  refine lv_iload_n hx hb dX8_sideOfCell_7 rfl (lv_at hl 2 rfl) ?_
  refine lv_aload_n hx hb dX8_sideOfCell_8 rfl (lv_at hl 1 rfl) ?_
  refine va_get (D := D) (ci := 8) (v := .int m_w) (C := RX8) (T := TX8) (N := 29) hx hb hts u_X8 hown hk.1 hP 0 rfl rfl 3 (by decide) (hts _ q4_15) (fun _ h9 => h9) rfl dX8_sideOfCell_9 ?_
  refine lv_idiv hx hb dX8_sideOfCell_12 (wh_nums hg).2.1 ?_
  refine lv_istore (lv' := [(4, .int (p1 / m_w)), (3, .int (p1 - p1 / m_w * m_w)), (0, .ref (ad 0)), (1, .int p1), (2, .int p2)]) hx hb dX8_sideOfCell_13 hl (by decide) rfl (fun ls hl => ?_)
  refine lv_iload_n hx hb dX8_sideOfCell_15 rfl (lv_at hl 4 rfl) ?_
  refine lv_if_ne (tgt := 29) hx hb dX8_sideOfCell_16 (by decide) (fun c16 => ?_) (fun c16 => ?_)
  · have hr := (if_neg c16).symm.trans hr
    refine lv_iload_n hx hb dX8_sideOfCell_29 rfl (lv_at hl 4 rfl) ?_
    refine lv_iconst (v := 1) hx hb dX8_sideOfCell_30 (by decide) ?_
    refine lv_icmp_ne (tgt := 46) hx hb dX8_sideOfCell_31 (by decide) (fun c31 => ?_) (fun c31 => ?_)
    · have hr := (if_neg c31).symm.trans hr
      refine lv_iload_n hx hb dX8_sideOfCell_46 rfl (lv_at hl 4 rfl) ?_
      refine lv_iconst (v := 2) hx hb dX8_sideOfCell_47 (by decide) ?_
      refine lv_icmp_ne (tgt := 61) hx hb dX8_sideOfCell_48 (by decide) (fun c48 => ?_) (fun c48 => ?_)
      · have hr := (if_neg c48).symm.trans hr
        refine lv_aload_n hx hb dX8_sideOfCell_61 rfl (lv_at hl 2 rfl) ?_
        refine lv_iload_n hx hb dX8_sideOfCell_62 rfl (lv_at hl 1 rfl) ?_
        refine lv_iconst (v := 1) hx hb dX8_sideOfCell_63 (by decide) ?_
        refine lv_iadd hx hb dX8_sideOfCell_64 ?_
        refine lv_iload hx hb dX8_sideOfCell_65 (lv_at hl 0 rfl) ?_
        refine go_i (ru_V (n := 2) ⟨hx, hb, hml, hown, hts⟩ hk hP (c_X8_standing l D cI cL cZ ad m_w m_h m_c m_s m_le m_un m_he m_ro m_wi m_hi m_hr m_hp m_rn m_rw m_rh m_n m_l m_b m_to m_hs m_ho m_tx m_ik m_wt m_ac m_ap m_pa m_im m_ri hAd ((p1 - p1 / m_w * m_w) + 1) (p1 / m_w) _ rfl) (cwV 2 hts (gV q4_8 q4_10 qs3_3 q1_11 q4_11) rfl rfl rfl hd_X8_standing ⟨Nat.le_of_ble_eq_true rfl, Nat.le_of_ble_eq_true rfl⟩) (va_recv hk.1 hP (ci := 8) (q0 := 0) rfl rfl) rfl hl.1 rfl (Nat.le_of_ble_eq_true rfl) dX8_sideOfCell_67 ⟨Nat.zero_le _, Nat.zero_le _⟩) hS (fun _ h => h) (fun H locs hP hS => ?_)
        have hP : va_P D vwCl (mw ad cI cL cZ m_w m_h m_c m_s m_le m_un m_he m_ro m_wi m_hi m_hr m_hp m_rn m_rw m_rh m_n m_l m_b m_to m_hs m_ho m_tx m_ik m_wt m_ac m_ap m_pa m_im m_ri) H := hP
        subst hr
        exact ret_i hx hb hrt hlocks hP hS dX8_sideOfCell_70
      · have hr := (if_pos c48).symm.trans hr
        refine lv_aload_n hx hb dX8_sideOfCell_51 rfl (lv_at hl 2 rfl) ?_
        refine lv_iload_n hx hb dX8_sideOfCell_52 rfl (lv_at hl 1 rfl) ?_
        refine lv_iload hx hb dX8_sideOfCell_53 (lv_at hl 0 rfl) ?_
        refine go_i (ru_V (n := 2) ⟨hx, hb, hml, hown, hts⟩ hk hP (c_X8_standing l D cI cL cZ ad m_w m_h m_c m_s m_le m_un m_he m_ro m_wi m_hi m_hr m_hp m_rn m_rw m_rh m_n m_l m_b m_to m_hs m_ho m_tx m_ik m_wt m_ac m_ap m_pa m_im m_ri hAd (p1 - p1 / m_w * m_w) (p1 / m_w) _ rfl) (cwV 2 hts (gV q4_8 q4_10 qs3_3 q1_11 q4_11) rfl rfl rfl hd_X8_standing ⟨Nat.le_of_ble_eq_true rfl, Nat.le_of_ble_eq_true rfl⟩) (va_recv hk.1 hP (ci := 8) (q0 := 0) rfl rfl) rfl hl.1 rfl (Nat.le_of_ble_eq_true rfl) dX8_sideOfCell_55 ⟨Nat.zero_le _, Nat.zero_le _⟩) hS (fun _ h => h) (fun H locs hP hS => ?_)
        have hP : va_P D vwCl (mw ad cI cL cZ m_w m_h m_c m_s m_le m_un m_he m_ro m_wi m_hi m_hr m_hp m_rn m_rw m_rh m_n m_l m_b m_to m_hs m_ho m_tx m_ik m_wt m_ac m_ap m_pa m_im m_ri) H := hP
        refine lv_goto (tgt := 70) hx hb dX8_sideOfCell_58 (by decide) ?_
        subst hr
        exact ret_i hx hb hrt hlocks hP hS dX8_sideOfCell_70
    · have hr := (if_pos c31).symm.trans hr
      refine lv_aload_n hx hb dX8_sideOfCell_34 rfl (lv_at hl 2 rfl) ?_
      refine lv_iload_n hx hb dX8_sideOfCell_35 rfl (lv_at hl 1 rfl) ?_
      refine lv_iload hx hb dX8_sideOfCell_36 (lv_at hl 0 rfl) ?_
      refine lv_iconst (v := 1) hx hb dX8_sideOfCell_38 (by decide) ?_
      refine lv_iadd hx hb dX8_sideOfCell_39 ?_
      refine go_i (ru_V (n := 2) ⟨hx, hb, hml, hown, hts⟩ hk hP (c_X8_lying l D cI cL cZ ad m_w m_h m_c m_s m_le m_un m_he m_ro m_wi m_hi m_hr m_hp m_rn m_rw m_rh m_n m_l m_b m_to m_hs m_ho m_tx m_ik m_wt m_ac m_ap m_pa m_im m_ri hAd (p1 - p1 / m_w * m_w) ((p1 / m_w) + 1) _ rfl) (cwV 2 hts (gV q3_233 q3_235 qs3_0 q1_11 q3_236) rfl rfl rfl hd_X8_lying ⟨Nat.le_of_ble_eq_true rfl, Nat.le_of_ble_eq_true rfl⟩) (va_recv hk.1 hP (ci := 8) (q0 := 0) rfl rfl) rfl hl.1 rfl (Nat.le_of_ble_eq_true rfl) dX8_sideOfCell_40 ⟨Nat.zero_le _, Nat.zero_le _⟩) hS (fun _ h => h) (fun H locs hP hS => ?_)
      have hP : va_P D vwCl (mw ad cI cL cZ m_w m_h m_c m_s m_le m_un m_he m_ro m_wi m_hi m_hr m_hp m_rn m_rw m_rh m_n m_l m_b m_to m_hs m_ho m_tx m_ik m_wt m_ac m_ap m_pa m_im m_ri) H := hP
      refine lv_goto (tgt := 70) hx hb dX8_sideOfCell_43 (by decide) ?_
      subst hr
      exact ret_i hx hb hrt hlocks hP hS dX8_sideOfCell_70
  · have hr := (if_pos c16).symm.trans hr
    refine lv_aload_n hx hb dX8_sideOfCell_19 rfl (lv_at hl 2 rfl) ?_
    refine lv_iload_n hx hb dX8_sideOfCell_20 rfl (lv_at hl 1 rfl) ?_
    refine lv_iload hx hb dX8_sideOfCell_21 (lv_at hl 0 rfl) ?_
    refine go_i (ru_V (n := 2) ⟨hx, hb, hml, hown, hts⟩ hk hP (c_X8_lying l D cI cL cZ ad m_w m_h m_c m_s m_le m_un m_he m_ro m_wi m_hi m_hr m_hp m_rn m_rw m_rh m_n m_l m_b m_to m_hs m_ho m_tx m_ik m_wt m_ac m_ap m_pa m_im m_ri hAd (p1 - p1 / m_w * m_w) (p1 / m_w) _ rfl) (cwV 2 hts (gV q3_233 q3_235 qs3_0 q1_11 q3_236) rfl rfl rfl hd_X8_lying ⟨Nat.le_of_ble_eq_true rfl, Nat.le_of_ble_eq_true rfl⟩) (va_recv hk.1 hP (ci := 8) (q0 := 0) rfl rfl) rfl hl.1 rfl (Nat.le_of_ble_eq_true rfl) dX8_sideOfCell_23 ⟨Nat.zero_le _, Nat.zero_le _⟩) hS (fun _ h => h) (fun H locs hP hS => ?_)
    have hP : va_P D vwCl (mw ad cI cL cZ m_w m_h m_c m_s m_le m_un m_he m_ro m_wi m_hi m_hr m_hp m_rn m_rw m_rh m_n m_l m_b m_to m_hs m_ho m_tx m_ik m_wt m_ac m_ap m_pa m_im m_ri) H := hP
    refine lv_goto (tgt := 70) hx hb dX8_sideOfCell_26 (by decide) ?_
    subst hr
    exact ret_i hx hb hrt hlocks hP hS dX8_sideOfCell_70
theorem hd_X8_sideOfPoint : yX8_sideOfPoint.cls = RX8 ∧ yX8_sideOfPoint.cls ≠ "java/lang/invoke/MethodHandle" ∧ yX8_sideOfPoint.cls ≠ "java/lang/invoke/VarHandle" ∧ (parseMethodDescriptor yX8_sideOfPoint.desc).map (fun d => d.parameters.length) = some 2 := by decide +kernel
def f_X8_sideOfPoint (p1 : Int32) (p2 : Int32) (m_w : Int32) (m_h : Int32) : Int32 := (if p2 = 0 then (if (p1 - p1 / (m_w + 1) * (m_w + 1)) ≤ 0 then (-9) else f_X8_lying ((p1 - p1 / (m_w + 1) * (m_w + 1)) - 1) (p1 / (m_w + 1)) m_w) else (if p2 = 1 then (if m_w ≤ (p1 - p1 / (m_w + 1) * (m_w + 1)) then (-9) else f_X8_lying (p1 - p1 / (m_w + 1) * (m_w + 1)) (p1 / (m_w + 1)) m_w) else (if p2 = 2 then (if (p1 / (m_w + 1)) ≤ 0 then (-9) else f_X8_standing (p1 - p1 / (m_w + 1) * (m_w + 1)) ((p1 / (m_w + 1)) - 1) m_w m_h) else (if m_h ≤ (p1 / (m_w + 1)) then (-9) else f_X8_standing (p1 - p1 / (m_w + 1) * (m_w + 1)) (p1 / (m_w + 1)) m_w m_h))))
set_option maxHeartbeats 4000000 in
set_option maxRecDepth 100000 in
theorem c_X8_sideOfPoint (l : Launch) (D : va_G) (cI cL cZ : ClassId) (ad : Nat → Nat) (m_w m_h m_c m_s m_le m_un m_he m_ro m_wi m_hi m_hr m_hp m_rn m_rw m_rh : Int32) (m_n m_l m_b m_to m_hs : Int64) (m_ho m_tx m_ik m_wt : Nat → Int32) (m_ac m_ap m_pa m_im m_ri : Nat → Int64) (hAd : mInj ad) (p1 p2 : Int32) (r : Int32) (hr : f_X8_sideOfPoint p1 p2 m_w m_h = r) (hg : wh m_w m_h) : MI l yX8_sideOfPoint (Cond.code yX8_sideOfPoint cX8_sideOfPoint 5 (some .int) :: W0) 1 22 D cI cL cZ (mAd ad) [.ref (ad 0), .int p1, .int p2] (mw ad cI cL cZ m_w m_h m_c m_s m_le m_un m_he m_ro m_wi m_hi m_hr m_hp m_rn m_rw m_rh m_n m_l m_b m_to m_hs m_ho m_tx m_ik m_wt m_ac m_ap m_pa m_im m_ri) r (mw ad cI cL cZ m_w m_h m_c m_s m_le m_un m_he m_ro m_wi m_hi m_hr m_hp m_rn m_rw m_rh m_n m_l m_b m_to m_hs m_ho m_tx m_ik m_wt m_ac m_ap m_pa m_im m_ri) := by
  refine mk_start (cc := cX8_sideOfPoint) (maxL := 5) (ret := (some .int)) (by decide) rfl (Nat.le_of_ble_eq_true rfl) ?_
  intro p e s m below meth c ls C hP hS hl
  obtain ⟨hx, hb, hml, hrt, hlocks, hown, hts, hk⟩ := C
  have hown : s.vm.findClass RX8 = some m.cls := hown
  have hl : lv_has ls 5 [(0, .ref (ad 0)), (1, .int p1), (2, .int p2)] := hl
  rw [f_X8_sideOfPoint] at hr
  refine lv_iload_n hx hb dX8_sideOfPoint_0 rfl (lv_at hl 1 rfl) ?_
  refine lv_aload_n hx hb dX8_sideOfPoint_1 rfl (lv_at hl 0 rfl) ?_
  refine va_get (D := D) (ci := 8) (v := .int m_w) (C := RX8) (T := TX8) (N := 29) hx hb hts u_X8 hown hk.1 hP 0 rfl rfl 3 (by decide) (hts _ q4_15) (fun _ h9 => h9) rfl dX8_sideOfPoint_2 ?_
  refine lv_iconst (v := 1) hx hb dX8_sideOfPoint_5 (by decide) ?_
  refine lv_iadd hx hb dX8_sideOfPoint_6 ?_
  refine lv_irem hx hb dX8_sideOfPoint_7 (wh_nums hg).2.2 ?_
  refine lv_istore_n (lv' := [(3, .int (p1 - p1 / (m_w + 1) * (m_w + 1))), (0, .ref (ad 0)), (1, .int p1), (2, .int p2)]) hx hb dX8_sideOfPoint_8 rfl hl (by decide) rfl (fun ls hl => ?_)
  refine lv_iload_n hx hb dX8_sideOfPoint_9 rfl (lv_at hl 2 rfl) ?_
  refine lv_aload_n hx hb dX8_sideOfPoint_10 rfl (lv_at hl 1 rfl) ?_
  refine va_get (D := D) (ci := 8) (v := .int m_w) (C := RX8) (T := TX8) (N := 29) hx hb hts u_X8 hown hk.1 hP 0 rfl rfl 3 (by decide) (hts _ q4_15) (fun _ h9 => h9) rfl dX8_sideOfPoint_11 ?_
  refine lv_iconst (v := 1) hx hb dX8_sideOfPoint_14 (by decide) ?_
  refine lv_iadd hx hb dX8_sideOfPoint_15 ?_
  refine lv_idiv hx hb dX8_sideOfPoint_16 (wh_nums hg).2.2 ?_
  refine lv_istore (lv' := [(4, .int (p1 / (m_w + 1))), (3, .int (p1 - p1 / (m_w + 1) * (m_w + 1))), (0, .ref (ad 0)), (1, .int p1), (2, .int p2)]) hx hb dX8_sideOfPoint_17 hl (by decide) rfl (fun ls hl => ?_)
  refine lv_iload_n hx hb dX8_sideOfPoint_19 rfl (lv_at hl 4 rfl) ?_
  by_cases c20_0 : p2 = 0
  · have hr := (if_pos c20_0).symm.trans hr
    refine lv_tableIn (tgt := 48) (off := 28) hx hb dX8_sideOfPoint_20 (by rw [c20_0]; decide) (by rw [c20_0]; decide) (by rw [c20_0]; rfl) (by decide) ?_
    refine lv_iload_n hx hb dX8_sideOfPoint_48 rfl (lv_at hl 1 rfl) ?_
    refine lv_if_le (tgt := 64) hx hb dX8_sideOfPoint_49 (by decide) (fun c49 => ?_) (fun c49 => ?_)
    · have hr := (if_pos c49).symm.trans hr
      refine lv_bipush (v := (-9)) hx hb dX8_sideOfPoint_64 (by decide) ?_
      subst hr
      exact ret_i hx hb hrt hlocks hP hS dX8_sideOfPoint_66
    · have hr := (if_neg c49).symm.trans hr
      refine lv_aload_n hx hb dX8_sideOfPoint_52 rfl (lv_at hl 2 rfl) ?_
      refine lv_iload_n hx hb dX8_sideOfPoint_53 rfl (lv_at hl 1 rfl) ?_
      refine lv_iconst (v := 1) hx hb dX8_sideOfPoint_54 (by decide) ?_
      refine lv_isub hx hb dX8_sideOfPoint_55 ?_
      refine lv_iload hx hb dX8_sideOfPoint_56 (lv_at hl 0 rfl) ?_
      refine go_i (ru_V (n := 2) ⟨hx, hb, hml, hown, hts⟩ hk hP (c_X8_lying l D cI cL cZ ad m_w m_h m_c m_s m_le m_un m_he m_ro m_wi m_hi m_hr m_hp m_rn m_rw m_rh m_n m_l m_b m_to m_hs m_ho m_tx m_ik m_wt m_ac m_ap m_pa m_im m_ri hAd ((p1 - p1 / (m_w + 1) * (m_w + 1)) - 1) (p1 / (m_w + 1)) _ rfl) (cwV 2 hts (gV q3_233 q3_235 qs3_0 q1_11 q3_236) rfl rfl rfl hd_X8_lying ⟨Nat.le_of_ble_eq_true rfl, Nat.le_of_ble_eq_true rfl⟩) (va_recv hk.1 hP (ci := 8) (q0 := 0) rfl rfl) rfl hl.1 rfl (Nat.le_of_ble_eq_true rfl) dX8_sideOfPoint_58 ⟨Nat.zero_le _, Nat.zero_le _⟩) hS (fun _ h => h) (fun H locs hP hS => ?_)
      have hP : va_P D vwCl (mw ad cI cL cZ m_w m_h m_c m_s m_le m_un m_he m_ro m_wi m_hi m_hr m_hp m_rn m_rw m_rh m_n m_l m_b m_to m_hs m_ho m_tx m_ik m_wt m_ac m_ap m_pa m_im m_ri) H := hP
      refine lv_goto (tgt := 66) hx hb dX8_sideOfPoint_61 (by decide) ?_
      subst hr
      exact ret_i hx hb hrt hlocks hP hS dX8_sideOfPoint_66
  · have hr := (if_neg c20_0).symm.trans hr
    by_cases c20_1 : p2 = 1
    · have hr := (if_pos c20_1).symm.trans hr
      refine lv_tableIn (tgt := 67) (off := 47) hx hb dX8_sideOfPoint_20 (by rw [c20_1]; decide) (by rw [c20_1]; decide) (by rw [c20_1]; rfl) (by decide) ?_
      refine lv_iload_n hx hb dX8_sideOfPoint_67 rfl (lv_at hl 1 rfl) ?_
      refine lv_aload_n hx hb dX8_sideOfPoint_68 rfl (lv_at hl 2 rfl) ?_
      refine va_get (D := D) (ci := 8) (v := .int m_w) (C := RX8) (T := TX8) (N := 29) hx hb hts u_X8 hown hk.1 hP 0 rfl rfl 3 (by decide) (hts _ q4_15) (fun _ h9 => h9) rfl dX8_sideOfPoint_69 ?_
      refine lv_icmp_ge (tgt := 85) hx hb dX8_sideOfPoint_72 (by decide) (fun c72 => ?_) (fun c72 => ?_)
      · have hr := (if_pos c72).symm.trans hr
        refine lv_bipush (v := (-9)) hx hb dX8_sideOfPoint_85 (by decide) ?_
        subst hr
        exact ret_i hx hb hrt hlocks hP hS dX8_sideOfPoint_87
      · have hr := (if_neg c72).symm.trans hr
        refine lv_aload_n hx hb dX8_sideOfPoint_75 rfl (lv_at hl 2 rfl) ?_
        refine lv_iload_n hx hb dX8_sideOfPoint_76 rfl (lv_at hl 1 rfl) ?_
        refine lv_iload hx hb dX8_sideOfPoint_77 (lv_at hl 0 rfl) ?_
        refine go_i (ru_V (n := 2) ⟨hx, hb, hml, hown, hts⟩ hk hP (c_X8_lying l D cI cL cZ ad m_w m_h m_c m_s m_le m_un m_he m_ro m_wi m_hi m_hr m_hp m_rn m_rw m_rh m_n m_l m_b m_to m_hs m_ho m_tx m_ik m_wt m_ac m_ap m_pa m_im m_ri hAd (p1 - p1 / (m_w + 1) * (m_w + 1)) (p1 / (m_w + 1)) _ rfl) (cwV 2 hts (gV q3_233 q3_235 qs3_0 q1_11 q3_236) rfl rfl rfl hd_X8_lying ⟨Nat.le_of_ble_eq_true rfl, Nat.le_of_ble_eq_true rfl⟩) (va_recv hk.1 hP (ci := 8) (q0 := 0) rfl rfl) rfl hl.1 rfl (Nat.le_of_ble_eq_true rfl) dX8_sideOfPoint_79 ⟨Nat.zero_le _, Nat.zero_le _⟩) hS (fun _ h => h) (fun H locs hP hS => ?_)
        have hP : va_P D vwCl (mw ad cI cL cZ m_w m_h m_c m_s m_le m_un m_he m_ro m_wi m_hi m_hr m_hp m_rn m_rw m_rh m_n m_l m_b m_to m_hs m_ho m_tx m_ik m_wt m_ac m_ap m_pa m_im m_ri) H := hP
        refine lv_goto (tgt := 87) hx hb dX8_sideOfPoint_82 (by decide) ?_
        subst hr
        exact ret_i hx hb hrt hlocks hP hS dX8_sideOfPoint_87
    · have hr := (if_neg c20_1).symm.trans hr
      by_cases c20_2 : p2 = 2
      · have hr := (if_pos c20_2).symm.trans hr
        refine lv_tableIn (tgt := 88) (off := 68) hx hb dX8_sideOfPoint_20 (by rw [c20_2]; decide) (by rw [c20_2]; decide) (by rw [c20_2]; rfl) (by decide) ?_
        refine lv_iload hx hb dX8_sideOfPoint_88 (lv_at hl 0 rfl) ?_
        refine lv_if_le (tgt := 105) hx hb dX8_sideOfPoint_90 (by decide) (fun c90 => ?_) (fun c90 => ?_)
        · have hr := (if_pos c90).symm.trans hr
          refine lv_bipush (v := (-9)) hx hb dX8_sideOfPoint_105 (by decide) ?_
          subst hr
          exact ret_i hx hb hrt hlocks hP hS dX8_sideOfPoint_107
        · have hr := (if_neg c90).symm.trans hr
          refine lv_aload_n hx hb dX8_sideOfPoint_93 rfl (lv_at hl 2 rfl) ?_
          refine lv_iload_n hx hb dX8_sideOfPoint_94 rfl (lv_at hl 1 rfl) ?_
          refine lv_iload hx hb dX8_sideOfPoint_95 (lv_at hl 0 rfl) ?_
          refine lv_iconst (v := 1) hx hb dX8_sideOfPoint_97 (by decide) ?_
          refine lv_isub hx hb dX8_sideOfPoint_98 ?_
          refine go_i (ru_V (n := 2) ⟨hx, hb, hml, hown, hts⟩ hk hP (c_X8_standing l D cI cL cZ ad m_w m_h m_c m_s m_le m_un m_he m_ro m_wi m_hi m_hr m_hp m_rn m_rw m_rh m_n m_l m_b m_to m_hs m_ho m_tx m_ik m_wt m_ac m_ap m_pa m_im m_ri hAd (p1 - p1 / (m_w + 1) * (m_w + 1)) ((p1 / (m_w + 1)) - 1) _ rfl) (cwV 2 hts (gV q4_8 q4_10 qs3_3 q1_11 q4_11) rfl rfl rfl hd_X8_standing ⟨Nat.le_of_ble_eq_true rfl, Nat.le_of_ble_eq_true rfl⟩) (va_recv hk.1 hP (ci := 8) (q0 := 0) rfl rfl) rfl hl.1 rfl (Nat.le_of_ble_eq_true rfl) dX8_sideOfPoint_99 ⟨Nat.zero_le _, Nat.zero_le _⟩) hS (fun _ h => h) (fun H locs hP hS => ?_)
          have hP : va_P D vwCl (mw ad cI cL cZ m_w m_h m_c m_s m_le m_un m_he m_ro m_wi m_hi m_hr m_hp m_rn m_rw m_rh m_n m_l m_b m_to m_hs m_ho m_tx m_ik m_wt m_ac m_ap m_pa m_im m_ri) H := hP
          refine lv_goto (tgt := 107) hx hb dX8_sideOfPoint_102 (by decide) ?_
          subst hr
          exact ret_i hx hb hrt hlocks hP hS dX8_sideOfPoint_107
      · have hr := (if_neg c20_2).symm.trans hr
        refine lv_tableOut (tgt := 108) hx hb dX8_sideOfPoint_20 (sw_out3 c20_0 c20_1 c20_2) (by decide) ?_
        refine lv_iload hx hb dX8_sideOfPoint_108 (lv_at hl 0 rfl) ?_
        refine lv_aload_n hx hb dX8_sideOfPoint_110 rfl (lv_at hl 2 rfl) ?_
        refine va_get (D := D) (ci := 8) (v := .int m_h) (C := RX8) (T := TX8) (N := 29) hx hb hts u_X8 hown hk.1 hP 0 rfl rfl 4 (by decide) (hts _ q4_16) (fun _ h9 => h9) rfl dX8_sideOfPoint_111 ?_
        refine lv_icmp_ge (tgt := 127) hx hb dX8_sideOfPoint_114 (by decide) (fun c114 => ?_) (fun c114 => ?_)
        · have hr := (if_pos c114).symm.trans hr
          refine lv_bipush (v := (-9)) hx hb dX8_sideOfPoint_127 (by decide) ?_
          subst hr
          exact ret_i hx hb hrt hlocks hP hS dX8_sideOfPoint_129
        · have hr := (if_neg c114).symm.trans hr
          refine lv_aload_n hx hb dX8_sideOfPoint_117 rfl (lv_at hl 2 rfl) ?_
          refine lv_iload_n hx hb dX8_sideOfPoint_118 rfl (lv_at hl 1 rfl) ?_
          refine lv_iload hx hb dX8_sideOfPoint_119 (lv_at hl 0 rfl) ?_
          refine go_i (ru_V (n := 2) ⟨hx, hb, hml, hown, hts⟩ hk hP (c_X8_standing l D cI cL cZ ad m_w m_h m_c m_s m_le m_un m_he m_ro m_wi m_hi m_hr m_hp m_rn m_rw m_rh m_n m_l m_b m_to m_hs m_ho m_tx m_ik m_wt m_ac m_ap m_pa m_im m_ri hAd (p1 - p1 / (m_w + 1) * (m_w + 1)) (p1 / (m_w + 1)) _ rfl) (cwV 2 hts (gV q4_8 q4_10 qs3_3 q1_11 q4_11) rfl rfl rfl hd_X8_standing ⟨Nat.le_of_ble_eq_true rfl, Nat.le_of_ble_eq_true rfl⟩) (va_recv hk.1 hP (ci := 8) (q0 := 0) rfl rfl) rfl hl.1 rfl (Nat.le_of_ble_eq_true rfl) dX8_sideOfPoint_121 ⟨Nat.zero_le _, Nat.zero_le _⟩) hS (fun _ h => h) (fun H locs hP hS => ?_)
          have hP : va_P D vwCl (mw ad cI cL cZ m_w m_h m_c m_s m_le m_un m_he m_ro m_wi m_hi m_hr m_hp m_rn m_rw m_rh m_n m_l m_b m_to m_hs m_ho m_tx m_ik m_wt m_ac m_ap m_pa m_im m_ri) H := hP
          refine lv_goto (tgt := 129) hx hb dX8_sideOfPoint_124 (by decide) ?_
          subst hr
          exact ret_i hx hb hrt hlocks hP hS dX8_sideOfPoint_129
theorem hd_X8_sideOf : yX8_sideOf.cls = RX8 ∧ yX8_sideOf.cls ≠ "java/lang/invoke/MethodHandle" ∧ yX8_sideOf.cls ≠ "java/lang/invoke/VarHandle" ∧ (parseMethodDescriptor yX8_sideOf.desc).map (fun d => d.parameters.length) = some 3 := by decide +kernel
def f_X8_sideOf (p1 : Int32) (p2 : Int32) (p3 : Int32) (m_w : Int32) (m_h : Int32) (m_c : Int32) : Int32 := (if (f_X8_in p1.toInt64 0 1) = 0 then (-1) else (if p1 = 0 then (if (f_X8_in p2.toInt64 0 ((m_c - 1).toInt64)) = 0 then (-1) else (if (f_X8_in p3.toInt64 0 3) = 0 then (-1) else (if p1 = 0 then f_X8_sideOfCell p2 p3 m_w m_h else f_X8_sideOfPoint p2 p3 m_w m_h))) else (if (f_X8_in p2.toInt64 0 (((f_X8_points m_w m_h) - 1).toInt64)) = 0 then (-1) else (if (f_X8_in p3.toInt64 0 3) = 0 then (-1) else (if p1 = 0 then f_X8_sideOfCell p2 p3 m_w m_h else f_X8_sideOfPoint p2 p3 m_w m_h)))))
set_option maxHeartbeats 4000000 in
set_option maxRecDepth 100000 in
theorem c_X8_sideOf (l : Launch) (D : va_G) (cI cL cZ : ClassId) (ad : Nat → Nat) (m_w m_h m_c m_s m_le m_un m_he m_ro m_wi m_hi m_hr m_hp m_rn m_rw m_rh : Int32) (m_n m_l m_b m_to m_hs : Int64) (m_ho m_tx m_ik m_wt : Nat → Int32) (m_ac m_ap m_pa m_im m_ri : Nat → Int64) (hAd : mInj ad) (p1 p2 p3 : Int32) (r : Int32) (hr : f_X8_sideOf p1 p2 p3 m_w m_h m_c = r) (hg : wh m_w m_h) : MI l yX8_sideOf (Cond.code yX8_sideOf cX8_sideOf 4 (some .int) :: W0) 2 46 D cI cL cZ (mAd ad) [.ref (ad 0), .int p1, .int p2, .int p3] (mw ad cI cL cZ m_w m_h m_c m_s m_le m_un m_he m_ro m_wi m_hi m_hr m_hp m_rn m_rw m_rh m_n m_l m_b m_to m_hs m_ho m_tx m_ik m_wt m_ac m_ap m_pa m_im m_ri) r (mw ad cI cL cZ m_w m_h m_c m_s m_le m_un m_he m_ro m_wi m_hi m_hr m_hp m_rn m_rw m_rh m_n m_l m_b m_to m_hs m_ho m_tx m_ik m_wt m_ac m_ap m_pa m_im m_ri) := by
  refine mk_start (cc := cX8_sideOf) (maxL := 4) (ret := (some .int)) (by decide) rfl (Nat.le_of_ble_eq_true rfl) ?_
  intro p e s m below meth c ls C hP hS hl
  obtain ⟨hx, hb, hml, hrt, hlocks, hown, hts, hk⟩ := C
  have hown : s.vm.findClass RX8 = some m.cls := hown
  have hl : lv_has ls 4 [(0, .ref (ad 0)), (1, .int p1), (2, .int p2), (3, .int p3)] := hl
  rw [f_X8_sideOf] at hr
  refine lv_iload_n hx hb dX8_sideOf_0 rfl (lv_at hl 1 rfl) ?_
  refine lv_i2l hx hb dX8_sideOf_1 rfl ?_
  refine lv_lconst (v := 0) hx hb dX8_sideOf_2 (by decide) ?_
  refine lv_lconst (v := 1) hx hb dX8_sideOf_3 (by decide) ?_
  refine go_z (ru_S (n := 3) ⟨hx, hb, hml, hown, hts⟩ hk hP (c_X8_in l D cI cL cZ (mAd ad) (mw ad cI cL cZ m_w m_h m_c m_s m_le m_un m_he m_ro m_wi m_hi m_hr m_hp m_rn m_rw m_rh m_n m_l m_b m_to m_hs m_ho m_tx m_ik m_wt m_ac m_ap m_pa m_im m_ri) p1.toInt64 0 1 _ rfl) (va_cwS 3 hts (gS q4_1 q4_2 q1_11 q4_3) rfl rfl rfl hd_X8_in ⟨Nat.le_of_ble_eq_true rfl, Nat.le_of_ble_eq_true rfl⟩) rfl hl.1 rfl (Nat.le_of_ble_eq_true rfl) dX8_sideOf_4 ⟨Nat.zero_le _, Nat.zero_le _⟩) hS (fun _ h => h) (fun H locs hz4 hP hS => ?_)
  have hP : va_P D vwCl (mw ad cI cL cZ m_w m_h m_c m_s m_le m_un m_he m_ro m_wi m_hi m_hr m_hp m_rn m_rw m_rh m_n m_l m_b m_to m_hs m_ho m_tx m_ik m_wt m_ac m_ap m_pa m_im m_ri) H := hP
  refine lv_if_eq (tgt := 49) hx hb dX8_sideOf_7 (by decide) (fun c7 => ?_) (fun c7 => ?_)
  · have hr := (if_pos c7).symm.trans hr
    refine lv_iconst (v := (-1)) hx hb dX8_sideOf_49 (by decide) ?_
    subst hr
    exact ret_i hx hb hrt hlocks hP hS dX8_sideOf_50
  · have hr := (if_neg c7).symm.trans hr
    refine lv_iload_n hx hb dX8_sideOf_10 rfl (lv_at hl 2 rfl) ?_
    refine lv_i2l hx hb dX8_sideOf_11 rfl ?_
    refine lv_lconst (v := 0) hx hb dX8_sideOf_12 (by decide) ?_
    refine lv_iload_n hx hb dX8_sideOf_13 rfl (lv_at hl 1 rfl) ?_
    refine lv_if_ne (tgt := 24) hx hb dX8_sideOf_14 (by decide) (fun c14 => ?_) (fun c14 => ?_)
    · have hr := (if_neg c14).symm.trans hr
      refine lv_aload_n hx hb dX8_sideOf_24 rfl (lv_at hl 0 rfl) ?_
      refine go_i (ru_V (n := 0) ⟨hx, hb, hml, hown, hts⟩ hk hP (c_X8_points l D cI cL cZ ad m_w m_h m_c m_s m_le m_un m_he m_ro m_wi m_hi m_hr m_hp m_rn m_rw m_rh m_n m_l m_b m_to m_hs m_ho m_tx m_ik m_wt m_ac m_ap m_pa m_im m_ri hAd _ rfl) (cwV 0 hts (gV q4_160 q4_162 qs3_11 q1_11 q4_163) rfl rfl rfl hd_X8_points ⟨Nat.le_of_ble_eq_true rfl, Nat.le_of_ble_eq_true rfl⟩) (va_recv hk.1 hP (ci := 8) (q0 := 0) rfl rfl) rfl hl.1 rfl (Nat.le_of_ble_eq_true rfl) dX8_sideOf_25 ⟨Nat.zero_le _, Nat.zero_le _⟩) hS (fun _ h => h) (fun H locs hP hS => ?_)
      have hP : va_P D vwCl (mw ad cI cL cZ m_w m_h m_c m_s m_le m_un m_he m_ro m_wi m_hi m_hr m_hp m_rn m_rw m_rh m_n m_l m_b m_to m_hs m_ho m_tx m_ik m_wt m_ac m_ap m_pa m_im m_ri) H := hP
      refine lv_iconst (v := 1) hx hb dX8_sideOf_28 (by decide) ?_
      refine lv_isub hx hb dX8_sideOf_29 ?_
      refine lv_i2l hx hb dX8_sideOf_30 rfl ?_
      refine go_z (ru_S (n := 3) ⟨hx, hb, hml, hown, hts⟩ hk hP (c_X8_in l D cI cL cZ (mAd ad) (mw ad cI cL cZ m_w m_h m_c m_s m_le m_un m_he m_ro m_wi m_hi m_hr m_hp m_rn m_rw m_rh m_n m_l m_b m_to m_hs m_ho m_tx m_ik m_wt m_ac m_ap m_pa m_im m_ri) p2.toInt64 0 (((f_X8_points m_w m_h) - 1).toInt64) _ rfl) (va_cwS 3 hts (gS q4_1 q4_2 q1_11 q4_3) rfl rfl rfl hd_X8_in ⟨Nat.le_of_ble_eq_true rfl, Nat.le_of_ble_eq_true rfl⟩) rfl hl.1 rfl (Nat.le_of_ble_eq_true rfl) dX8_sideOf_31 ⟨Nat.zero_le _, Nat.zero_le _⟩) hS (fun _ h => h) (fun H locs hz31 hP hS => ?_)
      have hP : va_P D vwCl (mw ad cI cL cZ m_w m_h m_c m_s m_le m_un m_he m_ro m_wi m_hi m_hr m_hp m_rn m_rw m_rh m_n m_l m_b m_to m_hs m_ho m_tx m_ik m_wt m_ac m_ap m_pa m_im m_ri) H := hP
      refine lv_if_eq (tgt := 49) hx hb dX8_sideOf_34 (by decide) (fun c34 => ?_) (fun c34 => ?_)
      · have hr := (if_pos c34).symm.trans hr
        refine lv_iconst (v := (-1)) hx hb dX8_sideOf_49 (by decide) ?_
        subst hr
        exact ret_i hx hb hrt hlocks hP hS dX8_sideOf_50
      · have hr := (if_neg c34).symm.trans hr
        refine lv_iload_n hx hb dX8_sideOf_37 rfl (lv_at hl 3 rfl) ?_
        refine lv_i2l hx hb dX8_sideOf_38 rfl ?_
        refine lv_lconst (v := 0) hx hb dX8_sideOf_39 (by decide) ?_
        refine lv_ldc2 hx hb hown (hts _ q4_164) dX8_sideOf_40 ?_
        refine go_z (ru_S (n := 3) ⟨hx, hb, hml, hown, hts⟩ hk hP (c_X8_in l D cI cL cZ (mAd ad) (mw ad cI cL cZ m_w m_h m_c m_s m_le m_un m_he m_ro m_wi m_hi m_hr m_hp m_rn m_rw m_rh m_n m_l m_b m_to m_hs m_ho m_tx m_ik m_wt m_ac m_ap m_pa m_im m_ri) p3.toInt64 0 3 _ rfl) (va_cwS 3 hts (gS q4_1 q4_2 q1_11 q4_3) rfl rfl rfl hd_X8_in ⟨Nat.le_of_ble_eq_true rfl, Nat.le_of_ble_eq_true rfl⟩) rfl hl.1 rfl (Nat.le_of_ble_eq_true rfl) dX8_sideOf_43 ⟨Nat.zero_le _, Nat.zero_le _⟩) hS (fun _ h => h) (fun H locs hz43 hP hS => ?_)
        have hP : va_P D vwCl (mw ad cI cL cZ m_w m_h m_c m_s m_le m_un m_he m_ro m_wi m_hi m_hr m_hp m_rn m_rw m_rh m_n m_l m_b m_to m_hs m_ho m_tx m_ik m_wt m_ac m_ap m_pa m_im m_ri) H := hP
        refine lv_if_ne (tgt := 51) hx hb dX8_sideOf_46 (by decide) (fun c46 => ?_) (fun c46 => ?_)
        · have hr := (if_neg c46).symm.trans hr
          refine lv_iload_n hx hb dX8_sideOf_51 rfl (lv_at hl 1 rfl) ?_
          refine lv_if_ne (tgt := 64) hx hb dX8_sideOf_52 (by decide) (fun c52 => ?_) (fun c52 => ?_)
          · have hr := (if_neg c52).symm.trans hr
            refine lv_aload_n hx hb dX8_sideOf_64 rfl (lv_at hl 0 rfl) ?_
            refine lv_iload_n hx hb dX8_sideOf_65 rfl (lv_at hl 2 rfl) ?_
            refine lv_iload_n hx hb dX8_sideOf_66 rfl (lv_at hl 3 rfl) ?_
            refine go_i (ru_V (n := 2) ⟨hx, hb, hml, hown, hts⟩ hk hP (c_X8_sideOfPoint l D cI cL cZ ad m_w m_h m_c m_s m_le m_un m_he m_ro m_wi m_hi m_hr m_hp m_rn m_rw m_rh m_n m_l m_b m_to m_hs m_ho m_tx m_ik m_wt m_ac m_ap m_pa m_im m_ri hAd p2 p3 _ rfl hg) (cwV 2 hts (gV q4_169 q4_171 qs3_13 q1_11 q4_172) rfl rfl rfl hd_X8_sideOfPoint ⟨Nat.le_of_ble_eq_true rfl, Nat.le_of_ble_eq_true rfl⟩) (va_recv hk.1 hP (ci := 8) (q0 := 0) rfl rfl) rfl hl.1 rfl (Nat.le_of_ble_eq_true rfl) dX8_sideOf_67 ⟨Nat.zero_le _, Nat.zero_le _⟩) hS (fun _ h => h) (fun H locs hP hS => ?_)
            have hP : va_P D vwCl (mw ad cI cL cZ m_w m_h m_c m_s m_le m_un m_he m_ro m_wi m_hi m_hr m_hp m_rn m_rw m_rh m_n m_l m_b m_to m_hs m_ho m_tx m_ik m_wt m_ac m_ap m_pa m_im m_ri) H := hP
            subst hr
            exact ret_i hx hb hrt hlocks hP hS dX8_sideOf_70
          · have hr := (if_pos c52).symm.trans hr
            refine lv_aload_n hx hb dX8_sideOf_55 rfl (lv_at hl 0 rfl) ?_
            refine lv_iload_n hx hb dX8_sideOf_56 rfl (lv_at hl 2 rfl) ?_
            refine lv_iload_n hx hb dX8_sideOf_57 rfl (lv_at hl 3 rfl) ?_
            refine go_i (ru_V (n := 2) ⟨hx, hb, hml, hown, hts⟩ hk hP (c_X8_sideOfCell l D cI cL cZ ad m_w m_h m_c m_s m_le m_un m_he m_ro m_wi m_hi m_hr m_hp m_rn m_rw m_rh m_n m_l m_b m_to m_hs m_ho m_tx m_ik m_wt m_ac m_ap m_pa m_im m_ri hAd p2 p3 _ rfl hg) (cwV 2 hts (gV q4_165 q4_167 qs3_12 q1_11 q4_168) rfl rfl rfl hd_X8_sideOfCell ⟨Nat.le_of_ble_eq_true rfl, Nat.le_of_ble_eq_true rfl⟩) (va_recv hk.1 hP (ci := 8) (q0 := 0) rfl rfl) rfl hl.1 rfl (Nat.le_of_ble_eq_true rfl) dX8_sideOf_58 ⟨Nat.zero_le _, Nat.zero_le _⟩) hS (fun _ h => h) (fun H locs hP hS => ?_)
            have hP : va_P D vwCl (mw ad cI cL cZ m_w m_h m_c m_s m_le m_un m_he m_ro m_wi m_hi m_hr m_hp m_rn m_rw m_rh m_n m_l m_b m_to m_hs m_ho m_tx m_ik m_wt m_ac m_ap m_pa m_im m_ri) H := hP
            refine lv_goto (tgt := 70) hx hb dX8_sideOf_61 (by decide) ?_
            subst hr
            exact ret_i hx hb hrt hlocks hP hS dX8_sideOf_70
        · have hr := (if_pos c46).symm.trans hr
          refine lv_iconst (v := (-1)) hx hb dX8_sideOf_49 (by decide) ?_
          subst hr
          exact ret_i hx hb hrt hlocks hP hS dX8_sideOf_50
    · have hr := (if_pos c14).symm.trans hr
      refine lv_aload_n hx hb dX8_sideOf_17 rfl (lv_at hl 0 rfl) ?_
      refine va_get (D := D) (ci := 8) (v := .int m_c) (C := RX8) (T := TX8) (N := 29) hx hb hts u_X8 hown hk.1 hP 0 rfl rfl 5 (by decide) (hts _ q4_17) (fun _ h9 => h9) rfl dX8_sideOf_18 ?_
      refine lv_goto (tgt := 28) hx hb dX8_sideOf_21 (by decide) ?_
      refine lv_iconst (v := 1) hx hb dX8_sideOf_28 (by decide) ?_
      refine lv_isub hx hb dX8_sideOf_29 ?_
      refine lv_i2l hx hb dX8_sideOf_30 rfl ?_
      refine go_z (ru_S (n := 3) ⟨hx, hb, hml, hown, hts⟩ hk hP (c_X8_in l D cI cL cZ (mAd ad) (mw ad cI cL cZ m_w m_h m_c m_s m_le m_un m_he m_ro m_wi m_hi m_hr m_hp m_rn m_rw m_rh m_n m_l m_b m_to m_hs m_ho m_tx m_ik m_wt m_ac m_ap m_pa m_im m_ri) p2.toInt64 0 ((m_c - 1).toInt64) _ rfl) (va_cwS 3 hts (gS q4_1 q4_2 q1_11 q4_3) rfl rfl rfl hd_X8_in ⟨Nat.le_of_ble_eq_true rfl, Nat.le_of_ble_eq_true rfl⟩) rfl hl.1 rfl (Nat.le_of_ble_eq_true rfl) dX8_sideOf_31 ⟨Nat.zero_le _, Nat.zero_le _⟩) hS (fun _ h => h) (fun H locs hz31 hP hS => ?_)
      have hP : va_P D vwCl (mw ad cI cL cZ m_w m_h m_c m_s m_le m_un m_he m_ro m_wi m_hi m_hr m_hp m_rn m_rw m_rh m_n m_l m_b m_to m_hs m_ho m_tx m_ik m_wt m_ac m_ap m_pa m_im m_ri) H := hP
      refine lv_if_eq (tgt := 49) hx hb dX8_sideOf_34 (by decide) (fun c34 => ?_) (fun c34 => ?_)
      · have hr := (if_pos c34).symm.trans hr
        refine lv_iconst (v := (-1)) hx hb dX8_sideOf_49 (by decide) ?_
        subst hr
        exact ret_i hx hb hrt hlocks hP hS dX8_sideOf_50
      · have hr := (if_neg c34).symm.trans hr
        refine lv_iload_n hx hb dX8_sideOf_37 rfl (lv_at hl 3 rfl) ?_
        refine lv_i2l hx hb dX8_sideOf_38 rfl ?_
        refine lv_lconst (v := 0) hx hb dX8_sideOf_39 (by decide) ?_
        refine lv_ldc2 hx hb hown (hts _ q4_164) dX8_sideOf_40 ?_
        refine go_z (ru_S (n := 3) ⟨hx, hb, hml, hown, hts⟩ hk hP (c_X8_in l D cI cL cZ (mAd ad) (mw ad cI cL cZ m_w m_h m_c m_s m_le m_un m_he m_ro m_wi m_hi m_hr m_hp m_rn m_rw m_rh m_n m_l m_b m_to m_hs m_ho m_tx m_ik m_wt m_ac m_ap m_pa m_im m_ri) p3.toInt64 0 3 _ rfl) (va_cwS 3 hts (gS q4_1 q4_2 q1_11 q4_3) rfl rfl rfl hd_X8_in ⟨Nat.le_of_ble_eq_true rfl, Nat.le_of_ble_eq_true rfl⟩) rfl hl.1 rfl (Nat.le_of_ble_eq_true rfl) dX8_sideOf_43 ⟨Nat.zero_le _, Nat.zero_le _⟩) hS (fun _ h => h) (fun H locs hz43 hP hS => ?_)
        have hP : va_P D vwCl (mw ad cI cL cZ m_w m_h m_c m_s m_le m_un m_he m_ro m_wi m_hi m_hr m_hp m_rn m_rw m_rh m_n m_l m_b m_to m_hs m_ho m_tx m_ik m_wt m_ac m_ap m_pa m_im m_ri) H := hP
        refine lv_if_ne (tgt := 51) hx hb dX8_sideOf_46 (by decide) (fun c46 => ?_) (fun c46 => ?_)
        · have hr := (if_neg c46).symm.trans hr
          refine lv_iload_n hx hb dX8_sideOf_51 rfl (lv_at hl 1 rfl) ?_
          refine lv_if_ne (tgt := 64) hx hb dX8_sideOf_52 (by decide) (fun c52 => ?_) (fun c52 => ?_)
          · have hr := (if_neg c52).symm.trans hr
            refine lv_aload_n hx hb dX8_sideOf_64 rfl (lv_at hl 0 rfl) ?_
            refine lv_iload_n hx hb dX8_sideOf_65 rfl (lv_at hl 2 rfl) ?_
            refine lv_iload_n hx hb dX8_sideOf_66 rfl (lv_at hl 3 rfl) ?_
            refine go_i (ru_V (n := 2) ⟨hx, hb, hml, hown, hts⟩ hk hP (c_X8_sideOfPoint l D cI cL cZ ad m_w m_h m_c m_s m_le m_un m_he m_ro m_wi m_hi m_hr m_hp m_rn m_rw m_rh m_n m_l m_b m_to m_hs m_ho m_tx m_ik m_wt m_ac m_ap m_pa m_im m_ri hAd p2 p3 _ rfl hg) (cwV 2 hts (gV q4_169 q4_171 qs3_13 q1_11 q4_172) rfl rfl rfl hd_X8_sideOfPoint ⟨Nat.le_of_ble_eq_true rfl, Nat.le_of_ble_eq_true rfl⟩) (va_recv hk.1 hP (ci := 8) (q0 := 0) rfl rfl) rfl hl.1 rfl (Nat.le_of_ble_eq_true rfl) dX8_sideOf_67 ⟨Nat.zero_le _, Nat.zero_le _⟩) hS (fun _ h => h) (fun H locs hP hS => ?_)
            have hP : va_P D vwCl (mw ad cI cL cZ m_w m_h m_c m_s m_le m_un m_he m_ro m_wi m_hi m_hr m_hp m_rn m_rw m_rh m_n m_l m_b m_to m_hs m_ho m_tx m_ik m_wt m_ac m_ap m_pa m_im m_ri) H := hP
            subst hr
            exact ret_i hx hb hrt hlocks hP hS dX8_sideOf_70
          · have hr := (if_pos c52).symm.trans hr
            refine lv_aload_n hx hb dX8_sideOf_55 rfl (lv_at hl 0 rfl) ?_
            refine lv_iload_n hx hb dX8_sideOf_56 rfl (lv_at hl 2 rfl) ?_
            refine lv_iload_n hx hb dX8_sideOf_57 rfl (lv_at hl 3 rfl) ?_
            refine go_i (ru_V (n := 2) ⟨hx, hb, hml, hown, hts⟩ hk hP (c_X8_sideOfCell l D cI cL cZ ad m_w m_h m_c m_s m_le m_un m_he m_ro m_wi m_hi m_hr m_hp m_rn m_rw m_rh m_n m_l m_b m_to m_hs m_ho m_tx m_ik m_wt m_ac m_ap m_pa m_im m_ri hAd p2 p3 _ rfl hg) (cwV 2 hts (gV q4_165 q4_167 qs3_12 q1_11 q4_168) rfl rfl rfl hd_X8_sideOfCell ⟨Nat.le_of_ble_eq_true rfl, Nat.le_of_ble_eq_true rfl⟩) (va_recv hk.1 hP (ci := 8) (q0 := 0) rfl rfl) rfl hl.1 rfl (Nat.le_of_ble_eq_true rfl) dX8_sideOf_58 ⟨Nat.zero_le _, Nat.zero_le _⟩) hS (fun _ h => h) (fun H locs hP hS => ?_)
            have hP : va_P D vwCl (mw ad cI cL cZ m_w m_h m_c m_s m_le m_un m_he m_ro m_wi m_hi m_hr m_hp m_rn m_rw m_rh m_n m_l m_b m_to m_hs m_ho m_tx m_ik m_wt m_ac m_ap m_pa m_im m_ri) H := hP
            refine lv_goto (tgt := 70) hx hb dX8_sideOf_61 (by decide) ?_
            subst hr
            exact ret_i hx hb hrt hlocks hP hS dX8_sideOf_70
        · have hr := (if_pos c46).symm.trans hr
          refine lv_iconst (v := (-1)) hx hb dX8_sideOf_49 (by decide) ?_
          subst hr
          exact ret_i hx hb hrt hlocks hP hS dX8_sideOf_50
theorem hd_X8_minds : yX8_minds.cls = RX8 ∧ yX8_minds.cls ≠ "java/lang/invoke/MethodHandle" ∧ yX8_minds.cls ≠ "java/lang/invoke/VarHandle" ∧ (parseMethodDescriptor yX8_minds.desc).map (fun d => d.parameters.length) = some 0 := by decide +kernel
def F_X8_minds_11 {β : Type} (k0 : (Nat → Int64) → β) : Nat → Int32 → (Nat → Int64) → β
  | 0, x1, m_pa => k0 m_pa
  | n + 1, x1, m_pa => (if 27 ≤ x1 then k0 m_pa else F_X8_minds_11 k0 n (x1 + 1) (vp_updL m_pa x1.toNatClampNeg (m_pa (x1 + 3).toNatClampNeg)))
def f_X8_minds (m_un : Int32) (m_n : Int64) (m_l : Int64) (m_b : Int64) (m_pa : Nat → Int64) : Int32 × (Nat → Int64) := (if m_un = 10 then F_X8_minds_11 (fun z1 => ((m_un - 1) + 1, vp_updL (vp_updL (vp_updL z1 (3 * (m_un - 1)).toNatClampNeg m_n) ((3 * (m_un - 1)) + 1).toNatClampNeg m_l) ((3 * (m_un - 1)) + 2).toNatClampNeg m_b)) (fu 27 (0 : Int32)) 0 m_pa else (m_un + 1, vp_updL (vp_updL (vp_updL m_pa (3 * m_un).toNatClampNeg m_n) ((3 * m_un) + 1).toNatClampNeg m_l) ((3 * m_un) + 2).toNatClampNeg m_b))
set_option maxHeartbeats 4000000 in
set_option maxRecDepth 100000 in
theorem lp_X8_minds_11 (l : Launch) (D : va_G) (cI cL cZ : ClassId) (ad : Nat → Nat) (m_w m_h m_c m_s m_le m_un m_he m_ro m_wi m_hi m_hr m_hp m_rn m_rw m_rh : Int32) (m_n m_l m_b m_to m_hs : Int64) (m_ho m_tx m_ik m_wt : Nat → Int32) (m_ac m_ap m_im m_ri : Nat → Int64) {p : Program} {e : Env} {s : State} {m : MethodId} {args : Array Value} {below : List Frame} {meth : Method} {c : Code} {Q : State → Prop} (C : Cx p s m args meth c cX8_minds 2 none W0 RX8 D cI cL cZ) (hAd : mInj ad) {β : Type} (k0 : (Nat → Int64) → β) (r : β)
    (h0 : ∀ (m_pa : Nat → Int64) (H : Heap) (locs : List Loc) (ls : Array Slot), k0 m_pa = r → va_P D vwCl (mw ad cI cL cZ m_w m_h m_c m_s m_le m_un m_he m_ro m_wi m_hi m_hr m_hp m_rn m_rw m_rh m_n m_l m_b m_to m_hs m_ho m_tx m_ik m_wt m_ac m_ap m_pa m_im m_ri) H → va_S (mAd ad) s.heap H locs → lv_has ls 2 [(0, .ref (ad 0))] → W p l e (rmS 0 0) s m args below meth c H locs 0 0 Q (F0 m 37 ls [])) :
    ∀ (n : Nat) (x1 : Int32) (m_pa : Nat → Int64) (H : Heap) (locs : List Loc) (ls : Array Slot), fuU n 27 x1 → F_X8_minds_11 k0 n x1 m_pa = r → va_P D vwCl (mw ad cI cL cZ m_w m_h m_c m_s m_le m_un m_he m_ro m_wi m_hi m_hr m_hp m_rn m_rw m_rh m_n m_l m_b m_to m_hs m_ho m_tx m_ik m_wt m_ac m_ap m_pa m_im m_ri) H → va_S (mAd ad) s.heap H locs → lv_has ls 2 [(0, .ref (ad 0)), (1, .int x1)] → W p l e (rmS 0 0) s m args below meth c H locs 0 0 Q (F0 m 11 ls []) := by
  obtain ⟨hx, hb, hml, hrt, hlocks, hown, hts, hk⟩ := C
  intro n
  induction n with
  | zero =>
    intro x1 m_pa H locs ls hf
    exact absurd hf.1 (Nat.lt_irrefl 0)
  | succ n ih =>
    intro x1 m_pa H locs ls hf hr hP hS hl
    rw [F_X8_minds_11] at hr
    refine lv_iload_n hx hb dX8_minds_11 rfl (lv_at hl 1 rfl) ?_
    refine lv_bipush (v := 27) hx hb dX8_minds_12 (by decide) ?_
    refine lv_icmp_ge (tgt := 37) hx hb dX8_minds_14 (by decide) (fun c14 => ?_) (fun c14 => ?_)
    · have hr := (if_pos c14).symm.trans hr
      exact h0 m_pa _ _ _ hr hP hS (lv_sub hl [0] rfl)
    · have hr := (if_neg c14).symm.trans hr
      refine lv_aload_n hx hb dX8_minds_17 rfl (lv_at hl 0 rfl) ?_
      refine va_get (D := D) (ci := 8) (v := .ref (ad 5)) (C := RX8) (T := TX8) (N := 29) hx hb hts u_X8 hown hk.1 hP 0 rfl rfl 12 (by decide) (hts _ q4_24) (fun _ h9 => h9) rfl dX8_minds_18 ?_
      refine lv_iload_n hx hb dX8_minds_21 rfl (lv_at hl 1 rfl) ?_
      refine lv_aload_n hx hb dX8_minds_22 rfl (lv_at hl 0 rfl) ?_
      refine va_get (D := D) (ci := 8) (v := .ref (ad 5)) (C := RX8) (T := TX8) (N := 29) hx hb hts u_X8 hown hk.1 hP 0 rfl rfl 12 (by decide) (hts _ q4_24) (fun _ h9 => h9) rfl dX8_minds_23 ?_
      refine lv_iload_n hx hb dX8_minds_26 rfl (lv_at hl 1 rfl) ?_
      refine lv_iconst (v := 3) hx hb dX8_minds_27 (by decide) ?_
      refine lv_iadd hx hb dX8_minds_28 ?_
      refine va_lald hx hb hk.1 hP 5 1 (rfl) rfl (vin_a3 hf.2.2 c14) dX8_minds_29 ?_
      refine va_last hx hb hk.1 hP (mw_D hAd) hS 5 1 (rfl) rfl (vin_c hf.2.2 c14 (by decide)) dX8_minds_30 (fun H locs hP _ hS => ?_)
      have hP : va_P D vwCl (mw ad cI cL cZ m_w m_h m_c m_s m_le m_un m_he m_ro m_wi m_hi m_hr m_hp m_rn m_rw m_rh m_n m_l m_b m_to m_hs m_ho m_tx m_ik m_wt m_ac m_ap (vp_updL m_pa x1.toNatClampNeg (m_pa (x1 + 3).toNatClampNeg)) m_im m_ri) H := hP
      refine lv_iinc (v := x1 + 1) (lv' := [(1, .int (x1 + 1)), (0, .ref (ad 0))]) hx hb dX8_minds_31 hl (k := 1) rfl rfl (by decide) rfl (fun ls hl => ?_)
      refine lv_goto (tgt := 11) hx hb dX8_minds_34 (by decide) ?_
      exact ih (x1 + 1) (vp_updL m_pa x1.toNatClampNeg (m_pa (x1 + 3).toNatClampNeg)) _ _ _ (fuU_s hf c14) hr hP hS (lv_sub hl [1, 0] rfl)
set_option maxHeartbeats 4000000 in
set_option maxRecDepth 100000 in
theorem c_X8_minds (l : Launch) (D : va_G) (cI cL cZ : ClassId) (ad : Nat → Nat) (m_w m_h m_c m_s m_le m_un m_he m_ro m_wi m_hi m_hr m_hp m_rn m_rw m_rh : Int32) (m_n m_l m_b m_to m_hs : Int64) (m_ho m_tx m_ik m_wt : Nat → Int32) (m_ac m_ap m_pa m_im m_ri : Nat → Int64) (hAd : mInj ad) (r : Int32 × (Nat → Int64)) (hr : f_X8_minds m_un m_n m_l m_b m_pa = r) (hu0 : 0 ≤ m_un.toInt) (hu : m_un.toInt ≤ 10) : MV l yX8_minds (Cond.code yX8_minds cX8_minds 2 none :: W0) 0 0 D cI cL cZ (mAd ad) [.ref (ad 0)] (mw ad cI cL cZ m_w m_h m_c m_s m_le m_un m_he m_ro m_wi m_hi m_hr m_hp m_rn m_rw m_rh m_n m_l m_b m_to m_hs m_ho m_tx m_ik m_wt m_ac m_ap m_pa m_im m_ri) (mw ad cI cL cZ m_w m_h m_c m_s m_le r.1 m_he m_ro m_wi m_hi m_hr m_hp m_rn m_rw m_rh m_n m_l m_b m_to m_hs m_ho m_tx m_ik m_wt m_ac m_ap r.2 m_im m_ri) := by
  refine mk_start (cc := cX8_minds) (maxL := 2) (ret := none) (by decide) rfl (Nat.le_of_ble_eq_true rfl) ?_
  intro p e s m below meth c ls C hP hS hl
  obtain ⟨hx, hb, hml, hrt, hlocks, hown, hts, hk⟩ := C
  have hown : s.vm.findClass RX8 = some m.cls := hown
  have hl : lv_has ls 2 [(0, .ref (ad 0))] := hl
  rw [f_X8_minds] at hr
  refine lv_aload_n hx hb dX8_minds_0 rfl (lv_at hl 0 rfl) ?_
  refine va_get (D := D) (ci := 8) (v := .int m_un) (C := RX8) (T := TX8) (N := 29) hx hb hts u_X8 hown hk.1 hP 0 rfl rfl 13 (by decide) (hts _ q4_25) (fun _ h9 => h9) rfl dX8_minds_1 ?_
  refine lv_bipush (v := 10) hx hb dX8_minds_4 (by decide) ?_
  refine lv_icmp_ne (tgt := 47) hx hb dX8_minds_6 (by decide) (fun c6 => ?_) (fun c6 => ?_)
  · have hr := (if_neg c6).symm.trans hr
    refine lv_aload_n hx hb dX8_minds_47 rfl (lv_at hl 0 rfl) ?_
    refine va_get (D := D) (ci := 8) (v := .ref (ad 5)) (C := RX8) (T := TX8) (N := 29) hx hb hts u_X8 hown hk.1 hP 0 rfl rfl 12 (by decide) (hts _ q4_24) (fun _ h9 => h9) rfl dX8_minds_48 ?_
    refine lv_iconst (v := 3) hx hb dX8_minds_51 (by decide) ?_
    refine lv_aload_n hx hb dX8_minds_52 rfl (lv_at hl 0 rfl) ?_
    refine va_get (D := D) (ci := 8) (v := .int m_un) (C := RX8) (T := TX8) (N := 29) hx hb hts u_X8 hown hk.1 hP 0 rfl rfl 13 (by decide) (hts _ q4_25) (fun _ h9 => h9) rfl dX8_minds_53 ?_
    refine lv_imul hx hb dX8_minds_56 ?_
    refine lv_aload_n hx hb dX8_minds_57 rfl (lv_at hl 0 rfl) ?_
    refine va_get (D := D) (ci := 8) (v := .long m_n) (C := RX8) (T := TX8) (N := 29) hx hb hts u_X8 hown hk.1 hP 0 rfl rfl 0 (by decide) (hts _ q4_12) (fun _ h9 => h9) rfl dX8_minds_58 ?_
    refine va_last hx hb hk.1 hP (mw_D hAd) hS 5 1 (rfl) rfl (by first | exact (vin3 (mu_a c6).1 (mu_a c6).2 (by decide) (by decide)).1 | exact (vin3 (mu_b hu0 hu c6).1 (mu_b hu0 hu c6).2 (by decide) (by decide)).1) dX8_minds_61 (fun H locs hP _ hS => ?_)
    have hP : va_P D vwCl (mw ad cI cL cZ m_w m_h m_c m_s m_le m_un m_he m_ro m_wi m_hi m_hr m_hp m_rn m_rw m_rh m_n m_l m_b m_to m_hs m_ho m_tx m_ik m_wt m_ac m_ap (vp_updL m_pa (3 * m_un).toNatClampNeg m_n) m_im m_ri) H := hP
    refine lv_aload_n hx hb dX8_minds_62 rfl (lv_at hl 0 rfl) ?_
    refine va_get (D := D) (ci := 8) (v := .ref (ad 5)) (C := RX8) (T := TX8) (N := 29) hx hb hts u_X8 hown hk.1 hP 0 rfl rfl 12 (by decide) (hts _ q4_24) (fun _ h9 => h9) rfl dX8_minds_63 ?_
    refine lv_iconst (v := 3) hx hb dX8_minds_66 (by decide) ?_
    refine lv_aload_n hx hb dX8_minds_67 rfl (lv_at hl 0 rfl) ?_
    refine va_get (D := D) (ci := 8) (v := .int m_un) (C := RX8) (T := TX8) (N := 29) hx hb hts u_X8 hown hk.1 hP 0 rfl rfl 13 (by decide) (hts _ q4_25) (fun _ h9 => h9) rfl dX8_minds_68 ?_
    refine lv_imul hx hb dX8_minds_71 ?_
    refine lv_iconst (v := 1) hx hb dX8_minds_72 (by decide) ?_
    refine lv_iadd hx hb dX8_minds_73 ?_
    refine lv_aload_n hx hb dX8_minds_74 rfl (lv_at hl 0 rfl) ?_
    refine va_get (D := D) (ci := 8) (v := .long m_l) (C := RX8) (T := TX8) (N := 29) hx hb hts u_X8 hown hk.1 hP 0 rfl rfl 1 (by decide) (hts _ q4_13) (fun _ h9 => h9) rfl dX8_minds_75 ?_
    refine va_last hx hb hk.1 hP (mw_D hAd) hS 5 1 (rfl) rfl (by first | exact (vin3 (mu_a c6).1 (mu_a c6).2 (by decide) (by decide)).2.1 | exact (vin3 (mu_b hu0 hu c6).1 (mu_b hu0 hu c6).2 (by decide) (by decide)).2.1) dX8_minds_78 (fun H locs hP _ hS => ?_)
    have hP : va_P D vwCl (mw ad cI cL cZ m_w m_h m_c m_s m_le m_un m_he m_ro m_wi m_hi m_hr m_hp m_rn m_rw m_rh m_n m_l m_b m_to m_hs m_ho m_tx m_ik m_wt m_ac m_ap (vp_updL (vp_updL m_pa (3 * m_un).toNatClampNeg m_n) ((3 * m_un) + 1).toNatClampNeg m_l) m_im m_ri) H := hP
    refine lv_aload_n hx hb dX8_minds_79 rfl (lv_at hl 0 rfl) ?_
    refine va_get (D := D) (ci := 8) (v := .ref (ad 5)) (C := RX8) (T := TX8) (N := 29) hx hb hts u_X8 hown hk.1 hP 0 rfl rfl 12 (by decide) (hts _ q4_24) (fun _ h9 => h9) rfl dX8_minds_80 ?_
    refine lv_iconst (v := 3) hx hb dX8_minds_83 (by decide) ?_
    refine lv_aload_n hx hb dX8_minds_84 rfl (lv_at hl 0 rfl) ?_
    refine va_get (D := D) (ci := 8) (v := .int m_un) (C := RX8) (T := TX8) (N := 29) hx hb hts u_X8 hown hk.1 hP 0 rfl rfl 13 (by decide) (hts _ q4_25) (fun _ h9 => h9) rfl dX8_minds_85 ?_
    refine lv_imul hx hb dX8_minds_88 ?_
    refine lv_iconst (v := 2) hx hb dX8_minds_89 (by decide) ?_
    refine lv_iadd hx hb dX8_minds_90 ?_
    refine lv_aload_n hx hb dX8_minds_91 rfl (lv_at hl 0 rfl) ?_
    refine va_get (D := D) (ci := 8) (v := .long m_b) (C := RX8) (T := TX8) (N := 29) hx hb hts u_X8 hown hk.1 hP 0 rfl rfl 2 (by decide) (hts _ q4_14) (fun _ h9 => h9) rfl dX8_minds_92 ?_
    refine va_last hx hb hk.1 hP (mw_D hAd) hS 5 1 (rfl) rfl (by first | exact (vin3 (mu_a c6).1 (mu_a c6).2 (by decide) (by decide)).2.2 | exact (vin3 (mu_b hu0 hu c6).1 (mu_b hu0 hu c6).2 (by decide) (by decide)).2.2) dX8_minds_95 (fun H locs hP _ hS => ?_)
    have hP : va_P D vwCl (mw ad cI cL cZ m_w m_h m_c m_s m_le m_un m_he m_ro m_wi m_hi m_hr m_hp m_rn m_rw m_rh m_n m_l m_b m_to m_hs m_ho m_tx m_ik m_wt m_ac m_ap (vp_updL (vp_updL (vp_updL m_pa (3 * m_un).toNatClampNeg m_n) ((3 * m_un) + 1).toNatClampNeg m_l) ((3 * m_un) + 2).toNatClampNeg m_b) m_im m_ri) H := hP
    refine lv_aload_n hx hb dX8_minds_96 rfl (lv_at hl 0 rfl) ?_
    refine lv_dup hx hb dX8_minds_97 rfl ?_
    refine va_get (D := D) (ci := 8) (v := .int m_un) (C := RX8) (T := TX8) (N := 29) hx hb hts u_X8 hown hk.1 hP 0 rfl rfl 13 (by decide) (hts _ q4_25) (fun _ h9 => h9) rfl dX8_minds_98 ?_
    refine lv_iconst (v := 1) hx hb dX8_minds_101 (by decide) ?_
    refine lv_iadd hx hb dX8_minds_102 ?_
    refine va_put (D := D) (ci := 8) (v := .int (m_un + 1)) (ty := .int) (C := RX8) (T := TX8) (N := 29) hx hb hts u_X8 tyX8 tyX8_ok nmX8 hown hk.1 hP (mw_D hAd) hS 0 rfl rfl 13 (by decide) (hts _ q4_25) (fun _ h9 => h9) rfl (tyX8_ok 13 (by decide)) rfl rfl (Nat.le_of_ble_eq_true rfl) dX8_minds_103 (fun H locs hP _ hS => ?_)
    have hP : va_P D vwCl (mw ad cI cL cZ m_w m_h m_c m_s m_le (m_un + 1) m_he m_ro m_wi m_hi m_hr m_hp m_rn m_rw m_rh m_n m_l m_b m_to m_hs m_ho m_tx m_ik m_wt m_ac m_ap (vp_updL (vp_updL (vp_updL m_pa (3 * m_un).toNatClampNeg m_n) ((3 * m_un) + 1).toNatClampNeg m_l) ((3 * m_un) + 2).toNatClampNeg m_b) m_im m_ri) H := hP
    subst hr
    exact ret_v hx hb hrt hlocks hP hS dX8_minds_106
  · have hr := (if_pos c6).symm.trans hr
    refine lv_iconst (v := 0) hx hb dX8_minds_9 (by decide) ?_
    refine lv_istore_n (lv' := [(1, .int 0), (0, .ref (ad 0))]) hx hb dX8_minds_10 rfl hl (by decide) rfl (fun ls hl => ?_)
    refine lp_X8_minds_11 l D cI cL cZ ad m_w m_h m_c m_s m_le m_un m_he m_ro m_wi m_hi m_hr m_hp m_rn m_rw m_rh m_n m_l m_b m_to m_hs m_ho m_tx m_ik m_wt m_ac m_ap m_im m_ri ⟨hx, hb, hml, hrt, hlocks, hown, hts, hk⟩ hAd _ _ (fun z1 H locs ls hr hP hS hl => ?_) (fu 27 (0 : Int32)) 0 m_pa _ _ _ (fuU_0 (by decide)) hr hP hS (lv_sub hl [1, 0] rfl)
    refine lv_aload_n hx hb dX8_minds_37 rfl (lv_at hl 0 rfl) ?_
    refine lv_dup hx hb dX8_minds_38 rfl ?_
    refine va_get (D := D) (ci := 8) (v := .int m_un) (C := RX8) (T := TX8) (N := 29) hx hb hts u_X8 hown hk.1 hP 0 rfl rfl 13 (by decide) (hts _ q4_25) (fun _ h9 => h9) rfl dX8_minds_39 ?_
    refine lv_iconst (v := 1) hx hb dX8_minds_42 (by decide) ?_
    refine lv_isub hx hb dX8_minds_43 ?_
    refine va_put (D := D) (ci := 8) (v := .int (m_un - 1)) (ty := .int) (C := RX8) (T := TX8) (N := 29) hx hb hts u_X8 tyX8 tyX8_ok nmX8 hown hk.1 hP (mw_D hAd) hS 0 rfl rfl 13 (by decide) (hts _ q4_25) (fun _ h9 => h9) rfl (tyX8_ok 13 (by decide)) rfl rfl (Nat.le_of_ble_eq_true rfl) dX8_minds_44 (fun H locs hP _ hS => ?_)
    have hP : va_P D vwCl (mw ad cI cL cZ m_w m_h m_c m_s m_le (m_un - 1) m_he m_ro m_wi m_hi m_hr m_hp m_rn m_rw m_rh m_n m_l m_b m_to m_hs m_ho m_tx m_ik m_wt m_ac m_ap z1 m_im m_ri) H := hP
    refine lv_aload_n hx hb dX8_minds_47 rfl (lv_at hl 0 rfl) ?_
    refine va_get (D := D) (ci := 8) (v := .ref (ad 5)) (C := RX8) (T := TX8) (N := 29) hx hb hts u_X8 hown hk.1 hP 0 rfl rfl 12 (by decide) (hts _ q4_24) (fun _ h9 => h9) rfl dX8_minds_48 ?_
    refine lv_iconst (v := 3) hx hb dX8_minds_51 (by decide) ?_
    refine lv_aload_n hx hb dX8_minds_52 rfl (lv_at hl 0 rfl) ?_
    refine va_get (D := D) (ci := 8) (v := .int (m_un - 1)) (C := RX8) (T := TX8) (N := 29) hx hb hts u_X8 hown hk.1 hP 0 rfl rfl 13 (by decide) (hts _ q4_25) (fun _ h9 => h9) rfl dX8_minds_53 ?_
    refine lv_imul hx hb dX8_minds_56 ?_
    refine lv_aload_n hx hb dX8_minds_57 rfl (lv_at hl 0 rfl) ?_
    refine va_get (D := D) (ci := 8) (v := .long m_n) (C := RX8) (T := TX8) (N := 29) hx hb hts u_X8 hown hk.1 hP 0 rfl rfl 0 (by decide) (hts _ q4_12) (fun _ h9 => h9) rfl dX8_minds_58 ?_
    refine va_last hx hb hk.1 hP (mw_D hAd) hS 5 1 (rfl) rfl (by first | exact (vin3 (mu_a c6).1 (mu_a c6).2 (by decide) (by decide)).1 | exact (vin3 (mu_b hu0 hu c6).1 (mu_b hu0 hu c6).2 (by decide) (by decide)).1) dX8_minds_61 (fun H locs hP _ hS => ?_)
    have hP : va_P D vwCl (mw ad cI cL cZ m_w m_h m_c m_s m_le (m_un - 1) m_he m_ro m_wi m_hi m_hr m_hp m_rn m_rw m_rh m_n m_l m_b m_to m_hs m_ho m_tx m_ik m_wt m_ac m_ap (vp_updL z1 (3 * (m_un - 1)).toNatClampNeg m_n) m_im m_ri) H := hP
    refine lv_aload_n hx hb dX8_minds_62 rfl (lv_at hl 0 rfl) ?_
    refine va_get (D := D) (ci := 8) (v := .ref (ad 5)) (C := RX8) (T := TX8) (N := 29) hx hb hts u_X8 hown hk.1 hP 0 rfl rfl 12 (by decide) (hts _ q4_24) (fun _ h9 => h9) rfl dX8_minds_63 ?_
    refine lv_iconst (v := 3) hx hb dX8_minds_66 (by decide) ?_
    refine lv_aload_n hx hb dX8_minds_67 rfl (lv_at hl 0 rfl) ?_
    refine va_get (D := D) (ci := 8) (v := .int (m_un - 1)) (C := RX8) (T := TX8) (N := 29) hx hb hts u_X8 hown hk.1 hP 0 rfl rfl 13 (by decide) (hts _ q4_25) (fun _ h9 => h9) rfl dX8_minds_68 ?_
    refine lv_imul hx hb dX8_minds_71 ?_
    refine lv_iconst (v := 1) hx hb dX8_minds_72 (by decide) ?_
    refine lv_iadd hx hb dX8_minds_73 ?_
    refine lv_aload_n hx hb dX8_minds_74 rfl (lv_at hl 0 rfl) ?_
    refine va_get (D := D) (ci := 8) (v := .long m_l) (C := RX8) (T := TX8) (N := 29) hx hb hts u_X8 hown hk.1 hP 0 rfl rfl 1 (by decide) (hts _ q4_13) (fun _ h9 => h9) rfl dX8_minds_75 ?_
    refine va_last hx hb hk.1 hP (mw_D hAd) hS 5 1 (rfl) rfl (by first | exact (vin3 (mu_a c6).1 (mu_a c6).2 (by decide) (by decide)).2.1 | exact (vin3 (mu_b hu0 hu c6).1 (mu_b hu0 hu c6).2 (by decide) (by decide)).2.1) dX8_minds_78 (fun H locs hP _ hS => ?_)
    have hP : va_P D vwCl (mw ad cI cL cZ m_w m_h m_c m_s m_le (m_un - 1) m_he m_ro m_wi m_hi m_hr m_hp m_rn m_rw m_rh m_n m_l m_b m_to m_hs m_ho m_tx m_ik m_wt m_ac m_ap (vp_updL (vp_updL z1 (3 * (m_un - 1)).toNatClampNeg m_n) ((3 * (m_un - 1)) + 1).toNatClampNeg m_l) m_im m_ri) H := hP
    refine lv_aload_n hx hb dX8_minds_79 rfl (lv_at hl 0 rfl) ?_
    refine va_get (D := D) (ci := 8) (v := .ref (ad 5)) (C := RX8) (T := TX8) (N := 29) hx hb hts u_X8 hown hk.1 hP 0 rfl rfl 12 (by decide) (hts _ q4_24) (fun _ h9 => h9) rfl dX8_minds_80 ?_
    refine lv_iconst (v := 3) hx hb dX8_minds_83 (by decide) ?_
    refine lv_aload_n hx hb dX8_minds_84 rfl (lv_at hl 0 rfl) ?_
    refine va_get (D := D) (ci := 8) (v := .int (m_un - 1)) (C := RX8) (T := TX8) (N := 29) hx hb hts u_X8 hown hk.1 hP 0 rfl rfl 13 (by decide) (hts _ q4_25) (fun _ h9 => h9) rfl dX8_minds_85 ?_
    refine lv_imul hx hb dX8_minds_88 ?_
    refine lv_iconst (v := 2) hx hb dX8_minds_89 (by decide) ?_
    refine lv_iadd hx hb dX8_minds_90 ?_
    refine lv_aload_n hx hb dX8_minds_91 rfl (lv_at hl 0 rfl) ?_
    refine va_get (D := D) (ci := 8) (v := .long m_b) (C := RX8) (T := TX8) (N := 29) hx hb hts u_X8 hown hk.1 hP 0 rfl rfl 2 (by decide) (hts _ q4_14) (fun _ h9 => h9) rfl dX8_minds_92 ?_
    refine va_last hx hb hk.1 hP (mw_D hAd) hS 5 1 (rfl) rfl (by first | exact (vin3 (mu_a c6).1 (mu_a c6).2 (by decide) (by decide)).2.2 | exact (vin3 (mu_b hu0 hu c6).1 (mu_b hu0 hu c6).2 (by decide) (by decide)).2.2) dX8_minds_95 (fun H locs hP _ hS => ?_)
    have hP : va_P D vwCl (mw ad cI cL cZ m_w m_h m_c m_s m_le (m_un - 1) m_he m_ro m_wi m_hi m_hr m_hp m_rn m_rw m_rh m_n m_l m_b m_to m_hs m_ho m_tx m_ik m_wt m_ac m_ap (vp_updL (vp_updL (vp_updL z1 (3 * (m_un - 1)).toNatClampNeg m_n) ((3 * (m_un - 1)) + 1).toNatClampNeg m_l) ((3 * (m_un - 1)) + 2).toNatClampNeg m_b) m_im m_ri) H := hP
    refine lv_aload_n hx hb dX8_minds_96 rfl (lv_at hl 0 rfl) ?_
    refine lv_dup hx hb dX8_minds_97 rfl ?_
    refine va_get (D := D) (ci := 8) (v := .int (m_un - 1)) (C := RX8) (T := TX8) (N := 29) hx hb hts u_X8 hown hk.1 hP 0 rfl rfl 13 (by decide) (hts _ q4_25) (fun _ h9 => h9) rfl dX8_minds_98 ?_
    refine lv_iconst (v := 1) hx hb dX8_minds_101 (by decide) ?_
    refine lv_iadd hx hb dX8_minds_102 ?_
    refine va_put (D := D) (ci := 8) (v := .int ((m_un - 1) + 1)) (ty := .int) (C := RX8) (T := TX8) (N := 29) hx hb hts u_X8 tyX8 tyX8_ok nmX8 hown hk.1 hP (mw_D hAd) hS 0 rfl rfl 13 (by decide) (hts _ q4_25) (fun _ h9 => h9) rfl (tyX8_ok 13 (by decide)) rfl rfl (Nat.le_of_ble_eq_true rfl) dX8_minds_103 (fun H locs hP _ hS => ?_)
    have hP : va_P D vwCl (mw ad cI cL cZ m_w m_h m_c m_s m_le ((m_un - 1) + 1) m_he m_ro m_wi m_hi m_hr m_hp m_rn m_rw m_rh m_n m_l m_b m_to m_hs m_ho m_tx m_ik m_wt m_ac m_ap (vp_updL (vp_updL (vp_updL z1 (3 * (m_un - 1)).toNatClampNeg m_n) ((3 * (m_un - 1)) + 1).toNatClampNeg m_l) ((3 * (m_un - 1)) + 2).toNatClampNeg m_b) m_im m_ri) H := hP
    subst hr
    exact ret_v hx hb hrt hlocks hP hS dX8_minds_106
theorem hd_X8_sets : yX8_sets.cls = RX8 ∧ yX8_sets.cls ≠ "java/lang/invoke/MethodHandle" ∧ yX8_sets.cls ≠ "java/lang/invoke/VarHandle" ∧ (parseMethodDescriptor yX8_sets.desc).map (fun d => d.parameters.length) = some 2 := by decide +kernel
def f_X8_sets (p1 : Int64) (p3 : Int32) (m_l : Int64) (m_b : Int64) : Int64 × Int64 := (if p3 = 1 then (if p3 = 2 then (m_l ||| p1, m_b ||| p1) else (m_l ||| p1, m_b &&& (p1 ^^^ ((-1))))) else (if p3 = 2 then (m_l &&& (p1 ^^^ ((-1))), m_b ||| p1) else (m_l &&& (p1 ^^^ ((-1))), m_b &&& (p1 ^^^ ((-1))))))
set_option maxHeartbeats 4000000 in
set_option maxRecDepth 100000 in
theorem c_X8_sets (l : Launch) (D : va_G) (cI cL cZ : ClassId) (ad : Nat → Nat) (m_w m_h m_c m_s m_le m_un m_he m_ro m_wi m_hi m_hr m_hp m_rn m_rw m_rh : Int32) (m_n m_l m_b m_to m_hs : Int64) (m_ho m_tx m_ik m_wt : Nat → Int32) (m_ac m_ap m_pa m_im m_ri : Nat → Int64) (hAd : mInj ad) (p1 : Int64) (p3 : Int32) (r : Int64 × Int64) (hr : f_X8_sets p1 p3 m_l m_b = r) : MV l yX8_sets (Cond.code yX8_sets cX8_sets 4 none :: W0) 0 0 D cI cL cZ (mAd ad) [.ref (ad 0), .long p1, .int p3] (mw ad cI cL cZ m_w m_h m_c m_s m_le m_un m_he m_ro m_wi m_hi m_hr m_hp m_rn m_rw m_rh m_n m_l m_b m_to m_hs m_ho m_tx m_ik m_wt m_ac m_ap m_pa m_im m_ri) (mw ad cI cL cZ m_w m_h m_c m_s m_le m_un m_he m_ro m_wi m_hi m_hr m_hp m_rn m_rw m_rh m_n r.1 r.2 m_to m_hs m_ho m_tx m_ik m_wt m_ac m_ap m_pa m_im m_ri) := by
  refine mk_start (cc := cX8_sets) (maxL := 4) (ret := none) (by decide) rfl (Nat.le_of_ble_eq_true rfl) ?_
  intro p e s m below meth c ls C hP hS hl
  obtain ⟨hx, hb, hml, hrt, hlocks, hown, hts, hk⟩ := C
  have hown : s.vm.findClass RX8 = some m.cls := hown
  have hl : lv_has ls 4 [(0, .ref (ad 0)), (1, .long p1), (3, .int p3)] := hl
  rw [f_X8_sets] at hr
  refine lv_aload_n hx hb dX8_sets_0 rfl (lv_at hl 0 rfl) ?_
  refine lv_iload_n hx hb dX8_sets_1 rfl (lv_at hl 2 rfl) ?_
  refine lv_iconst (v := 1) hx hb dX8_sets_2 (by decide) ?_
  refine lv_icmp_ne (tgt := 15) hx hb dX8_sets_3 (by decide) (fun c3 => ?_) (fun c3 => ?_)
  · have hr := (if_neg c3).symm.trans hr
    refine lv_aload_n hx hb dX8_sets_15 rfl (lv_at hl 0 rfl) ?_
    refine va_get (D := D) (ci := 8) (v := .long m_l) (C := RX8) (T := TX8) (N := 29) hx hb hts u_X8 hown hk.1 hP 0 rfl rfl 1 (by decide) (hts _ q4_13) (fun _ h9 => h9) rfl dX8_sets_16 ?_
    refine lv_lload_n hx hb dX8_sets_19 rfl (lv_at hl 1 rfl) ?_
    refine lv_ldc2 hx hb hown (hts _ q4_187) dX8_sets_20 ?_
    refine lv_lxor hx hb dX8_sets_23 ?_
    refine lv_land hx hb dX8_sets_24 ?_
    refine va_put (D := D) (ci := 8) (v := .long (m_l &&& (p1 ^^^ ((-1))))) (ty := .long) (C := RX8) (T := TX8) (N := 29) hx hb hts u_X8 tyX8 tyX8_ok nmX8 hown hk.1 hP (mw_D hAd) hS 0 rfl rfl 1 (by decide) (hts _ q4_13) (fun _ h9 => h9) rfl (tyX8_ok 1 (by decide)) rfl rfl (Nat.le_of_ble_eq_true rfl) dX8_sets_25 (fun H locs hP _ hS => ?_)
    have hP : va_P D vwCl (mw ad cI cL cZ m_w m_h m_c m_s m_le m_un m_he m_ro m_wi m_hi m_hr m_hp m_rn m_rw m_rh m_n (m_l &&& (p1 ^^^ ((-1)))) m_b m_to m_hs m_ho m_tx m_ik m_wt m_ac m_ap m_pa m_im m_ri) H := hP
    refine lv_aload_n hx hb dX8_sets_28 rfl (lv_at hl 0 rfl) ?_
    refine lv_iload_n hx hb dX8_sets_29 rfl (lv_at hl 2 rfl) ?_
    refine lv_iconst (v := 2) hx hb dX8_sets_30 (by decide) ?_
    refine lv_icmp_ne (tgt := 43) hx hb dX8_sets_31 (by decide) (fun c31 => ?_) (fun c31 => ?_)
    · have hr := (if_neg c31).symm.trans hr
      refine lv_aload_n hx hb dX8_sets_43 rfl (lv_at hl 0 rfl) ?_
      refine va_get (D := D) (ci := 8) (v := .long m_b) (C := RX8) (T := TX8) (N := 29) hx hb hts u_X8 hown hk.1 hP 0 rfl rfl 2 (by decide) (hts _ q4_14) (fun _ h9 => h9) rfl dX8_sets_44 ?_
      refine lv_lload_n hx hb dX8_sets_47 rfl (lv_at hl 1 rfl) ?_
      refine lv_ldc2 hx hb hown (hts _ q4_187) dX8_sets_48 ?_
      refine lv_lxor hx hb dX8_sets_51 ?_
      refine lv_land hx hb dX8_sets_52 ?_
      refine va_put (D := D) (ci := 8) (v := .long (m_b &&& (p1 ^^^ ((-1))))) (ty := .long) (C := RX8) (T := TX8) (N := 29) hx hb hts u_X8 tyX8 tyX8_ok nmX8 hown hk.1 hP (mw_D hAd) hS 0 rfl rfl 2 (by decide) (hts _ q4_14) (fun _ h9 => h9) rfl (tyX8_ok 2 (by decide)) rfl rfl (Nat.le_of_ble_eq_true rfl) dX8_sets_53 (fun H locs hP _ hS => ?_)
      have hP : va_P D vwCl (mw ad cI cL cZ m_w m_h m_c m_s m_le m_un m_he m_ro m_wi m_hi m_hr m_hp m_rn m_rw m_rh m_n (m_l &&& (p1 ^^^ ((-1)))) (m_b &&& (p1 ^^^ ((-1)))) m_to m_hs m_ho m_tx m_ik m_wt m_ac m_ap m_pa m_im m_ri) H := hP
      subst hr
      exact ret_v hx hb hrt hlocks hP hS dX8_sets_56
    · have hr := (if_pos c31).symm.trans hr
      refine lv_aload_n hx hb dX8_sets_34 rfl (lv_at hl 0 rfl) ?_
      refine va_get (D := D) (ci := 8) (v := .long m_b) (C := RX8) (T := TX8) (N := 29) hx hb hts u_X8 hown hk.1 hP 0 rfl rfl 2 (by decide) (hts _ q4_14) (fun _ h9 => h9) rfl dX8_sets_35 ?_
      refine lv_lload_n hx hb dX8_sets_38 rfl (lv_at hl 1 rfl) ?_
      refine lv_lor hx hb dX8_sets_39 ?_
      refine lv_goto (tgt := 53) hx hb dX8_sets_40 (by decide) ?_
      refine va_put (D := D) (ci := 8) (v := .long (m_b ||| p1)) (ty := .long) (C := RX8) (T := TX8) (N := 29) hx hb hts u_X8 tyX8 tyX8_ok nmX8 hown hk.1 hP (mw_D hAd) hS 0 rfl rfl 2 (by decide) (hts _ q4_14) (fun _ h9 => h9) rfl (tyX8_ok 2 (by decide)) rfl rfl (Nat.le_of_ble_eq_true rfl) dX8_sets_53 (fun H locs hP _ hS => ?_)
      have hP : va_P D vwCl (mw ad cI cL cZ m_w m_h m_c m_s m_le m_un m_he m_ro m_wi m_hi m_hr m_hp m_rn m_rw m_rh m_n (m_l &&& (p1 ^^^ ((-1)))) (m_b ||| p1) m_to m_hs m_ho m_tx m_ik m_wt m_ac m_ap m_pa m_im m_ri) H := hP
      subst hr
      exact ret_v hx hb hrt hlocks hP hS dX8_sets_56
  · have hr := (if_pos c3).symm.trans hr
    refine lv_aload_n hx hb dX8_sets_6 rfl (lv_at hl 0 rfl) ?_
    refine va_get (D := D) (ci := 8) (v := .long m_l) (C := RX8) (T := TX8) (N := 29) hx hb hts u_X8 hown hk.1 hP 0 rfl rfl 1 (by decide) (hts _ q4_13) (fun _ h9 => h9) rfl dX8_sets_7 ?_
    refine lv_lload_n hx hb dX8_sets_10 rfl (lv_at hl 1 rfl) ?_
    refine lv_lor hx hb dX8_sets_11 ?_
    refine lv_goto (tgt := 25) hx hb dX8_sets_12 (by decide) ?_
    refine va_put (D := D) (ci := 8) (v := .long (m_l ||| p1)) (ty := .long) (C := RX8) (T := TX8) (N := 29) hx hb hts u_X8 tyX8 tyX8_ok nmX8 hown hk.1 hP (mw_D hAd) hS 0 rfl rfl 1 (by decide) (hts _ q4_13) (fun _ h9 => h9) rfl (tyX8_ok 1 (by decide)) rfl rfl (Nat.le_of_ble_eq_true rfl) dX8_sets_25 (fun H locs hP _ hS => ?_)
    have hP : va_P D vwCl (mw ad cI cL cZ m_w m_h m_c m_s m_le m_un m_he m_ro m_wi m_hi m_hr m_hp m_rn m_rw m_rh m_n (m_l ||| p1) m_b m_to m_hs m_ho m_tx m_ik m_wt m_ac m_ap m_pa m_im m_ri) H := hP
    refine lv_aload_n hx hb dX8_sets_28 rfl (lv_at hl 0 rfl) ?_
    refine lv_iload_n hx hb dX8_sets_29 rfl (lv_at hl 2 rfl) ?_
    refine lv_iconst (v := 2) hx hb dX8_sets_30 (by decide) ?_
    refine lv_icmp_ne (tgt := 43) hx hb dX8_sets_31 (by decide) (fun c31 => ?_) (fun c31 => ?_)
    · have hr := (if_neg c31).symm.trans hr
      refine lv_aload_n hx hb dX8_sets_43 rfl (lv_at hl 0 rfl) ?_
      refine va_get (D := D) (ci := 8) (v := .long m_b) (C := RX8) (T := TX8) (N := 29) hx hb hts u_X8 hown hk.1 hP 0 rfl rfl 2 (by decide) (hts _ q4_14) (fun _ h9 => h9) rfl dX8_sets_44 ?_
      refine lv_lload_n hx hb dX8_sets_47 rfl (lv_at hl 1 rfl) ?_
      refine lv_ldc2 hx hb hown (hts _ q4_187) dX8_sets_48 ?_
      refine lv_lxor hx hb dX8_sets_51 ?_
      refine lv_land hx hb dX8_sets_52 ?_
      refine va_put (D := D) (ci := 8) (v := .long (m_b &&& (p1 ^^^ ((-1))))) (ty := .long) (C := RX8) (T := TX8) (N := 29) hx hb hts u_X8 tyX8 tyX8_ok nmX8 hown hk.1 hP (mw_D hAd) hS 0 rfl rfl 2 (by decide) (hts _ q4_14) (fun _ h9 => h9) rfl (tyX8_ok 2 (by decide)) rfl rfl (Nat.le_of_ble_eq_true rfl) dX8_sets_53 (fun H locs hP _ hS => ?_)
      have hP : va_P D vwCl (mw ad cI cL cZ m_w m_h m_c m_s m_le m_un m_he m_ro m_wi m_hi m_hr m_hp m_rn m_rw m_rh m_n (m_l ||| p1) (m_b &&& (p1 ^^^ ((-1)))) m_to m_hs m_ho m_tx m_ik m_wt m_ac m_ap m_pa m_im m_ri) H := hP
      subst hr
      exact ret_v hx hb hrt hlocks hP hS dX8_sets_56
    · have hr := (if_pos c31).symm.trans hr
      refine lv_aload_n hx hb dX8_sets_34 rfl (lv_at hl 0 rfl) ?_
      refine va_get (D := D) (ci := 8) (v := .long m_b) (C := RX8) (T := TX8) (N := 29) hx hb hts u_X8 hown hk.1 hP 0 rfl rfl 2 (by decide) (hts _ q4_14) (fun _ h9 => h9) rfl dX8_sets_35 ?_
      refine lv_lload_n hx hb dX8_sets_38 rfl (lv_at hl 1 rfl) ?_
      refine lv_lor hx hb dX8_sets_39 ?_
      refine lv_goto (tgt := 53) hx hb dX8_sets_40 (by decide) ?_
      refine va_put (D := D) (ci := 8) (v := .long (m_b ||| p1)) (ty := .long) (C := RX8) (T := TX8) (N := 29) hx hb hts u_X8 tyX8 tyX8_ok nmX8 hown hk.1 hP (mw_D hAd) hS 0 rfl rfl 2 (by decide) (hts _ q4_14) (fun _ h9 => h9) rfl (tyX8_ok 2 (by decide)) rfl rfl (Nat.le_of_ble_eq_true rfl) dX8_sets_53 (fun H locs hP _ hS => ?_)
      have hP : va_P D vwCl (mw ad cI cL cZ m_w m_h m_c m_s m_le m_un m_he m_ro m_wi m_hi m_hr m_hp m_rn m_rw m_rh m_n (m_l ||| p1) (m_b ||| p1) m_to m_hs m_ho m_tx m_ik m_wt m_ac m_ap m_pa m_im m_ri) H := hP
      subst hr
      exact ret_v hx hb hrt hlocks hP hS dX8_sets_56
theorem hd_X8_becomes : yX8_becomes.cls = RX8 ∧ yX8_becomes.cls ≠ "java/lang/invoke/MethodHandle" ∧ yX8_becomes.cls ≠ "java/lang/invoke/VarHandle" ∧ (parseMethodDescriptor yX8_becomes.desc).map (fun d => d.parameters.length) = some 2 := by decide +kernel
def f_X8_becomes (p1 : Int32) (p2 : Int64) (m_n : Int64) : Int64 := (m_n &&& ((shlL 7 (3 * p1)) ^^^ ((-1)))) ||| (shlL p2 (3 * p1))
set_option maxHeartbeats 4000000 in
set_option maxRecDepth 100000 in
theorem c_X8_becomes (l : Launch) (D : va_G) (cI cL cZ : ClassId) (ad : Nat → Nat) (m_w m_h m_c m_s m_le m_un m_he m_ro m_wi m_hi m_hr m_hp m_rn m_rw m_rh : Int32) (m_n m_l m_b m_to m_hs : Int64) (m_ho m_tx m_ik m_wt : Nat → Int32) (m_ac m_ap m_pa m_im m_ri : Nat → Int64) (hAd : mInj ad) (p1 : Int32) (p2 : Int64) (r : Int64) (hr : f_X8_becomes p1 p2 m_n = r) : MV l yX8_becomes (Cond.code yX8_becomes cX8_becomes 4 none :: W0) 0 0 D cI cL cZ (mAd ad) [.ref (ad 0), .int p1, .long p2] (mw ad cI cL cZ m_w m_h m_c m_s m_le m_un m_he m_ro m_wi m_hi m_hr m_hp m_rn m_rw m_rh m_n m_l m_b m_to m_hs m_ho m_tx m_ik m_wt m_ac m_ap m_pa m_im m_ri) (mw ad cI cL cZ m_w m_h m_c m_s m_le m_un m_he m_ro m_wi m_hi m_hr m_hp m_rn m_rw m_rh r m_l m_b m_to m_hs m_ho m_tx m_ik m_wt m_ac m_ap m_pa m_im m_ri) := by
  refine mk_start (cc := cX8_becomes) (maxL := 4) (ret := none) (by decide) rfl (Nat.le_of_ble_eq_true rfl) ?_
  intro p e s m below meth c ls C hP hS hl
  obtain ⟨hx, hb, hml, hrt, hlocks, hown, hts, hk⟩ := C
  have hown : s.vm.findClass RX8 = some m.cls := hown
  have hl : lv_has ls 4 [(0, .ref (ad 0)), (1, .int p1), (2, .long p2)] := hl
  rw [f_X8_becomes] at hr
  refine lv_aload_n hx hb dX8_becomes_0 rfl (lv_at hl 0 rfl) ?_
  refine lv_aload_n hx hb dX8_becomes_1 rfl (lv_at hl 0 rfl) ?_
  refine va_get (D := D) (ci := 8) (v := .long m_n) (C := RX8) (T := TX8) (N := 29) hx hb hts u_X8 hown hk.1 hP 0 rfl rfl 0 (by decide) (hts _ q4_12) (fun _ h9 => h9) rfl dX8_becomes_2 ?_
  refine lv_ldc2 hx hb hown (hts _ q4_144) dX8_becomes_5 ?_
  refine lv_iconst (v := 3) hx hb dX8_becomes_8 (by decide) ?_
  refine lv_iload_n hx hb dX8_becomes_9 rfl (lv_at hl 1 rfl) ?_
  refine lv_imul hx hb dX8_becomes_10 ?_
  refine lv_lshl (v := shlL 7 (3 * p1)) hx hb dX8_becomes_11 rfl ?_
  refine lv_ldc2 hx hb hown (hts _ q4_187) dX8_becomes_12 ?_
  refine lv_lxor hx hb dX8_becomes_15 ?_
  refine lv_land hx hb dX8_becomes_16 ?_
  refine lv_lload_n hx hb dX8_becomes_17 rfl (lv_at hl 2 rfl) ?_
  refine lv_iconst (v := 3) hx hb dX8_becomes_18 (by decide) ?_
  refine lv_iload_n hx hb dX8_becomes_19 rfl (lv_at hl 1 rfl) ?_
  refine lv_imul hx hb dX8_becomes_20 ?_
  refine lv_lshl (v := shlL p2 (3 * p1)) hx hb dX8_becomes_21 rfl ?_
  refine lv_lor hx hb dX8_becomes_22 ?_
  refine va_put (D := D) (ci := 8) (v := .long ((m_n &&& ((shlL 7 (3 * p1)) ^^^ ((-1)))) ||| (shlL p2 (3 * p1)))) (ty := .long) (C := RX8) (T := TX8) (N := 29) hx hb hts u_X8 tyX8 tyX8_ok nmX8 hown hk.1 hP (mw_D hAd) hS 0 rfl rfl 0 (by decide) (hts _ q4_12) (fun _ h9 => h9) rfl (tyX8_ok 0 (by decide)) rfl rfl (Nat.le_of_ble_eq_true rfl) dX8_becomes_23 (fun H locs hP _ hS => ?_)
  have hP : va_P D vwCl (mw ad cI cL cZ m_w m_h m_c m_s m_le m_un m_he m_ro m_wi m_hi m_hr m_hp m_rn m_rw m_rh ((m_n &&& ((shlL 7 (3 * p1)) ^^^ ((-1)))) ||| (shlL p2 (3 * p1))) m_l m_b m_to m_hs m_ho m_tx m_ik m_wt m_ac m_ap m_pa m_im m_ri) H := hP
  subst hr
  exact ret_v hx hb hrt hlocks hP hS dX8_becomes_26
theorem hd_X8_marks : yX8_marks.cls = RX8 ∧ yX8_marks.cls ≠ "java/lang/invoke/MethodHandle" ∧ yX8_marks.cls ≠ "java/lang/invoke/VarHandle" ∧ (parseMethodDescriptor yX8_marks.desc).map (fun d => d.parameters.length) = some 2 := by decide +kernel
def f_X8_marks (p1 : Int32) (p2 : Int32) (m_s : Int32) (m_un : Int32) (m_n : Int64) (m_l : Int64) (m_b : Int64) (m_pa : Nat → Int64) : Int32 × Int32 × Int64 × Int64 × (Nat → Int64) := (if (f_X8_isSide p1 m_s) = 0 then ((-1), m_un, m_l, m_b, m_pa) else (if (f_X8_in p2.toInt64 0 2) = 0 then ((-1), m_un, m_l, m_b, m_pa) else (if (f_X8_side p1 m_s m_l m_b) = p2 then ((-2), m_un, m_l, m_b, m_pa) else (bd (f_X8_minds m_un m_n m_l m_b m_pa) (fun u1 => (bd (f_X8_sets (shlL 1 p1) p2 m_l m_b) (fun u2 => (f_X8_side p1 m_s m_l m_b, u1.1, u2.1, u2.2, u1.2))))))))
set_option maxHeartbeats 4000000 in
set_option maxRecDepth 100000 in
theorem c_X8_marks (l : Launch) (D : va_G) (cI cL cZ : ClassId) (ad : Nat → Nat) (m_w m_h m_c m_s m_le m_un m_he m_ro m_wi m_hi m_hr m_hp m_rn m_rw m_rh : Int32) (m_n m_l m_b m_to m_hs : Int64) (m_ho m_tx m_ik m_wt : Nat → Int32) (m_ac m_ap m_pa m_im m_ri : Nat → Int64) (hAd : mInj ad) (p1 p2 : Int32) (r : Int32 × Int32 × Int64 × Int64 × (Nat → Int64)) (hr : f_X8_marks p1 p2 m_s m_un m_n m_l m_b m_pa = r) (hu0 : 0 ≤ m_un.toInt) (hu : m_un.toInt ≤ 10) : MI l yX8_marks (Cond.code yX8_marks cX8_marks 4 (some .int) :: W0) 3 67 D cI cL cZ (mAd ad) [.ref (ad 0), .int p1, .int p2] (mw ad cI cL cZ m_w m_h m_c m_s m_le m_un m_he m_ro m_wi m_hi m_hr m_hp m_rn m_rw m_rh m_n m_l m_b m_to m_hs m_ho m_tx m_ik m_wt m_ac m_ap m_pa m_im m_ri) r.1 (mw ad cI cL cZ m_w m_h m_c m_s m_le r.2.1 m_he m_ro m_wi m_hi m_hr m_hp m_rn m_rw m_rh m_n r.2.2.1 r.2.2.2.1 m_to m_hs m_ho m_tx m_ik m_wt m_ac m_ap r.2.2.2.2 m_im m_ri) := by
  refine mk_start (cc := cX8_marks) (maxL := 4) (ret := (some .int)) (by decide) rfl (Nat.le_of_ble_eq_true rfl) ?_
  intro p e s m below meth c ls C hP hS hl
  obtain ⟨hx, hb, hml, hrt, hlocks, hown, hts, hk⟩ := C
  have hown : s.vm.findClass RX8 = some m.cls := hown
  have hl : lv_has ls 4 [(0, .ref (ad 0)), (1, .int p1), (2, .int p2)] := hl
  rw [f_X8_marks] at hr
  refine lv_aload_n hx hb dX8_marks_0 rfl (lv_at hl 0 rfl) ?_
  refine lv_iload_n hx hb dX8_marks_1 rfl (lv_at hl 1 rfl) ?_
  refine go_z (ru_V (n := 1) ⟨hx, hb, hml, hown, hts⟩ hk hP (c_X8_isSide l D cI cL cZ ad m_w m_h m_c m_s m_le m_un m_he m_ro m_wi m_hi m_hr m_hp m_rn m_rw m_rh m_n m_l m_b m_to m_hs m_ho m_tx m_ik m_wt m_ac m_ap m_pa m_im m_ri hAd p1 _ rfl) (cwV 1 hts (gV q4_149 q4_151 qs3_10 q1_11 q4_152) rfl rfl rfl hd_X8_isSide ⟨Nat.le_of_ble_eq_true rfl, Nat.le_of_ble_eq_true rfl⟩) (va_recv hk.1 hP (ci := 8) (q0 := 0) rfl rfl) rfl hl.1 rfl (Nat.le_of_ble_eq_true rfl) dX8_marks_2 ⟨Nat.zero_le _, Nat.zero_le _⟩) hS (fun _ h => h) (fun H locs hz2 hP hS => ?_)
  have hP : va_P D vwCl (mw ad cI cL cZ m_w m_h m_c m_s m_le m_un m_he m_ro m_wi m_hi m_hr m_hp m_rn m_rw m_rh m_n m_l m_b m_to m_hs m_ho m_tx m_ik m_wt m_ac m_ap m_pa m_im m_ri) H := hP
  refine lv_if_eq (tgt := 20) hx hb dX8_marks_5 (by decide) (fun c5 => ?_) (fun c5 => ?_)
  · have hr := (if_pos c5).symm.trans hr
    refine lv_iconst (v := (-1)) hx hb dX8_marks_20 (by decide) ?_
    subst hr
    exact ret_i hx hb hrt hlocks hP hS dX8_marks_21
  · have hr := (if_neg c5).symm.trans hr
    refine lv_iload_n hx hb dX8_marks_8 rfl (lv_at hl 2 rfl) ?_
    refine lv_i2l hx hb dX8_marks_9 rfl ?_
    refine lv_lconst (v := 0) hx hb dX8_marks_10 (by decide) ?_
    refine lv_ldc2 hx hb hown (hts _ q4_177) dX8_marks_11 ?_
    refine go_z (ru_S (n := 3) ⟨hx, hb, hml, hown, hts⟩ hk hP (c_X8_in l D cI cL cZ (mAd ad) (mw ad cI cL cZ m_w m_h m_c m_s m_le m_un m_he m_ro m_wi m_hi m_hr m_hp m_rn m_rw m_rh m_n m_l m_b m_to m_hs m_ho m_tx m_ik m_wt m_ac m_ap m_pa m_im m_ri) p2.toInt64 0 2 _ rfl) (va_cwS 3 hts (gS q4_1 q4_2 q1_11 q4_3) rfl rfl rfl hd_X8_in ⟨Nat.le_of_ble_eq_true rfl, Nat.le_of_ble_eq_true rfl⟩) rfl hl.1 rfl (Nat.le_of_ble_eq_true rfl) dX8_marks_14 ⟨Nat.zero_le _, Nat.zero_le _⟩) hS (fun _ h => h) (fun H locs hz14 hP hS => ?_)
    have hP : va_P D vwCl (mw ad cI cL cZ m_w m_h m_c m_s m_le m_un m_he m_ro m_wi m_hi m_hr m_hp m_rn m_rw m_rh m_n m_l m_b m_to m_hs m_ho m_tx m_ik m_wt m_ac m_ap m_pa m_im m_ri) H := hP
    refine lv_if_ne (tgt := 22) hx hb dX8_marks_17 (by decide) (fun c17 => ?_) (fun c17 => ?_)
    · have hr := (if_neg c17).symm.trans hr
      refine lv_aload_n hx hb dX8_marks_22 rfl (lv_at hl 0 rfl) ?_
      refine lv_iload_n hx hb dX8_marks_23 rfl (lv_at hl 1 rfl) ?_
      refine go_i (ru_V (n := 1) ⟨hx, hb, hml, hown, hts⟩ hk hP (c_X8_side l D cI cL cZ ad m_w m_h m_c m_s m_le m_un m_he m_ro m_wi m_hi m_hr m_hp m_rn m_rw m_rh m_n m_l m_b m_to m_hs m_ho m_tx m_ik m_wt m_ac m_ap m_pa m_im m_ri hAd p1 _ rfl) (cwV 1 hts (gV q4_178 q4_146 q4_147 q1_11 q4_148) rfl rfl rfl hd_X8_side ⟨Nat.le_of_ble_eq_true rfl, Nat.le_of_ble_eq_true rfl⟩) (va_recv hk.1 hP (ci := 8) (q0 := 0) rfl rfl) rfl hl.1 rfl (Nat.le_of_ble_eq_true rfl) dX8_marks_24 ⟨Nat.zero_le _, Nat.zero_le _⟩) hS (fun _ h => h) (fun H locs hP hS => ?_)
      have hP : va_P D vwCl (mw ad cI cL cZ m_w m_h m_c m_s m_le m_un m_he m_ro m_wi m_hi m_hr m_hp m_rn m_rw m_rh m_n m_l m_b m_to m_hs m_ho m_tx m_ik m_wt m_ac m_ap m_pa m_im m_ri) H := hP
      refine lv_istore_n (lv' := [(3, .int (f_X8_side p1 m_s m_l m_b)), (0, .ref (ad 0)), (1, .int p1), (2, .int p2)]) hx hb dX8_marks_27 rfl hl (by decide) rfl (fun ls hl => ?_)
      refine lv_iload_n hx hb dX8_marks_28 rfl (lv_at hl 0 rfl) ?_
      refine lv_iload_n hx hb dX8_marks_29 rfl (lv_at hl 3 rfl) ?_
      refine lv_icmp_ne (tgt := 36) hx hb dX8_marks_30 (by decide) (fun c30 => ?_) (fun c30 => ?_)
      · have hr := (if_neg c30).symm.trans hr
        refine lv_aload_n hx hb dX8_marks_36 rfl (lv_at hl 1 rfl) ?_
        obtain ⟨u1, hu1⟩ : ∃ z, f_X8_minds m_un m_n m_l m_b m_pa = z := ⟨_, rfl⟩
        have hr := (bd_eq hu1).symm.trans hr
        refine go_v (ru_V (n := 0) ⟨hx, hb, hml, hown, hts⟩ hk hP (c_X8_minds l D cI cL cZ ad m_w m_h m_c m_s m_le m_un m_he m_ro m_wi m_hi m_hr m_hp m_rn m_rw m_rh m_n m_l m_b m_to m_hs m_ho m_tx m_ik m_wt m_ac m_ap m_pa m_im m_ri hAd _ hu1 hu0 hu) (cwV 0 hts (gV q4_179 q4_181 qs3_14 q1_11 q4_182) rfl rfl rfl hd_X8_minds ⟨Nat.le_of_ble_eq_true rfl, Nat.le_of_ble_eq_true rfl⟩) (va_recv hk.1 hP (ci := 8) (q0 := 0) rfl rfl) rfl hl.1 rfl (Nat.le_of_ble_eq_true rfl) dX8_marks_37 ⟨Nat.zero_le _, Nat.zero_le _⟩) hS (fun _ h => h) (fun H locs hP hS => ?_)
        have hP : va_P D vwCl (mw ad cI cL cZ m_w m_h m_c m_s m_le u1.1 m_he m_ro m_wi m_hi m_hr m_hp m_rn m_rw m_rh m_n m_l m_b m_to m_hs m_ho m_tx m_ik m_wt m_ac m_ap u1.2 m_im m_ri) H := hP
        refine lv_aload_n hx hb dX8_marks_40 rfl (lv_at hl 1 rfl) ?_
        refine lv_lconst (v := 1) hx hb dX8_marks_41 (by decide) ?_
        refine lv_iload_n hx hb dX8_marks_42 rfl (lv_at hl 2 rfl) ?_
        refine lv_lshl (v := shlL 1 p1) hx hb dX8_marks_43 rfl ?_
        refine lv_iload_n hx hb dX8_marks_44 rfl (lv_at hl 3 rfl) ?_
        obtain ⟨u2, hu2⟩ : ∃ z, f_X8_sets (shlL 1 p1) p2 m_l m_b = z := ⟨_, rfl⟩
        have hr := (bd_eq hu2).symm.trans hr
        refine go_v (ru_V (n := 2) ⟨hx, hb, hml, hown, hts⟩ hk hP (c_X8_sets l D cI cL cZ ad m_w m_h m_c m_s m_le u1.1 m_he m_ro m_wi m_hi m_hr m_hp m_rn m_rw m_rh m_n m_l m_b m_to m_hs m_ho m_tx m_ik m_wt m_ac m_ap u1.2 m_im m_ri hAd (shlL 1 p1) p2 _ hu2) (cwV 2 hts (gV q4_183 q4_185 qs3_15 q1_11 q4_186) rfl rfl rfl hd_X8_sets ⟨Nat.le_of_ble_eq_true rfl, Nat.le_of_ble_eq_true rfl⟩) (va_recv hk.1 hP (ci := 8) (q0 := 0) rfl rfl) rfl hl.1 rfl (Nat.le_of_ble_eq_true rfl) dX8_marks_45 ⟨Nat.zero_le _, Nat.zero_le _⟩) hS (fun _ h => h) (fun H locs hP hS => ?_)
        have hP : va_P D vwCl (mw ad cI cL cZ m_w m_h m_c m_s m_le u1.1 m_he m_ro m_wi m_hi m_hr m_hp m_rn m_rw m_rh m_n u2.1 u2.2 m_to m_hs m_ho m_tx m_ik m_wt m_ac m_ap u1.2 m_im m_ri) H := hP
        refine lv_iload_n hx hb dX8_marks_48 rfl (lv_at hl 0 rfl) ?_
        subst hr
        exact ret_i hx hb hrt hlocks hP hS dX8_marks_49
      · have hr := (if_pos c30).symm.trans hr
        refine lv_bipush (v := (-2)) hx hb dX8_marks_33 (by decide) ?_
        subst hr
        exact ret_i hx hb hrt hlocks hP hS dX8_marks_35
    · have hr := (if_pos c17).symm.trans hr
      refine lv_iconst (v := (-1)) hx hb dX8_marks_20 (by decide) ?_
      subst hr
      exact ret_i hx hb hrt hlocks hP hS dX8_marks_21
theorem hd_X8_numbers : yX8_numbers.cls = RX8 ∧ yX8_numbers.cls ≠ "java/lang/invoke/MethodHandle" ∧ yX8_numbers.cls ≠ "java/lang/invoke/VarHandle" ∧ (parseMethodDescriptor yX8_numbers.desc).map (fun d => d.parameters.length) = some 2 := by decide +kernel
def f_X8_numbers (p1 : Int32) (p2 : Int32) (m_c : Int32) (m_un : Int32) (m_n : Int64) (m_l : Int64) (m_b : Int64) (m_pa : Nat → Int64) : Int32 × Int32 × Int64 × (Nat → Int64) := (if (f_X8_isCell p1 m_c) = 0 then ((-1), m_un, m_n, m_pa) else (if (f_X8_in p2.toInt64 ((-1)) 4) = 0 then ((-1), m_un, m_n, m_pa) else (if 0 ≤ p2 then (if (f_X8_numberAt p1 m_n) = p2 then ((-2), m_un, m_n, m_pa) else (bd (f_X8_minds m_un m_n m_l m_b m_pa) (fun u1 => (bd (f_X8_becomes p1 p2.toInt64 m_n) (fun u2 => (1, u1.1, u2, u1.2)))))) else (if (f_X8_numberAt p1 m_n) = 5 then ((-2), m_un, m_n, m_pa) else (bd (f_X8_minds m_un m_n m_l m_b m_pa) (fun u3 => (bd (f_X8_becomes p1 ((5 : Int32).toInt64) m_n) (fun u4 => (1, u3.1, u4, u3.2)))))))))
set_option maxHeartbeats 4000000 in
set_option maxRecDepth 100000 in
theorem c_X8_numbers (l : Launch) (D : va_G) (cI cL cZ : ClassId) (ad : Nat → Nat) (m_w m_h m_c m_s m_le m_un m_he m_ro m_wi m_hi m_hr m_hp m_rn m_rw m_rh : Int32) (m_n m_l m_b m_to m_hs : Int64) (m_ho m_tx m_ik m_wt : Nat → Int32) (m_ac m_ap m_pa m_im m_ri : Nat → Int64) (hAd : mInj ad) (p1 p2 : Int32) (r : Int32 × Int32 × Int64 × (Nat → Int64)) (hr : f_X8_numbers p1 p2 m_c m_un m_n m_l m_b m_pa = r) (hu0 : 0 ≤ m_un.toInt) (hu : m_un.toInt ≤ 10) : MI l yX8_numbers (Cond.code yX8_numbers cX8_numbers 4 (some .int) :: W0) 2 46 D cI cL cZ (mAd ad) [.ref (ad 0), .int p1, .int p2] (mw ad cI cL cZ m_w m_h m_c m_s m_le m_un m_he m_ro m_wi m_hi m_hr m_hp m_rn m_rw m_rh m_n m_l m_b m_to m_hs m_ho m_tx m_ik m_wt m_ac m_ap m_pa m_im m_ri) r.1 (mw ad cI cL cZ m_w m_h m_c m_s m_le r.2.1 m_he m_ro m_wi m_hi m_hr m_hp m_rn m_rw m_rh r.2.2.1 m_l m_b m_to m_hs m_ho m_tx m_ik m_wt m_ac m_ap r.2.2.2 m_im m_ri) := by
  refine mk_start (cc := cX8_numbers) (maxL := 4) (ret := (some .int)) (by decide) rfl (Nat.le_of_ble_eq_true rfl) ?_
  intro p e s m below meth c ls C hP hS hl
  obtain ⟨hx, hb, hml, hrt, hlocks, hown, hts, hk⟩ := C
  have hown : s.vm.findClass RX8 = some m.cls := hown
  have hl : lv_has ls 4 [(0, .ref (ad 0)), (1, .int p1), (2, .int p2)] := hl
  rw [f_X8_numbers] at hr
  refine lv_aload_n hx hb dX8_numbers_0 rfl (lv_at hl 0 rfl) ?_
  refine lv_iload_n hx hb dX8_numbers_1 rfl (lv_at hl 1 rfl) ?_
  refine go_z (ru_V (n := 1) ⟨hx, hb, hml, hown, hts⟩ hk hP (c_X8_isCell l D cI cL cZ ad m_w m_h m_c m_s m_le m_un m_he m_ro m_wi m_hi m_hr m_hp m_rn m_rw m_rh m_n m_l m_b m_to m_hs m_ho m_tx m_ik m_wt m_ac m_ap m_pa m_im m_ri hAd p1 _ rfl) (cwV 1 hts (gV q4_136 q4_138 qs3_8 q1_11 q4_139) rfl rfl rfl hd_X8_isCell ⟨Nat.le_of_ble_eq_true rfl, Nat.le_of_ble_eq_true rfl⟩) (va_recv hk.1 hP (ci := 8) (q0 := 0) rfl rfl) rfl hl.1 rfl (Nat.le_of_ble_eq_true rfl) dX8_numbers_2 ⟨Nat.zero_le _, Nat.zero_le _⟩) hS (fun _ h => h) (fun H locs hz2 hP hS => ?_)
  have hP : va_P D vwCl (mw ad cI cL cZ m_w m_h m_c m_s m_le m_un m_he m_ro m_wi m_hi m_hr m_hp m_rn m_rw m_rh m_n m_l m_b m_to m_hs m_ho m_tx m_ik m_wt m_ac m_ap m_pa m_im m_ri) H := hP
  refine lv_if_eq (tgt := 22) hx hb dX8_numbers_5 (by decide) (fun c5 => ?_) (fun c5 => ?_)
  · have hr := (if_pos c5).symm.trans hr
    refine lv_iconst (v := (-1)) hx hb dX8_numbers_22 (by decide) ?_
    subst hr
    exact ret_i hx hb hrt hlocks hP hS dX8_numbers_23
  · have hr := (if_neg c5).symm.trans hr
    refine lv_iload_n hx hb dX8_numbers_8 rfl (lv_at hl 2 rfl) ?_
    refine lv_i2l hx hb dX8_numbers_9 rfl ?_
    refine lv_ldc2 hx hb hown (hts _ q4_187) dX8_numbers_10 ?_
    refine lv_ldc2 hx hb hown (hts _ q4_192) dX8_numbers_13 ?_
    refine go_z (ru_S (n := 3) ⟨hx, hb, hml, hown, hts⟩ hk hP (c_X8_in l D cI cL cZ (mAd ad) (mw ad cI cL cZ m_w m_h m_c m_s m_le m_un m_he m_ro m_wi m_hi m_hr m_hp m_rn m_rw m_rh m_n m_l m_b m_to m_hs m_ho m_tx m_ik m_wt m_ac m_ap m_pa m_im m_ri) p2.toInt64 ((-1)) 4 _ rfl) (va_cwS 3 hts (gS q4_1 q4_2 q1_11 q4_3) rfl rfl rfl hd_X8_in ⟨Nat.le_of_ble_eq_true rfl, Nat.le_of_ble_eq_true rfl⟩) rfl hl.1 rfl (Nat.le_of_ble_eq_true rfl) dX8_numbers_16 ⟨Nat.zero_le _, Nat.zero_le _⟩) hS (fun _ h => h) (fun H locs hz16 hP hS => ?_)
    have hP : va_P D vwCl (mw ad cI cL cZ m_w m_h m_c m_s m_le m_un m_he m_ro m_wi m_hi m_hr m_hp m_rn m_rw m_rh m_n m_l m_b m_to m_hs m_ho m_tx m_ik m_wt m_ac m_ap m_pa m_im m_ri) H := hP
    refine lv_if_ne (tgt := 24) hx hb dX8_numbers_19 (by decide) (fun c19 => ?_) (fun c19 => ?_)
    · have hr := (if_neg c19).symm.trans hr
      refine lv_iload_n hx hb dX8_numbers_24 rfl (lv_at hl 2 rfl) ?_
      refine lv_if_ge (tgt := 32) hx hb dX8_numbers_25 (by decide) (fun c25 => ?_) (fun c25 => ?_)
      · have hr := (if_pos c25).symm.trans hr
        refine lv_iload_n hx hb dX8_numbers_32 rfl (lv_at hl 2 rfl) ?_
        refine lv_istore_n (lv' := [(3, .int p2), (0, .ref (ad 0)), (1, .int p1), (2, .int p2)]) hx hb dX8_numbers_33 rfl hl (by decide) rfl (fun ls hl => ?_)
        refine lv_aload_n hx hb dX8_numbers_34 rfl (lv_at hl 1 rfl) ?_
        refine lv_iload_n hx hb dX8_numbers_35 rfl (lv_at hl 2 rfl) ?_
        refine go_i (ru_V (n := 1) ⟨hx, hb, hml, hown, hts⟩ hk hP (c_X8_numberAt l D cI cL cZ ad m_w m_h m_c m_s m_le m_un m_he m_ro m_wi m_hi m_hr m_hp m_rn m_rw m_rh m_n m_l m_b m_to m_hs m_ho m_tx m_ik m_wt m_ac m_ap m_pa m_im m_ri hAd p1 _ rfl) (cwV 1 hts (gV q4_140 q4_142 qs3_9 q1_11 q4_143) rfl rfl rfl hd_X8_numberAt ⟨Nat.le_of_ble_eq_true rfl, Nat.le_of_ble_eq_true rfl⟩) (va_recv hk.1 hP (ci := 8) (q0 := 0) rfl rfl) rfl hl.1 rfl (Nat.le_of_ble_eq_true rfl) dX8_numbers_36 ⟨Nat.zero_le _, Nat.zero_le _⟩) hS (fun _ h => h) (fun H locs hP hS => ?_)
        have hP : va_P D vwCl (mw ad cI cL cZ m_w m_h m_c m_s m_le m_un m_he m_ro m_wi m_hi m_hr m_hp m_rn m_rw m_rh m_n m_l m_b m_to m_hs m_ho m_tx m_ik m_wt m_ac m_ap m_pa m_im m_ri) H := hP
        refine lv_iload_n hx hb dX8_numbers_39 rfl (lv_at hl 0 rfl) ?_
        refine lv_icmp_ne (tgt := 46) hx hb dX8_numbers_40 (by decide) (fun c40 => ?_) (fun c40 => ?_)
        · have hr := (if_neg c40).symm.trans hr
          refine lv_aload_n hx hb dX8_numbers_46 rfl (lv_at hl 1 rfl) ?_
          obtain ⟨u1, hu1⟩ : ∃ z, f_X8_minds m_un m_n m_l m_b m_pa = z := ⟨_, rfl⟩
          have hr := (bd_eq hu1).symm.trans hr
          refine go_v (ru_V (n := 0) ⟨hx, hb, hml, hown, hts⟩ hk hP (c_X8_minds l D cI cL cZ ad m_w m_h m_c m_s m_le m_un m_he m_ro m_wi m_hi m_hr m_hp m_rn m_rw m_rh m_n m_l m_b m_to m_hs m_ho m_tx m_ik m_wt m_ac m_ap m_pa m_im m_ri hAd _ hu1 hu0 hu) (cwV 0 hts (gV q4_179 q4_181 qs3_14 q1_11 q4_182) rfl rfl rfl hd_X8_minds ⟨Nat.le_of_ble_eq_true rfl, Nat.le_of_ble_eq_true rfl⟩) (va_recv hk.1 hP (ci := 8) (q0 := 0) rfl rfl) rfl hl.1 rfl (Nat.le_of_ble_eq_true rfl) dX8_numbers_47 ⟨Nat.zero_le _, Nat.zero_le _⟩) hS (fun _ h => h) (fun H locs hP hS => ?_)
          have hP : va_P D vwCl (mw ad cI cL cZ m_w m_h m_c m_s m_le u1.1 m_he m_ro m_wi m_hi m_hr m_hp m_rn m_rw m_rh m_n m_l m_b m_to m_hs m_ho m_tx m_ik m_wt m_ac m_ap u1.2 m_im m_ri) H := hP
          refine lv_aload_n hx hb dX8_numbers_50 rfl (lv_at hl 1 rfl) ?_
          refine lv_iload_n hx hb dX8_numbers_51 rfl (lv_at hl 2 rfl) ?_
          refine lv_iload_n hx hb dX8_numbers_52 rfl (lv_at hl 0 rfl) ?_
          refine lv_i2l hx hb dX8_numbers_53 rfl ?_
          obtain ⟨u2, hu2⟩ : ∃ z, f_X8_becomes p1 p2.toInt64 m_n = z := ⟨_, rfl⟩
          have hr := (bd_eq hu2).symm.trans hr
          refine go_v (ru_V (n := 2) ⟨hx, hb, hml, hown, hts⟩ hk hP (c_X8_becomes l D cI cL cZ ad m_w m_h m_c m_s m_le u1.1 m_he m_ro m_wi m_hi m_hr m_hp m_rn m_rw m_rh m_n m_l m_b m_to m_hs m_ho m_tx m_ik m_wt m_ac m_ap u1.2 m_im m_ri hAd p1 p2.toInt64 _ hu2) (cwV 2 hts (gV q4_193 q4_195 qs4_0 q1_11 q4_196) rfl rfl rfl hd_X8_becomes ⟨Nat.le_of_ble_eq_true rfl, Nat.le_of_ble_eq_true rfl⟩) (va_recv hk.1 hP (ci := 8) (q0 := 0) rfl rfl) rfl hl.1 rfl (Nat.le_of_ble_eq_true rfl) dX8_numbers_54 ⟨Nat.zero_le _, Nat.zero_le _⟩) hS (fun _ h => h) (fun H locs hP hS => ?_)
          have hP : va_P D vwCl (mw ad cI cL cZ m_w m_h m_c m_s m_le u1.1 m_he m_ro m_wi m_hi m_hr m_hp m_rn m_rw m_rh u2 m_l m_b m_to m_hs m_ho m_tx m_ik m_wt m_ac m_ap u1.2 m_im m_ri) H := hP
          refine lv_iconst (v := 1) hx hb dX8_numbers_57 (by decide) ?_
          subst hr
          exact ret_i hx hb hrt hlocks hP hS dX8_numbers_58
        · have hr := (if_pos c40).symm.trans hr
          refine lv_bipush (v := (-2)) hx hb dX8_numbers_43 (by decide) ?_
          subst hr
          exact ret_i hx hb hrt hlocks hP hS dX8_numbers_45
      · have hr := (if_neg c25).symm.trans hr
        refine lv_iconst (v := 5) hx hb dX8_numbers_28 (by decide) ?_
        refine lv_goto (tgt := 33) hx hb dX8_numbers_29 (by decide) ?_
        refine lv_istore_n (lv' := [(3, .int 5), (0, .ref (ad 0)), (1, .int p1), (2, .int p2)]) hx hb dX8_numbers_33 rfl hl (by decide) rfl (fun ls hl => ?_)
        refine lv_aload_n hx hb dX8_numbers_34 rfl (lv_at hl 1 rfl) ?_
        refine lv_iload_n hx hb dX8_numbers_35 rfl (lv_at hl 2 rfl) ?_
        refine go_i (ru_V (n := 1) ⟨hx, hb, hml, hown, hts⟩ hk hP (c_X8_numberAt l D cI cL cZ ad m_w m_h m_c m_s m_le m_un m_he m_ro m_wi m_hi m_hr m_hp m_rn m_rw m_rh m_n m_l m_b m_to m_hs m_ho m_tx m_ik m_wt m_ac m_ap m_pa m_im m_ri hAd p1 _ rfl) (cwV 1 hts (gV q4_140 q4_142 qs3_9 q1_11 q4_143) rfl rfl rfl hd_X8_numberAt ⟨Nat.le_of_ble_eq_true rfl, Nat.le_of_ble_eq_true rfl⟩) (va_recv hk.1 hP (ci := 8) (q0 := 0) rfl rfl) rfl hl.1 rfl (Nat.le_of_ble_eq_true rfl) dX8_numbers_36 ⟨Nat.zero_le _, Nat.zero_le _⟩) hS (fun _ h => h) (fun H locs hP hS => ?_)
        have hP : va_P D vwCl (mw ad cI cL cZ m_w m_h m_c m_s m_le m_un m_he m_ro m_wi m_hi m_hr m_hp m_rn m_rw m_rh m_n m_l m_b m_to m_hs m_ho m_tx m_ik m_wt m_ac m_ap m_pa m_im m_ri) H := hP
        refine lv_iload_n hx hb dX8_numbers_39 rfl (lv_at hl 0 rfl) ?_
        refine lv_icmp_ne (tgt := 46) hx hb dX8_numbers_40 (by decide) (fun c40 => ?_) (fun c40 => ?_)
        · have hr := (if_neg c40).symm.trans hr
          refine lv_aload_n hx hb dX8_numbers_46 rfl (lv_at hl 1 rfl) ?_
          obtain ⟨u3, hu3⟩ : ∃ z, f_X8_minds m_un m_n m_l m_b m_pa = z := ⟨_, rfl⟩
          have hr := (bd_eq hu3).symm.trans hr
          refine go_v (ru_V (n := 0) ⟨hx, hb, hml, hown, hts⟩ hk hP (c_X8_minds l D cI cL cZ ad m_w m_h m_c m_s m_le m_un m_he m_ro m_wi m_hi m_hr m_hp m_rn m_rw m_rh m_n m_l m_b m_to m_hs m_ho m_tx m_ik m_wt m_ac m_ap m_pa m_im m_ri hAd _ hu3 hu0 hu) (cwV 0 hts (gV q4_179 q4_181 qs3_14 q1_11 q4_182) rfl rfl rfl hd_X8_minds ⟨Nat.le_of_ble_eq_true rfl, Nat.le_of_ble_eq_true rfl⟩) (va_recv hk.1 hP (ci := 8) (q0 := 0) rfl rfl) rfl hl.1 rfl (Nat.le_of_ble_eq_true rfl) dX8_numbers_47 ⟨Nat.zero_le _, Nat.zero_le _⟩) hS (fun _ h => h) (fun H locs hP hS => ?_)
          have hP : va_P D vwCl (mw ad cI cL cZ m_w m_h m_c m_s m_le u3.1 m_he m_ro m_wi m_hi m_hr m_hp m_rn m_rw m_rh m_n m_l m_b m_to m_hs m_ho m_tx m_ik m_wt m_ac m_ap u3.2 m_im m_ri) H := hP
          refine lv_aload_n hx hb dX8_numbers_50 rfl (lv_at hl 1 rfl) ?_
          refine lv_iload_n hx hb dX8_numbers_51 rfl (lv_at hl 2 rfl) ?_
          refine lv_iload_n hx hb dX8_numbers_52 rfl (lv_at hl 0 rfl) ?_
          refine lv_i2l hx hb dX8_numbers_53 rfl ?_
          obtain ⟨u4, hu4⟩ : ∃ z, f_X8_becomes p1 ((5 : Int32).toInt64) m_n = z := ⟨_, rfl⟩
          have hr := (bd_eq hu4).symm.trans hr
          refine go_v (ru_V (n := 2) ⟨hx, hb, hml, hown, hts⟩ hk hP (c_X8_becomes l D cI cL cZ ad m_w m_h m_c m_s m_le u3.1 m_he m_ro m_wi m_hi m_hr m_hp m_rn m_rw m_rh m_n m_l m_b m_to m_hs m_ho m_tx m_ik m_wt m_ac m_ap u3.2 m_im m_ri hAd p1 ((5 : Int32).toInt64) _ hu4) (cwV 2 hts (gV q4_193 q4_195 qs4_0 q1_11 q4_196) rfl rfl rfl hd_X8_becomes ⟨Nat.le_of_ble_eq_true rfl, Nat.le_of_ble_eq_true rfl⟩) (va_recv hk.1 hP (ci := 8) (q0 := 0) rfl rfl) rfl hl.1 rfl (Nat.le_of_ble_eq_true rfl) dX8_numbers_54 ⟨Nat.zero_le _, Nat.zero_le _⟩) hS (fun _ h => h) (fun H locs hP hS => ?_)
          have hP : va_P D vwCl (mw ad cI cL cZ m_w m_h m_c m_s m_le u3.1 m_he m_ro m_wi m_hi m_hr m_hp m_rn m_rw m_rh u4 m_l m_b m_to m_hs m_ho m_tx m_ik m_wt m_ac m_ap u3.2 m_im m_ri) H := hP
          refine lv_iconst (v := 1) hx hb dX8_numbers_57 (by decide) ?_
          subst hr
          exact ret_i hx hb hrt hlocks hP hS dX8_numbers_58
        · have hr := (if_pos c40).symm.trans hr
          refine lv_bipush (v := (-2)) hx hb dX8_numbers_43 (by decide) ?_
          subst hr
          exact ret_i hx hb hrt hlocks hP hS dX8_numbers_45
    · have hr := (if_pos c19).symm.trans hr
      refine lv_iconst (v := (-1)) hx hb dX8_numbers_22 (by decide) ?_
      subst hr
      exact ret_i hx hb hrt hlocks hP hS dX8_numbers_23
theorem hd_X8_undo : yX8_undo.cls = RX8 ∧ yX8_undo.cls ≠ "java/lang/invoke/MethodHandle" ∧ yX8_undo.cls ≠ "java/lang/invoke/VarHandle" ∧ (parseMethodDescriptor yX8_undo.desc).map (fun d => d.parameters.length) = some 0 := by decide +kernel
def f_X8_undo (m_un : Int32) (m_n : Int64) (m_l : Int64) (m_b : Int64) (m_pa : Nat → Int64) : Int32 × Int32 × Int64 × Int64 × Int64 := (if m_un = 0 then ((-2), m_un, m_n, m_l, m_b) else (m_un - 1, m_un - 1, m_pa (3 * (m_un - 1)).toNatClampNeg, m_pa ((3 * (m_un - 1)) + 1).toNatClampNeg, m_pa ((3 * (m_un - 1)) + 2).toNatClampNeg))
set_option maxHeartbeats 4000000 in
set_option maxRecDepth 100000 in
theorem c_X8_undo (l : Launch) (D : va_G) (cI cL cZ : ClassId) (ad : Nat → Nat) (m_w m_h m_c m_s m_le m_un m_he m_ro m_wi m_hi m_hr m_hp m_rn m_rw m_rh : Int32) (m_n m_l m_b m_to m_hs : Int64) (m_ho m_tx m_ik m_wt : Nat → Int32) (m_ac m_ap m_pa m_im m_ri : Nat → Int64) (hAd : mInj ad) (r : Int32 × Int32 × Int64 × Int64 × Int64) (hr : f_X8_undo m_un m_n m_l m_b m_pa = r) (hu0 : 0 ≤ m_un.toInt) (hu : m_un.toInt ≤ 10) : MI l yX8_undo (Cond.code yX8_undo cX8_undo 1 (some .int) :: W0) 0 0 D cI cL cZ (mAd ad) [.ref (ad 0)] (mw ad cI cL cZ m_w m_h m_c m_s m_le m_un m_he m_ro m_wi m_hi m_hr m_hp m_rn m_rw m_rh m_n m_l m_b m_to m_hs m_ho m_tx m_ik m_wt m_ac m_ap m_pa m_im m_ri) r.1 (mw ad cI cL cZ m_w m_h m_c m_s m_le r.2.1 m_he m_ro m_wi m_hi m_hr m_hp m_rn m_rw m_rh r.2.2.1 r.2.2.2.1 r.2.2.2.2 m_to m_hs m_ho m_tx m_ik m_wt m_ac m_ap m_pa m_im m_ri) := by
  refine mk_start (cc := cX8_undo) (maxL := 1) (ret := (some .int)) (by decide) rfl (Nat.le_of_ble_eq_true rfl) ?_
  intro p e s m below meth c ls C hP hS hl
  obtain ⟨hx, hb, hml, hrt, hlocks, hown, hts, hk⟩ := C
  have hown : s.vm.findClass RX8 = some m.cls := hown
  have hl : lv_has ls 1 [(0, .ref (ad 0))] := hl
  rw [f_X8_undo] at hr
  refine lv_aload_n hx hb dX8_undo_0 rfl (lv_at hl 0 rfl) ?_
  refine va_get (D := D) (ci := 8) (v := .int m_un) (C := RX8) (T := TX8) (N := 29) hx hb hts u_X8 hown hk.1 hP 0 rfl rfl 13 (by decide) (hts _ q4_25) (fun _ h9 => h9) rfl dX8_undo_1 ?_
  refine lv_if_ne (tgt := 10) hx hb dX8_undo_4 (by decide) (fun c4 => ?_) (fun c4 => ?_)
  · have hr := (if_neg c4).symm.trans hr
    refine lv_aload_n hx hb dX8_undo_10 rfl (lv_at hl 0 rfl) ?_
    refine lv_dup hx hb dX8_undo_11 rfl ?_
    refine va_get (D := D) (ci := 8) (v := .int m_un) (C := RX8) (T := TX8) (N := 29) hx hb hts u_X8 hown hk.1 hP 0 rfl rfl 13 (by decide) (hts _ q4_25) (fun _ h9 => h9) rfl dX8_undo_12 ?_
    refine lv_iconst (v := 1) hx hb dX8_undo_15 (by decide) ?_
    refine lv_isub hx hb dX8_undo_16 ?_
    refine va_put (D := D) (ci := 8) (v := .int (m_un - 1)) (ty := .int) (C := RX8) (T := TX8) (N := 29) hx hb hts u_X8 tyX8 tyX8_ok nmX8 hown hk.1 hP (mw_D hAd) hS 0 rfl rfl 13 (by decide) (hts _ q4_25) (fun _ h9 => h9) rfl (tyX8_ok 13 (by decide)) rfl rfl (Nat.le_of_ble_eq_true rfl) dX8_undo_17 (fun H locs hP _ hS => ?_)
    have hP : va_P D vwCl (mw ad cI cL cZ m_w m_h m_c m_s m_le (m_un - 1) m_he m_ro m_wi m_hi m_hr m_hp m_rn m_rw m_rh m_n m_l m_b m_to m_hs m_ho m_tx m_ik m_wt m_ac m_ap m_pa m_im m_ri) H := hP
    refine lv_aload_n hx hb dX8_undo_20 rfl (lv_at hl 0 rfl) ?_
    refine lv_aload_n hx hb dX8_undo_21 rfl (lv_at hl 0 rfl) ?_
    refine va_get (D := D) (ci := 8) (v := .ref (ad 5)) (C := RX8) (T := TX8) (N := 29) hx hb hts u_X8 hown hk.1 hP 0 rfl rfl 12 (by decide) (hts _ q4_24) (fun _ h9 => h9) rfl dX8_undo_22 ?_
    refine lv_iconst (v := 3) hx hb dX8_undo_25 (by decide) ?_
    refine lv_aload_n hx hb dX8_undo_26 rfl (lv_at hl 0 rfl) ?_
    refine va_get (D := D) (ci := 8) (v := .int (m_un - 1)) (C := RX8) (T := TX8) (N := 29) hx hb hts u_X8 hown hk.1 hP 0 rfl rfl 13 (by decide) (hts _ q4_25) (fun _ h9 => h9) rfl dX8_undo_27 ?_
    refine lv_imul hx hb dX8_undo_30 ?_
    refine va_lald hx hb hk.1 hP 5 1 (rfl) rfl (vin3 (mu_c hu0 hu c4).1 (mu_c hu0 hu c4).2 (by decide) (by decide)).1 dX8_undo_31 ?_
    refine va_put (D := D) (ci := 8) (v := .long (m_pa (3 * (m_un - 1)).toNatClampNeg)) (ty := .long) (C := RX8) (T := TX8) (N := 29) hx hb hts u_X8 tyX8 tyX8_ok nmX8 hown hk.1 hP (mw_D hAd) hS 0 rfl rfl 0 (by decide) (hts _ q4_12) (fun _ h9 => h9) rfl (tyX8_ok 0 (by decide)) rfl rfl (Nat.le_of_ble_eq_true rfl) dX8_undo_32 (fun H locs hP _ hS => ?_)
    have hP : va_P D vwCl (mw ad cI cL cZ m_w m_h m_c m_s m_le (m_un - 1) m_he m_ro m_wi m_hi m_hr m_hp m_rn m_rw m_rh (m_pa (3 * (m_un - 1)).toNatClampNeg) m_l m_b m_to m_hs m_ho m_tx m_ik m_wt m_ac m_ap m_pa m_im m_ri) H := hP
    refine lv_aload_n hx hb dX8_undo_35 rfl (lv_at hl 0 rfl) ?_
    refine lv_aload_n hx hb dX8_undo_36 rfl (lv_at hl 0 rfl) ?_
    refine va_get (D := D) (ci := 8) (v := .ref (ad 5)) (C := RX8) (T := TX8) (N := 29) hx hb hts u_X8 hown hk.1 hP 0 rfl rfl 12 (by decide) (hts _ q4_24) (fun _ h9 => h9) rfl dX8_undo_37 ?_
    refine lv_iconst (v := 3) hx hb dX8_undo_40 (by decide) ?_
    refine lv_aload_n hx hb dX8_undo_41 rfl (lv_at hl 0 rfl) ?_
    refine va_get (D := D) (ci := 8) (v := .int (m_un - 1)) (C := RX8) (T := TX8) (N := 29) hx hb hts u_X8 hown hk.1 hP 0 rfl rfl 13 (by decide) (hts _ q4_25) (fun _ h9 => h9) rfl dX8_undo_42 ?_
    refine lv_imul hx hb dX8_undo_45 ?_
    refine lv_iconst (v := 1) hx hb dX8_undo_46 (by decide) ?_
    refine lv_iadd hx hb dX8_undo_47 ?_
    refine va_lald hx hb hk.1 hP 5 1 (rfl) rfl (vin3 (mu_c hu0 hu c4).1 (mu_c hu0 hu c4).2 (by decide) (by decide)).2.1 dX8_undo_48 ?_
    refine va_put (D := D) (ci := 8) (v := .long (m_pa ((3 * (m_un - 1)) + 1).toNatClampNeg)) (ty := .long) (C := RX8) (T := TX8) (N := 29) hx hb hts u_X8 tyX8 tyX8_ok nmX8 hown hk.1 hP (mw_D hAd) hS 0 rfl rfl 1 (by decide) (hts _ q4_13) (fun _ h9 => h9) rfl (tyX8_ok 1 (by decide)) rfl rfl (Nat.le_of_ble_eq_true rfl) dX8_undo_49 (fun H locs hP _ hS => ?_)
    have hP : va_P D vwCl (mw ad cI cL cZ m_w m_h m_c m_s m_le (m_un - 1) m_he m_ro m_wi m_hi m_hr m_hp m_rn m_rw m_rh (m_pa (3 * (m_un - 1)).toNatClampNeg) (m_pa ((3 * (m_un - 1)) + 1).toNatClampNeg) m_b m_to m_hs m_ho m_tx m_ik m_wt m_ac m_ap m_pa m_im m_ri) H := hP
    refine lv_aload_n hx hb dX8_undo_52 rfl (lv_at hl 0 rfl) ?_
    refine lv_aload_n hx hb dX8_undo_53 rfl (lv_at hl 0 rfl) ?_
    refine va_get (D := D) (ci := 8) (v := .ref (ad 5)) (C := RX8) (T := TX8) (N := 29) hx hb hts u_X8 hown hk.1 hP 0 rfl rfl 12 (by decide) (hts _ q4_24) (fun _ h9 => h9) rfl dX8_undo_54 ?_
    refine lv_iconst (v := 3) hx hb dX8_undo_57 (by decide) ?_
    refine lv_aload_n hx hb dX8_undo_58 rfl (lv_at hl 0 rfl) ?_
    refine va_get (D := D) (ci := 8) (v := .int (m_un - 1)) (C := RX8) (T := TX8) (N := 29) hx hb hts u_X8 hown hk.1 hP 0 rfl rfl 13 (by decide) (hts _ q4_25) (fun _ h9 => h9) rfl dX8_undo_59 ?_
    refine lv_imul hx hb dX8_undo_62 ?_
    refine lv_iconst (v := 2) hx hb dX8_undo_63 (by decide) ?_
    refine lv_iadd hx hb dX8_undo_64 ?_
    refine va_lald hx hb hk.1 hP 5 1 (rfl) rfl (vin3 (mu_c hu0 hu c4).1 (mu_c hu0 hu c4).2 (by decide) (by decide)).2.2 dX8_undo_65 ?_
    refine va_put (D := D) (ci := 8) (v := .long (m_pa ((3 * (m_un - 1)) + 2).toNatClampNeg)) (ty := .long) (C := RX8) (T := TX8) (N := 29) hx hb hts u_X8 tyX8 tyX8_ok nmX8 hown hk.1 hP (mw_D hAd) hS 0 rfl rfl 2 (by decide) (hts _ q4_14) (fun _ h9 => h9) rfl (tyX8_ok 2 (by decide)) rfl rfl (Nat.le_of_ble_eq_true rfl) dX8_undo_66 (fun H locs hP _ hS => ?_)
    have hP : va_P D vwCl (mw ad cI cL cZ m_w m_h m_c m_s m_le (m_un - 1) m_he m_ro m_wi m_hi m_hr m_hp m_rn m_rw m_rh (m_pa (3 * (m_un - 1)).toNatClampNeg) (m_pa ((3 * (m_un - 1)) + 1).toNatClampNeg) (m_pa ((3 * (m_un - 1)) + 2).toNatClampNeg) m_to m_hs m_ho m_tx m_ik m_wt m_ac m_ap m_pa m_im m_ri) H := hP
    refine lv_aload_n hx hb dX8_undo_69 rfl (lv_at hl 0 rfl) ?_
    refine va_get (D := D) (ci := 8) (v := .int (m_un - 1)) (C := RX8) (T := TX8) (N := 29) hx hb hts u_X8 hown hk.1 hP 0 rfl rfl 13 (by decide) (hts _ q4_25) (fun _ h9 => h9) rfl dX8_undo_70 ?_
    subst hr
    exact ret_i hx hb hrt hlocks hP hS dX8_undo_73
  · have hr := (if_pos c4).symm.trans hr
    refine lv_bipush (v := (-2)) hx hb dX8_undo_7 (by decide) ?_
    subst hr
    exact ret_i hx hb hrt hlocks hP hS dX8_undo_9
theorem hd_X8_keep : yX8_keep.cls = RX8 ∧ yX8_keep.cls ≠ "java/lang/invoke/MethodHandle" ∧ yX8_keep.cls ≠ "java/lang/invoke/VarHandle" ∧ (parseMethodDescriptor yX8_keep.desc).map (fun d => d.parameters.length) = some 1 := by decide +kernel
def f_X8_keep (p1 : Int32) (m_s : Int32) (m_n : Int64) (m_l : Int64) (m_b : Int64) (m_ik : Nat → Int32) (m_im : Nat → Int64) : Int32 × (Nat → Int32) × (Nat → Int64) := (if (f_X8_in p1.toInt64 0 1) = 0 then ((-1), m_ik, m_im) else (f_X8_ones (f_X8_open m_s m_l m_b), upd m_ik p1.toNatClampNeg (vp_nar .boolean 1), vp_updL (vp_updL (vp_updL m_im (3 * p1).toNatClampNeg m_n) ((3 * p1) + 1).toNatClampNeg m_l) ((3 * p1) + 2).toNatClampNeg m_b))
set_option maxHeartbeats 4000000 in
set_option maxRecDepth 100000 in
theorem c_X8_keep (l : Launch) (D : va_G) (cI cL cZ : ClassId) (ad : Nat → Nat) (m_w m_h m_c m_s m_le m_un m_he m_ro m_wi m_hi m_hr m_hp m_rn m_rw m_rh : Int32) (m_n m_l m_b m_to m_hs : Int64) (m_ho m_tx m_ik m_wt : Nat → Int32) (m_ac m_ap m_pa m_im m_ri : Nat → Int64) (hAd : mInj ad) (p1 : Int32) (r : Int32 × (Nat → Int32) × (Nat → Int64)) (hr : f_X8_keep p1 m_s m_n m_l m_b m_ik m_im = r) : MI l yX8_keep (Cond.code yX8_keep cX8_keep 2 (some .int) :: W0) 2 40 D cI cL cZ (mAd ad) [.ref (ad 0), .int p1] (mw ad cI cL cZ m_w m_h m_c m_s m_le m_un m_he m_ro m_wi m_hi m_hr m_hp m_rn m_rw m_rh m_n m_l m_b m_to m_hs m_ho m_tx m_ik m_wt m_ac m_ap m_pa m_im m_ri) r.1 (mw ad cI cL cZ m_w m_h m_c m_s m_le m_un m_he m_ro m_wi m_hi m_hr m_hp m_rn m_rw m_rh m_n m_l m_b m_to m_hs m_ho m_tx r.2.1 m_wt m_ac m_ap m_pa r.2.2 m_ri) := by
  refine mk_start (cc := cX8_keep) (maxL := 2) (ret := (some .int)) (by decide) rfl (Nat.le_of_ble_eq_true rfl) ?_
  intro p e s m below meth c ls C hP hS hl
  obtain ⟨hx, hb, hml, hrt, hlocks, hown, hts, hk⟩ := C
  have hown : s.vm.findClass RX8 = some m.cls := hown
  have hl : lv_has ls 2 [(0, .ref (ad 0)), (1, .int p1)] := hl
  rw [f_X8_keep] at hr
  refine lv_iload_n hx hb dX8_keep_0 rfl (lv_at hl 1 rfl) ?_
  refine lv_i2l hx hb dX8_keep_1 rfl ?_
  refine lv_lconst (v := 0) hx hb dX8_keep_2 (by decide) ?_
  refine lv_lconst (v := 1) hx hb dX8_keep_3 (by decide) ?_
  refine go_z (ru_S (n := 3) ⟨hx, hb, hml, hown, hts⟩ hk hP (c_X8_in l D cI cL cZ (mAd ad) (mw ad cI cL cZ m_w m_h m_c m_s m_le m_un m_he m_ro m_wi m_hi m_hr m_hp m_rn m_rw m_rh m_n m_l m_b m_to m_hs m_ho m_tx m_ik m_wt m_ac m_ap m_pa m_im m_ri) p1.toInt64 0 1 _ rfl) (va_cwS 3 hts (gS q4_1 q4_2 q1_11 q4_3) rfl rfl rfl hd_X8_in ⟨Nat.le_of_ble_eq_true rfl, Nat.le_of_ble_eq_true rfl⟩) rfl hl.1 rfl (Nat.le_of_ble_eq_true rfl) dX8_keep_4 ⟨Nat.zero_le _, Nat.zero_le _⟩) hS (fun _ h => h) (fun H locs hz4 hP hS => ?_)
  have hP : va_P D vwCl (mw ad cI cL cZ m_w m_h m_c m_s m_le m_un m_he m_ro m_wi m_hi m_hr m_hp m_rn m_rw m_rh m_n m_l m_b m_to m_hs m_ho m_tx m_ik m_wt m_ac m_ap m_pa m_im m_ri) H := hP
  refine lv_if_ne (tgt := 12) hx hb dX8_keep_7 (by decide) (fun c7 => ?_) (fun c7 => ?_)
  · have hr := (if_neg c7).symm.trans hr
    refine lv_aload_n hx hb dX8_keep_12 rfl (lv_at hl 0 rfl) ?_
    refine va_get (D := D) (ci := 8) (v := .ref (ad 6)) (C := RX8) (T := TX8) (N := 29) hx hb hts u_X8 hown hk.1 hP 0 rfl rfl 14 (by decide) (hts _ q4_26) (fun _ h9 => h9) rfl dX8_keep_13 ?_
    refine lv_iconst (v := 3) hx hb dX8_keep_16 (by decide) ?_
    refine lv_iload_n hx hb dX8_keep_17 rfl (lv_at hl 1 rfl) ?_
    refine lv_imul hx hb dX8_keep_18 ?_
    refine lv_aload_n hx hb dX8_keep_19 rfl (lv_at hl 0 rfl) ?_
    refine va_get (D := D) (ci := 8) (v := .long m_n) (C := RX8) (T := TX8) (N := 29) hx hb hts u_X8 hown hk.1 hP 0 rfl rfl 0 (by decide) (hts _ q4_12) (fun _ h9 => h9) rfl dX8_keep_20 ?_
    refine va_last hx hb hk.1 hP (mw_D hAd) hS 6 1 (rfl) rfl (vin3 (in_01 c7).1 (in_01 c7).2 (by decide) (by decide)).1 dX8_keep_23 (fun H locs hP _ hS => ?_)
    have hP : va_P D vwCl (mw ad cI cL cZ m_w m_h m_c m_s m_le m_un m_he m_ro m_wi m_hi m_hr m_hp m_rn m_rw m_rh m_n m_l m_b m_to m_hs m_ho m_tx m_ik m_wt m_ac m_ap m_pa (vp_updL m_im (3 * p1).toNatClampNeg m_n) m_ri) H := hP
    refine lv_aload_n hx hb dX8_keep_24 rfl (lv_at hl 0 rfl) ?_
    refine va_get (D := D) (ci := 8) (v := .ref (ad 6)) (C := RX8) (T := TX8) (N := 29) hx hb hts u_X8 hown hk.1 hP 0 rfl rfl 14 (by decide) (hts _ q4_26) (fun _ h9 => h9) rfl dX8_keep_25 ?_
    refine lv_iconst (v := 3) hx hb dX8_keep_28 (by decide) ?_
    refine lv_iload_n hx hb dX8_keep_29 rfl (lv_at hl 1 rfl) ?_
    refine lv_imul hx hb dX8_keep_30 ?_
    refine lv_iconst (v := 1) hx hb dX8_keep_31 (by decide) ?_
    refine lv_iadd hx hb dX8_keep_32 ?_
    refine lv_aload_n hx hb dX8_keep_33 rfl (lv_at hl 0 rfl) ?_
    refine va_get (D := D) (ci := 8) (v := .long m_l) (C := RX8) (T := TX8) (N := 29) hx hb hts u_X8 hown hk.1 hP 0 rfl rfl 1 (by decide) (hts _ q4_13) (fun _ h9 => h9) rfl dX8_keep_34 ?_
    refine va_last hx hb hk.1 hP (mw_D hAd) hS 6 1 (rfl) rfl (vin3 (in_01 c7).1 (in_01 c7).2 (by decide) (by decide)).2.1 dX8_keep_37 (fun H locs hP _ hS => ?_)
    have hP : va_P D vwCl (mw ad cI cL cZ m_w m_h m_c m_s m_le m_un m_he m_ro m_wi m_hi m_hr m_hp m_rn m_rw m_rh m_n m_l m_b m_to m_hs m_ho m_tx m_ik m_wt m_ac m_ap m_pa (vp_updL (vp_updL m_im (3 * p1).toNatClampNeg m_n) ((3 * p1) + 1).toNatClampNeg m_l) m_ri) H := hP
    refine lv_aload_n hx hb dX8_keep_38 rfl (lv_at hl 0 rfl) ?_
    refine va_get (D := D) (ci := 8) (v := .ref (ad 6)) (C := RX8) (T := TX8) (N := 29) hx hb hts u_X8 hown hk.1 hP 0 rfl rfl 14 (by decide) (hts _ q4_26) (fun _ h9 => h9) rfl dX8_keep_39 ?_
    refine lv_iconst (v := 3) hx hb dX8_keep_42 (by decide) ?_
    refine lv_iload_n hx hb dX8_keep_43 rfl (lv_at hl 1 rfl) ?_
    refine lv_imul hx hb dX8_keep_44 ?_
    refine lv_iconst (v := 2) hx hb dX8_keep_45 (by decide) ?_
    refine lv_iadd hx hb dX8_keep_46 ?_
    refine lv_aload_n hx hb dX8_keep_47 rfl (lv_at hl 0 rfl) ?_
    refine va_get (D := D) (ci := 8) (v := .long m_b) (C := RX8) (T := TX8) (N := 29) hx hb hts u_X8 hown hk.1 hP 0 rfl rfl 2 (by decide) (hts _ q4_14) (fun _ h9 => h9) rfl dX8_keep_48 ?_
    refine va_last hx hb hk.1 hP (mw_D hAd) hS 6 1 (rfl) rfl (vin3 (in_01 c7).1 (in_01 c7).2 (by decide) (by decide)).2.2 dX8_keep_51 (fun H locs hP _ hS => ?_)
    have hP : va_P D vwCl (mw ad cI cL cZ m_w m_h m_c m_s m_le m_un m_he m_ro m_wi m_hi m_hr m_hp m_rn m_rw m_rh m_n m_l m_b m_to m_hs m_ho m_tx m_ik m_wt m_ac m_ap m_pa (vp_updL (vp_updL (vp_updL m_im (3 * p1).toNatClampNeg m_n) ((3 * p1) + 1).toNatClampNeg m_l) ((3 * p1) + 2).toNatClampNeg m_b) m_ri) H := hP
    refine lv_aload_n hx hb dX8_keep_52 rfl (lv_at hl 0 rfl) ?_
    refine va_get (D := D) (ci := 8) (v := .ref (ad 7)) (C := RX8) (T := TX8) (N := 29) hx hb hts u_X8 hown hk.1 hP 0 rfl rfl 15 (by decide) (hts _ q4_27) (fun _ h9 => h9) rfl dX8_keep_53 ?_
    refine lv_iload_n hx hb dX8_keep_56 rfl (lv_at hl 1 rfl) ?_
    refine lv_iconst (v := 1) hx hb dX8_keep_57 (by decide) ?_
    refine va_zast hx hb hk.1 hP (mw_D hAd) hS 7 2 (rfl) rfl (vin (in_01 c7).1 (Int.lt_of_le_of_lt (in_01 c7).2 (by decide))) dX8_keep_58 (fun H locs hP _ hS => ?_)
    have hP : va_P D vwCl (mw ad cI cL cZ m_w m_h m_c m_s m_le m_un m_he m_ro m_wi m_hi m_hr m_hp m_rn m_rw m_rh m_n m_l m_b m_to m_hs m_ho m_tx (upd m_ik p1.toNatClampNeg (vp_nar .boolean 1)) m_wt m_ac m_ap m_pa (vp_updL (vp_updL (vp_updL m_im (3 * p1).toNatClampNeg m_n) ((3 * p1) + 1).toNatClampNeg m_l) ((3 * p1) + 2).toNatClampNeg m_b) m_ri) H := hP
    refine lv_aload_n hx hb dX8_keep_59 rfl (lv_at hl 0 rfl) ?_
    refine go_l (ru_V (n := 0) ⟨hx, hb, hml, hown, hts⟩ hk hP (c_X8_open l D cI cL cZ ad m_w m_h m_c m_s m_le m_un m_he m_ro m_wi m_hi m_hr m_hp m_rn m_rw m_rh m_n m_l m_b m_to m_hs m_ho m_tx (upd m_ik p1.toNatClampNeg (vp_nar .boolean 1)) m_wt m_ac m_ap m_pa (vp_updL (vp_updL (vp_updL m_im (3 * p1).toNatClampNeg m_n) ((3 * p1) + 1).toNatClampNeg m_l) ((3 * p1) + 2).toNatClampNeg m_b) m_ri hAd _ rfl) (cwV 0 hts (gV q4_216 q4_218 qs4_4 q1_11 q4_219) rfl rfl rfl hd_X8_open ⟨Nat.le_of_ble_eq_true rfl, Nat.le_of_ble_eq_true rfl⟩) (va_recv hk.1 hP (ci := 8) (q0 := 0) rfl rfl) rfl hl.1 rfl (Nat.le_of_ble_eq_true rfl) dX8_keep_60 ⟨Nat.zero_le _, Nat.zero_le _⟩) hS (fun _ h => h) (fun H locs hP hS => ?_)
    have hP : va_P D vwCl (mw ad cI cL cZ m_w m_h m_c m_s m_le m_un m_he m_ro m_wi m_hi m_hr m_hp m_rn m_rw m_rh m_n m_l m_b m_to m_hs m_ho m_tx (upd m_ik p1.toNatClampNeg (vp_nar .boolean 1)) m_wt m_ac m_ap m_pa (vp_updL (vp_updL (vp_updL m_im (3 * p1).toNatClampNeg m_n) ((3 * p1) + 1).toNatClampNeg m_l) ((3 * p1) + 2).toNatClampNeg m_b) m_ri) H := hP
    refine go_i (ru_S (n := 1) ⟨hx, hb, hml, hown, hts⟩ hk hP (c_X8_ones l D cI cL cZ (mAd ad) (mw ad cI cL cZ m_w m_h m_c m_s m_le m_un m_he m_ro m_wi m_hi m_hr m_hp m_rn m_rw m_rh m_n m_l m_b m_to m_hs m_ho m_tx (upd m_ik p1.toNatClampNeg (vp_nar .boolean 1)) m_wt m_ac m_ap m_pa (vp_updL (vp_updL (vp_updL m_im (3 * p1).toNatClampNeg m_n) ((3 * p1) + 1).toNatClampNeg m_l) ((3 * p1) + 2).toNatClampNeg m_b) m_ri) (f_X8_open m_s m_l m_b) _ rfl) (va_cwS 1 hts (gS q4_213 q4_214 q1_11 q4_215) rfl rfl rfl hd_X8_ones ⟨Nat.le_of_ble_eq_true rfl, Nat.le_of_ble_eq_true rfl⟩) rfl hl.1 rfl (Nat.le_of_ble_eq_true rfl) dX8_keep_63 ⟨Nat.zero_le _, Nat.zero_le _⟩) hS (fun _ h => h) (fun H locs hP hS => ?_)
    have hP : va_P D vwCl (mw ad cI cL cZ m_w m_h m_c m_s m_le m_un m_he m_ro m_wi m_hi m_hr m_hp m_rn m_rw m_rh m_n m_l m_b m_to m_hs m_ho m_tx (upd m_ik p1.toNatClampNeg (vp_nar .boolean 1)) m_wt m_ac m_ap m_pa (vp_updL (vp_updL (vp_updL m_im (3 * p1).toNatClampNeg m_n) ((3 * p1) + 1).toNatClampNeg m_l) ((3 * p1) + 2).toNatClampNeg m_b) m_ri) H := hP
    subst hr
    exact ret_i hx hb hrt hlocks hP hS dX8_keep_66
  · have hr := (if_pos c7).symm.trans hr
    refine lv_iconst (v := (-1)) hx hb dX8_keep_10 (by decide) ?_
    subst hr
    exact ret_i hx hb hrt hlocks hP hS dX8_keep_11
theorem hd_X8_back : yX8_back.cls = RX8 ∧ yX8_back.cls ≠ "java/lang/invoke/MethodHandle" ∧ yX8_back.cls ≠ "java/lang/invoke/VarHandle" ∧ (parseMethodDescriptor yX8_back.desc).map (fun d => d.parameters.length) = some 1 := by decide +kernel
def f_X8_back (p1 : Int32) (m_s : Int32) (m_un : Int32) (m_n : Int64) (m_l : Int64) (m_b : Int64) (m_ik : Nat → Int32) (m_im : Nat → Int64) : Int32 × Int32 × Int64 × Int64 × Int64 := (if (f_X8_in p1.toInt64 0 1) = 0 then ((-1), m_un, m_n, m_l, m_b) else (if (m_ik p1.toNatClampNeg) = 0 then ((-2), m_un, m_n, m_l, m_b) else (f_X8_ones (f_X8_open m_s (m_im ((3 * p1) + 1).toNatClampNeg) (m_im ((3 * p1) + 2).toNatClampNeg)), 0, m_im (3 * p1).toNatClampNeg, m_im ((3 * p1) + 1).toNatClampNeg, m_im ((3 * p1) + 2).toNatClampNeg)))
set_option maxHeartbeats 4000000 in
set_option maxRecDepth 100000 in
theorem c_X8_back (l : Launch) (D : va_G) (cI cL cZ : ClassId) (ad : Nat → Nat) (m_w m_h m_c m_s m_le m_un m_he m_ro m_wi m_hi m_hr m_hp m_rn m_rw m_rh : Int32) (m_n m_l m_b m_to m_hs : Int64) (m_ho m_tx m_ik m_wt : Nat → Int32) (m_ac m_ap m_pa m_im m_ri : Nat → Int64) (hAd : mInj ad) (p1 : Int32) (r : Int32 × Int32 × Int64 × Int64 × Int64) (hr : f_X8_back p1 m_s m_un m_n m_l m_b m_ik m_im = r) : MI l yX8_back (Cond.code yX8_back cX8_back 2 (some .int) :: W0) 2 40 D cI cL cZ (mAd ad) [.ref (ad 0), .int p1] (mw ad cI cL cZ m_w m_h m_c m_s m_le m_un m_he m_ro m_wi m_hi m_hr m_hp m_rn m_rw m_rh m_n m_l m_b m_to m_hs m_ho m_tx m_ik m_wt m_ac m_ap m_pa m_im m_ri) r.1 (mw ad cI cL cZ m_w m_h m_c m_s m_le r.2.1 m_he m_ro m_wi m_hi m_hr m_hp m_rn m_rw m_rh r.2.2.1 r.2.2.2.1 r.2.2.2.2 m_to m_hs m_ho m_tx m_ik m_wt m_ac m_ap m_pa m_im m_ri) := by
  refine mk_start (cc := cX8_back) (maxL := 2) (ret := (some .int)) (by decide) rfl (Nat.le_of_ble_eq_true rfl) ?_
  intro p e s m below meth c ls C hP hS hl
  obtain ⟨hx, hb, hml, hrt, hlocks, hown, hts, hk⟩ := C
  have hown : s.vm.findClass RX8 = some m.cls := hown
  have hl : lv_has ls 2 [(0, .ref (ad 0)), (1, .int p1)] := hl
  rw [f_X8_back] at hr
  refine lv_iload_n hx hb dX8_back_0 rfl (lv_at hl 1 rfl) ?_
  refine lv_i2l hx hb dX8_back_1 rfl ?_
  refine lv_lconst (v := 0) hx hb dX8_back_2 (by decide) ?_
  refine lv_lconst (v := 1) hx hb dX8_back_3 (by decide) ?_
  refine go_z (ru_S (n := 3) ⟨hx, hb, hml, hown, hts⟩ hk hP (c_X8_in l D cI cL cZ (mAd ad) (mw ad cI cL cZ m_w m_h m_c m_s m_le m_un m_he m_ro m_wi m_hi m_hr m_hp m_rn m_rw m_rh m_n m_l m_b m_to m_hs m_ho m_tx m_ik m_wt m_ac m_ap m_pa m_im m_ri) p1.toInt64 0 1 _ rfl) (va_cwS 3 hts (gS q4_1 q4_2 q1_11 q4_3) rfl rfl rfl hd_X8_in ⟨Nat.le_of_ble_eq_true rfl, Nat.le_of_ble_eq_true rfl⟩) rfl hl.1 rfl (Nat.le_of_ble_eq_true rfl) dX8_back_4 ⟨Nat.zero_le _, Nat.zero_le _⟩) hS (fun _ h => h) (fun H locs hz4 hP hS => ?_)
  have hP : va_P D vwCl (mw ad cI cL cZ m_w m_h m_c m_s m_le m_un m_he m_ro m_wi m_hi m_hr m_hp m_rn m_rw m_rh m_n m_l m_b m_to m_hs m_ho m_tx m_ik m_wt m_ac m_ap m_pa m_im m_ri) H := hP
  refine lv_if_ne (tgt := 12) hx hb dX8_back_7 (by decide) (fun c7 => ?_) (fun c7 => ?_)
  · have hr := (if_neg c7).symm.trans hr
    refine lv_aload_n hx hb dX8_back_12 rfl (lv_at hl 0 rfl) ?_
    refine va_get (D := D) (ci := 8) (v := .ref (ad 7)) (C := RX8) (T := TX8) (N := 29) hx hb hts u_X8 hown hk.1 hP 0 rfl rfl 15 (by decide) (hts _ q4_27) (fun _ h9 => h9) rfl dX8_back_13 ?_
    refine lv_iload_n hx hb dX8_back_16 rfl (lv_at hl 1 rfl) ?_
    refine va_zald hx hb hk.1 hP 7 2 (rfl) rfl (vin (in_01 c7).1 (Int.lt_of_le_of_lt (in_01 c7).2 (by decide))) dX8_back_17 ?_
    refine lv_if_ne (tgt := 24) hx hb dX8_back_18 (by decide) (fun c18 => ?_) (fun c18 => ?_)
    · have hr := (if_neg c18).symm.trans hr
      refine lv_aload_n hx hb dX8_back_24 rfl (lv_at hl 0 rfl) ?_
      refine lv_aload_n hx hb dX8_back_25 rfl (lv_at hl 0 rfl) ?_
      refine va_get (D := D) (ci := 8) (v := .ref (ad 6)) (C := RX8) (T := TX8) (N := 29) hx hb hts u_X8 hown hk.1 hP 0 rfl rfl 14 (by decide) (hts _ q4_26) (fun _ h9 => h9) rfl dX8_back_26 ?_
      refine lv_iconst (v := 3) hx hb dX8_back_29 (by decide) ?_
      refine lv_iload_n hx hb dX8_back_30 rfl (lv_at hl 1 rfl) ?_
      refine lv_imul hx hb dX8_back_31 ?_
      refine va_lald hx hb hk.1 hP 6 1 (rfl) rfl (vin3 (in_01 c7).1 (in_01 c7).2 (by decide) (by decide)).1 dX8_back_32 ?_
      refine va_put (D := D) (ci := 8) (v := .long (m_im (3 * p1).toNatClampNeg)) (ty := .long) (C := RX8) (T := TX8) (N := 29) hx hb hts u_X8 tyX8 tyX8_ok nmX8 hown hk.1 hP (mw_D hAd) hS 0 rfl rfl 0 (by decide) (hts _ q4_12) (fun _ h9 => h9) rfl (tyX8_ok 0 (by decide)) rfl rfl (Nat.le_of_ble_eq_true rfl) dX8_back_33 (fun H locs hP _ hS => ?_)
      have hP : va_P D vwCl (mw ad cI cL cZ m_w m_h m_c m_s m_le m_un m_he m_ro m_wi m_hi m_hr m_hp m_rn m_rw m_rh (m_im (3 * p1).toNatClampNeg) m_l m_b m_to m_hs m_ho m_tx m_ik m_wt m_ac m_ap m_pa m_im m_ri) H := hP
      refine lv_aload_n hx hb dX8_back_36 rfl (lv_at hl 0 rfl) ?_
      refine lv_aload_n hx hb dX8_back_37 rfl (lv_at hl 0 rfl) ?_
      refine va_get (D := D) (ci := 8) (v := .ref (ad 6)) (C := RX8) (T := TX8) (N := 29) hx hb hts u_X8 hown hk.1 hP 0 rfl rfl 14 (by decide) (hts _ q4_26) (fun _ h9 => h9) rfl dX8_back_38 ?_
      refine lv_iconst (v := 3) hx hb dX8_back_41 (by decide) ?_
      refine lv_iload_n hx hb dX8_back_42 rfl (lv_at hl 1 rfl) ?_
      refine lv_imul hx hb dX8_back_43 ?_
      refine lv_iconst (v := 1) hx hb dX8_back_44 (by decide) ?_
      refine lv_iadd hx hb dX8_back_45 ?_
      refine va_lald hx hb hk.1 hP 6 1 (rfl) rfl (vin3 (in_01 c7).1 (in_01 c7).2 (by decide) (by decide)).2.1 dX8_back_46 ?_
      refine va_put (D := D) (ci := 8) (v := .long (m_im ((3 * p1) + 1).toNatClampNeg)) (ty := .long) (C := RX8) (T := TX8) (N := 29) hx hb hts u_X8 tyX8 tyX8_ok nmX8 hown hk.1 hP (mw_D hAd) hS 0 rfl rfl 1 (by decide) (hts _ q4_13) (fun _ h9 => h9) rfl (tyX8_ok 1 (by decide)) rfl rfl (Nat.le_of_ble_eq_true rfl) dX8_back_47 (fun H locs hP _ hS => ?_)
      have hP : va_P D vwCl (mw ad cI cL cZ m_w m_h m_c m_s m_le m_un m_he m_ro m_wi m_hi m_hr m_hp m_rn m_rw m_rh (m_im (3 * p1).toNatClampNeg) (m_im ((3 * p1) + 1).toNatClampNeg) m_b m_to m_hs m_ho m_tx m_ik m_wt m_ac m_ap m_pa m_im m_ri) H := hP
      refine lv_aload_n hx hb dX8_back_50 rfl (lv_at hl 0 rfl) ?_
      refine lv_aload_n hx hb dX8_back_51 rfl (lv_at hl 0 rfl) ?_
      refine va_get (D := D) (ci := 8) (v := .ref (ad 6)) (C := RX8) (T := TX8) (N := 29) hx hb hts u_X8 hown hk.1 hP 0 rfl rfl 14 (by decide) (hts _ q4_26) (fun _ h9 => h9) rfl dX8_back_52 ?_
      refine lv_iconst (v := 3) hx hb dX8_back_55 (by decide) ?_
      refine lv_iload_n hx hb dX8_back_56 rfl (lv_at hl 1 rfl) ?_
      refine lv_imul hx hb dX8_back_57 ?_
      refine lv_iconst (v := 2) hx hb dX8_back_58 (by decide) ?_
      refine lv_iadd hx hb dX8_back_59 ?_
      refine va_lald hx hb hk.1 hP 6 1 (rfl) rfl (vin3 (in_01 c7).1 (in_01 c7).2 (by decide) (by decide)).2.2 dX8_back_60 ?_
      refine va_put (D := D) (ci := 8) (v := .long (m_im ((3 * p1) + 2).toNatClampNeg)) (ty := .long) (C := RX8) (T := TX8) (N := 29) hx hb hts u_X8 tyX8 tyX8_ok nmX8 hown hk.1 hP (mw_D hAd) hS 0 rfl rfl 2 (by decide) (hts _ q4_14) (fun _ h9 => h9) rfl (tyX8_ok 2 (by decide)) rfl rfl (Nat.le_of_ble_eq_true rfl) dX8_back_61 (fun H locs hP _ hS => ?_)
      have hP : va_P D vwCl (mw ad cI cL cZ m_w m_h m_c m_s m_le m_un m_he m_ro m_wi m_hi m_hr m_hp m_rn m_rw m_rh (m_im (3 * p1).toNatClampNeg) (m_im ((3 * p1) + 1).toNatClampNeg) (m_im ((3 * p1) + 2).toNatClampNeg) m_to m_hs m_ho m_tx m_ik m_wt m_ac m_ap m_pa m_im m_ri) H := hP
      refine lv_aload_n hx hb dX8_back_64 rfl (lv_at hl 0 rfl) ?_
      refine lv_iconst (v := 0) hx hb dX8_back_65 (by decide) ?_
      refine va_put (D := D) (ci := 8) (v := .int 0) (ty := .int) (C := RX8) (T := TX8) (N := 29) hx hb hts u_X8 tyX8 tyX8_ok nmX8 hown hk.1 hP (mw_D hAd) hS 0 rfl rfl 13 (by decide) (hts _ q4_25) (fun _ h9 => h9) rfl (tyX8_ok 13 (by decide)) rfl rfl (Nat.le_of_ble_eq_true rfl) dX8_back_66 (fun H locs hP _ hS => ?_)
      have hP : va_P D vwCl (mw ad cI cL cZ m_w m_h m_c m_s m_le 0 m_he m_ro m_wi m_hi m_hr m_hp m_rn m_rw m_rh (m_im (3 * p1).toNatClampNeg) (m_im ((3 * p1) + 1).toNatClampNeg) (m_im ((3 * p1) + 2).toNatClampNeg) m_to m_hs m_ho m_tx m_ik m_wt m_ac m_ap m_pa m_im m_ri) H := hP
      refine lv_aload_n hx hb dX8_back_69 rfl (lv_at hl 0 rfl) ?_
      refine go_l (ru_V (n := 0) ⟨hx, hb, hml, hown, hts⟩ hk hP (c_X8_open l D cI cL cZ ad m_w m_h m_c m_s m_le 0 m_he m_ro m_wi m_hi m_hr m_hp m_rn m_rw m_rh (m_im (3 * p1).toNatClampNeg) (m_im ((3 * p1) + 1).toNatClampNeg) (m_im ((3 * p1) + 2).toNatClampNeg) m_to m_hs m_ho m_tx m_ik m_wt m_ac m_ap m_pa m_im m_ri hAd _ rfl) (cwV 0 hts (gV q4_216 q4_218 qs4_4 q1_11 q4_219) rfl rfl rfl hd_X8_open ⟨Nat.le_of_ble_eq_true rfl, Nat.le_of_ble_eq_true rfl⟩) (va_recv hk.1 hP (ci := 8) (q0 := 0) rfl rfl) rfl hl.1 rfl (Nat.le_of_ble_eq_true rfl) dX8_back_70 ⟨Nat.zero_le _, Nat.zero_le _⟩) hS (fun _ h => h) (fun H locs hP hS => ?_)
      have hP : va_P D vwCl (mw ad cI cL cZ m_w m_h m_c m_s m_le 0 m_he m_ro m_wi m_hi m_hr m_hp m_rn m_rw m_rh (m_im (3 * p1).toNatClampNeg) (m_im ((3 * p1) + 1).toNatClampNeg) (m_im ((3 * p1) + 2).toNatClampNeg) m_to m_hs m_ho m_tx m_ik m_wt m_ac m_ap m_pa m_im m_ri) H := hP
      refine go_i (ru_S (n := 1) ⟨hx, hb, hml, hown, hts⟩ hk hP (c_X8_ones l D cI cL cZ (mAd ad) (mw ad cI cL cZ m_w m_h m_c m_s m_le 0 m_he m_ro m_wi m_hi m_hr m_hp m_rn m_rw m_rh (m_im (3 * p1).toNatClampNeg) (m_im ((3 * p1) + 1).toNatClampNeg) (m_im ((3 * p1) + 2).toNatClampNeg) m_to m_hs m_ho m_tx m_ik m_wt m_ac m_ap m_pa m_im m_ri) (f_X8_open m_s (m_im ((3 * p1) + 1).toNatClampNeg) (m_im ((3 * p1) + 2).toNatClampNeg)) _ rfl) (va_cwS 1 hts (gS q4_213 q4_214 q1_11 q4_215) rfl rfl rfl hd_X8_ones ⟨Nat.le_of_ble_eq_true rfl, Nat.le_of_ble_eq_true rfl⟩) rfl hl.1 rfl (Nat.le_of_ble_eq_true rfl) dX8_back_73 ⟨Nat.zero_le _, Nat.zero_le _⟩) hS (fun _ h => h) (fun H locs hP hS => ?_)
      have hP : va_P D vwCl (mw ad cI cL cZ m_w m_h m_c m_s m_le 0 m_he m_ro m_wi m_hi m_hr m_hp m_rn m_rw m_rh (m_im (3 * p1).toNatClampNeg) (m_im ((3 * p1) + 1).toNatClampNeg) (m_im ((3 * p1) + 2).toNatClampNeg) m_to m_hs m_ho m_tx m_ik m_wt m_ac m_ap m_pa m_im m_ri) H := hP
      subst hr
      exact ret_i hx hb hrt hlocks hP hS dX8_back_76
    · have hr := (if_pos c18).symm.trans hr
      refine lv_bipush (v := (-2)) hx hb dX8_back_21 (by decide) ?_
      subst hr
      exact ret_i hx hb hrt hlocks hP hS dX8_back_23
  · have hr := (if_pos c7).symm.trans hr
    refine lv_iconst (v := (-1)) hx hb dX8_back_10 (by decide) ?_
    subst hr
    exact ret_i hx hb hrt hlocks hP hS dX8_back_11
theorem hd_X8_numbered : yX8_numbered.cls = RX8 ∧ yX8_numbered.cls ≠ "java/lang/invoke/MethodHandle" ∧ yX8_numbered.cls ≠ "java/lang/invoke/VarHandle" ∧ (parseMethodDescriptor yX8_numbered.desc).map (fun d => d.parameters.length) = some 0 := by decide +kernel
def F_X8_numbered_4 (m_c : Int32) (m_n : Int64) {β : Type} (k0 : Int32 → β) : Nat → Int32 → Int32 → β
  | 0, x1, x2 => k0 x1
  | n + 1, x1, x2 => (if m_c ≤ x2 then k0 x1 else (if 5 ≤ (f_X8_numberAt x2 m_n) then F_X8_numbered_4 m_c m_n k0 n (x1 + 0) (x2 + 1) else F_X8_numbered_4 m_c m_n k0 n (x1 + 1) (x2 + 1)))
def f_X8_numbered (m_c : Int32) (m_n : Int64) : Int32 := F_X8_numbered_4 m_c m_n (fun z1 => z1) (fu m_c (0 : Int32)) 0 0
set_option maxHeartbeats 4000000 in
set_option maxRecDepth 100000 in
theorem lp_X8_numbered_4 (l : Launch) (D : va_G) (cI cL cZ : ClassId) (ad : Nat → Nat) (m_w m_h m_c m_s m_le m_un m_he m_ro m_wi m_hi m_hr m_hp m_rn m_rw m_rh : Int32) (m_n m_l m_b m_to m_hs : Int64) (m_ho m_tx m_ik m_wt : Nat → Int32) (m_ac m_ap m_pa m_im m_ri : Nat → Int64) {p : Program} {e : Env} {s : State} {m : MethodId} {args : Array Value} {below : List Frame} {meth : Method} {c : Code} {Q : State → Prop} (C : Cx p s m args meth c cX8_numbered 3 (some .int) W0 RX8 D cI cL cZ) (hAd : mInj ad) {β : Type} (k0 : Int32 → β) (r : β)
    (h0 : ∀ (e1 : Int32) (H : Heap) (locs : List Loc) (ls : Array Slot), k0 e1 = r → va_P D vwCl (mw ad cI cL cZ m_w m_h m_c m_s m_le m_un m_he m_ro m_wi m_hi m_hr m_hp m_rn m_rw m_rh m_n m_l m_b m_to m_hs m_ho m_tx m_ik m_wt m_ac m_ap m_pa m_im m_ri) H → va_S (mAd ad) s.heap H locs → lv_has ls 3 [(1, .int e1)] → W p l e (rmS 1 21) s m args below meth c H locs 0 0 Q (F0 m 35 ls [])) :
    ∀ (n : Nat) (x1 x2 : Int32) (H : Heap) (locs : List Loc) (ls : Array Slot), fuU n m_c x2 → F_X8_numbered_4 m_c m_n k0 n x1 x2 = r → va_P D vwCl (mw ad cI cL cZ m_w m_h m_c m_s m_le m_un m_he m_ro m_wi m_hi m_hr m_hp m_rn m_rw m_rh m_n m_l m_b m_to m_hs m_ho m_tx m_ik m_wt m_ac m_ap m_pa m_im m_ri) H → va_S (mAd ad) s.heap H locs → lv_has ls 3 [(0, .ref (ad 0)), (1, .int x1), (2, .int x2)] → W p l e (rmS 1 21) s m args below meth c H locs 0 0 Q (F0 m 4 ls []) := by
  obtain ⟨hx, hb, hml, hrt, hlocks, hown, hts, hk⟩ := C
  intro n
  induction n with
  | zero =>
    intro x1 x2 H locs ls hf
    exact absurd hf.1 (Nat.lt_irrefl 0)
  | succ n ih =>
    intro x1 x2 H locs ls hf hr hP hS hl
    rw [F_X8_numbered_4] at hr
    refine lv_iload_n hx hb dX8_numbered_4 rfl (lv_at hl 2 rfl) ?_
    refine lv_aload_n hx hb dX8_numbered_5 rfl (lv_at hl 0 rfl) ?_
    refine va_get (D := D) (ci := 8) (v := .int m_c) (C := RX8) (T := TX8) (N := 29) hx hb hts u_X8 hown hk.1 hP 0 rfl rfl 5 (by decide) (hts _ q4_17) (fun _ h9 => h9) rfl dX8_numbered_6 ?_
    refine lv_icmp_ge (tgt := 35) hx hb dX8_numbered_9 (by decide) (fun c9 => ?_) (fun c9 => ?_)
    · have hr := (if_pos c9).symm.trans hr
      exact h0 x1 _ _ _ hr hP hS (lv_sub hl [1] rfl)
    · have hr := (if_neg c9).symm.trans hr
      refine lv_iload_n hx hb dX8_numbered_12 rfl (lv_at hl 1 rfl) ?_
      refine lv_aload_n hx hb dX8_numbered_13 rfl (lv_at hl 0 rfl) ?_
      refine lv_iload_n hx hb dX8_numbered_14 rfl (lv_at hl 2 rfl) ?_
      refine go_i (ru_V (n := 1) ⟨hx, hb, hml, hown, hts⟩ hk hP (c_X8_numberAt l D cI cL cZ ad m_w m_h m_c m_s m_le m_un m_he m_ro m_wi m_hi m_hr m_hp m_rn m_rw m_rh m_n m_l m_b m_to m_hs m_ho m_tx m_ik m_wt m_ac m_ap m_pa m_im m_ri hAd x2 _ rfl) (cwV 1 hts (gV q4_140 q4_142 qs3_9 q1_11 q4_143) rfl rfl rfl hd_X8_numberAt ⟨Nat.le_of_ble_eq_true rfl, Nat.le_of_ble_eq_true rfl⟩) (va_recv hk.1 hP (ci := 8) (q0 := 0) rfl rfl) rfl hl.1 rfl (Nat.le_of_ble_eq_true rfl) dX8_numbered_15 ⟨Nat.zero_le _, Nat.zero_le _⟩) hS (fun _ h => h) (fun H locs hP hS => ?_)
      have hP : va_P D vwCl (mw ad cI cL cZ m_w m_h m_c m_s m_le m_un m_he m_ro m_wi m_hi m_hr m_hp m_rn m_rw m_rh m_n m_l m_b m_to m_hs m_ho m_tx m_ik m_wt m_ac m_ap m_pa m_im m_ri) H := hP
      refine lv_iconst (v := 5) hx hb dX8_numbered_18 (by decide) ?_
      refine lv_icmp_ge (tgt := 26) hx hb dX8_numbered_19 (by decide) (fun c19 => ?_) (fun c19 => ?_)
      · have hr := (if_pos c19).symm.trans hr
        refine lv_iconst (v := 0) hx hb dX8_numbered_26 (by decide) ?_
        refine lv_iadd hx hb dX8_numbered_27 ?_
        refine lv_istore_n (lv' := [(1, .int (x1 + 0)), (0, .ref (ad 0)), (2, .int x2)]) hx hb dX8_numbered_28 rfl hl (by decide) rfl (fun ls hl => ?_)
        refine lv_iinc (v := x2 + 1) (lv' := [(2, .int (x2 + 1)), (1, .int (x1 + 0)), (0, .ref (ad 0))]) hx hb dX8_numbered_29 hl (k := 2) rfl rfl (by decide) rfl (fun ls hl => ?_)
        refine lv_goto (tgt := 4) hx hb dX8_numbered_32 (by decide) ?_
        exact ih (x1 + 0) (x2 + 1) _ _ _ (fuU_s hf c9) hr hP hS (lv_sub hl [2, 1, 0] rfl)
      · have hr := (if_neg c19).symm.trans hr
        refine lv_iconst (v := 1) hx hb dX8_numbered_22 (by decide) ?_
        refine lv_goto (tgt := 27) hx hb dX8_numbered_23 (by decide) ?_
        refine lv_iadd hx hb dX8_numbered_27 ?_
        refine lv_istore_n (lv' := [(1, .int (x1 + 1)), (0, .ref (ad 0)), (2, .int x2)]) hx hb dX8_numbered_28 rfl hl (by decide) rfl (fun ls hl => ?_)
        refine lv_iinc (v := x2 + 1) (lv' := [(2, .int (x2 + 1)), (1, .int (x1 + 1)), (0, .ref (ad 0))]) hx hb dX8_numbered_29 hl (k := 2) rfl rfl (by decide) rfl (fun ls hl => ?_)
        refine lv_goto (tgt := 4) hx hb dX8_numbered_32 (by decide) ?_
        exact ih (x1 + 1) (x2 + 1) _ _ _ (fuU_s hf c9) hr hP hS (lv_sub hl [2, 1, 0] rfl)
set_option maxHeartbeats 4000000 in
set_option maxRecDepth 100000 in
theorem c_X8_numbered (l : Launch) (D : va_G) (cI cL cZ : ClassId) (ad : Nat → Nat) (m_w m_h m_c m_s m_le m_un m_he m_ro m_wi m_hi m_hr m_hp m_rn m_rw m_rh : Int32) (m_n m_l m_b m_to m_hs : Int64) (m_ho m_tx m_ik m_wt : Nat → Int32) (m_ac m_ap m_pa m_im m_ri : Nat → Int64) (hAd : mInj ad) (r : Int32) (hr : f_X8_numbered m_c m_n = r) : MI l yX8_numbered (Cond.code yX8_numbered cX8_numbered 3 (some .int) :: W0) 1 21 D cI cL cZ (mAd ad) [.ref (ad 0)] (mw ad cI cL cZ m_w m_h m_c m_s m_le m_un m_he m_ro m_wi m_hi m_hr m_hp m_rn m_rw m_rh m_n m_l m_b m_to m_hs m_ho m_tx m_ik m_wt m_ac m_ap m_pa m_im m_ri) r (mw ad cI cL cZ m_w m_h m_c m_s m_le m_un m_he m_ro m_wi m_hi m_hr m_hp m_rn m_rw m_rh m_n m_l m_b m_to m_hs m_ho m_tx m_ik m_wt m_ac m_ap m_pa m_im m_ri) := by
  refine mk_start (cc := cX8_numbered) (maxL := 3) (ret := (some .int)) (by decide) rfl (Nat.le_of_ble_eq_true rfl) ?_
  intro p e s m below meth c ls C hP hS hl
  obtain ⟨hx, hb, hml, hrt, hlocks, hown, hts, hk⟩ := C
  have hown : s.vm.findClass RX8 = some m.cls := hown
  have hl : lv_has ls 3 [(0, .ref (ad 0))] := hl
  rw [f_X8_numbered] at hr
  refine lv_iconst (v := 0) hx hb dX8_numbered_0 (by decide) ?_
  refine lv_istore_n (lv' := [(1, .int 0), (0, .ref (ad 0))]) hx hb dX8_numbered_1 rfl hl (by decide) rfl (fun ls hl => ?_)
  refine lv_iconst (v := 0) hx hb dX8_numbered_2 (by decide) ?_
  refine lv_istore_n (lv' := [(2, .int 0), (1, .int 0), (0, .ref (ad 0))]) hx hb dX8_numbered_3 rfl hl (by decide) rfl (fun ls hl => ?_)
  refine lp_X8_numbered_4 l D cI cL cZ ad m_w m_h m_c m_s m_le m_un m_he m_ro m_wi m_hi m_hr m_hp m_rn m_rw m_rh m_n m_l m_b m_to m_hs m_ho m_tx m_ik m_wt m_ac m_ap m_pa m_im m_ri ⟨hx, hb, hml, hrt, hlocks, hown, hts, hk⟩ hAd _ _ (fun z1 H locs ls hr hP hS hl => ?_) (fu m_c (0 : Int32)) 0 0 _ _ _ (fuU_0 (by decide)) hr hP hS (lv_sub hl [2, 1, 0] rfl)
  refine lv_iload_n hx hb dX8_numbered_35 rfl (lv_at hl 0 rfl) ?_
  subst hr
  exact ret_i hx hb hrt hlocks hP hS dX8_numbered_36
theorem hd_X8_count : yX8_count.cls = RX8 ∧ yX8_count.cls ≠ "java/lang/invoke/MethodHandle" ∧ yX8_count.cls ≠ "java/lang/invoke/VarHandle" ∧ (parseMethodDescriptor yX8_count.desc).map (fun d => d.parameters.length) = some 1 := by decide +kernel
def f_X8_count (p1 : Int32) (m_w : Int32) (m_h : Int32) (m_c : Int32) (m_s : Int32) (m_le : Int32) (m_un : Int32) (m_n : Int64) (m_l : Int64) (m_b : Int64) : Int32 := (if p1 = 0 then m_w else (if p1 = 1 then m_h else (if p1 = 2 then m_s else (if p1 = 3 then f_X8_ones m_l else (if p1 = 4 then f_X8_ones m_b else (if p1 = 5 then f_X8_numbered m_c m_n else (if p1 = 6 then m_le else (if p1 = 7 then m_un else (-1)))))))))
set_option maxHeartbeats 4000000 in
set_option maxRecDepth 100000 in
theorem c_X8_count (l : Launch) (D : va_G) (cI cL cZ : ClassId) (ad : Nat → Nat) (m_w m_h m_c m_s m_le m_un m_he m_ro m_wi m_hi m_hr m_hp m_rn m_rw m_rh : Int32) (m_n m_l m_b m_to m_hs : Int64) (m_ho m_tx m_ik m_wt : Nat → Int32) (m_ac m_ap m_pa m_im m_ri : Nat → Int64) (hAd : mInj ad) (p1 : Int32) (r : Int32) (hr : f_X8_count p1 m_w m_h m_c m_s m_le m_un m_n m_l m_b = r) : MI l yX8_count (Cond.code yX8_count cX8_count 2 (some .int) :: W0) 2 43 D cI cL cZ (mAd ad) [.ref (ad 0), .int p1] (mw ad cI cL cZ m_w m_h m_c m_s m_le m_un m_he m_ro m_wi m_hi m_hr m_hp m_rn m_rw m_rh m_n m_l m_b m_to m_hs m_ho m_tx m_ik m_wt m_ac m_ap m_pa m_im m_ri) r (mw ad cI cL cZ m_w m_h m_c m_s m_le m_un m_he m_ro m_wi m_hi m_hr m_hp m_rn m_rw m_rh m_n m_l m_b m_to m_hs m_ho m_tx m_ik m_wt m_ac m_ap m_pa m_im m_ri) := by
  refine mk_start (cc := cX8_count) (maxL := 2) (ret := (some .int)) (by decide) rfl (Nat.le_of_ble_eq_true rfl) ?_
  intro p e s m below meth c ls C hP hS hl
  obtain ⟨hx, hb, hml, hrt, hlocks, hown, hts, hk⟩ := C
  have hown : s.vm.findClass RX8 = some m.cls := hown
  have hl : lv_has ls 2 [(0, .ref (ad 0)), (1, .int p1)] := hl
  rw [f_X8_count] at hr
  refine lv_iload_n hx hb dX8_count_0 rfl (lv_at hl 1 rfl) ?_
  by_cases c1_0 : p1 = 0
  · have hr := (if_pos c1_0).symm.trans hr
    refine lv_tableIn (tgt := 48) (off := 47) hx hb dX8_count_1 (by rw [c1_0]; decide) (by rw [c1_0]; decide) (by rw [c1_0]; rfl) (by decide) ?_
    refine lv_aload_n hx hb dX8_count_48 rfl (lv_at hl 0 rfl) ?_
    refine va_get (D := D) (ci := 8) (v := .int m_w) (C := RX8) (T := TX8) (N := 29) hx hb hts u_X8 hown hk.1 hP 0 rfl rfl 3 (by decide) (hts _ q4_15) (fun _ h9 => h9) rfl dX8_count_49 ?_
    subst hr
    exact ret_i hx hb hrt hlocks hP hS dX8_count_52
  · have hr := (if_neg c1_0).symm.trans hr
    by_cases c1_1 : p1 = 1
    · have hr := (if_pos c1_1).symm.trans hr
      refine lv_tableIn (tgt := 53) (off := 52) hx hb dX8_count_1 (by rw [c1_1]; decide) (by rw [c1_1]; decide) (by rw [c1_1]; rfl) (by decide) ?_
      refine lv_aload_n hx hb dX8_count_53 rfl (lv_at hl 0 rfl) ?_
      refine va_get (D := D) (ci := 8) (v := .int m_h) (C := RX8) (T := TX8) (N := 29) hx hb hts u_X8 hown hk.1 hP 0 rfl rfl 4 (by decide) (hts _ q4_16) (fun _ h9 => h9) rfl dX8_count_54 ?_
      subst hr
      exact ret_i hx hb hrt hlocks hP hS dX8_count_57
    · have hr := (if_neg c1_1).symm.trans hr
      by_cases c1_2 : p1 = 2
      · have hr := (if_pos c1_2).symm.trans hr
        refine lv_tableIn (tgt := 58) (off := 57) hx hb dX8_count_1 (by rw [c1_2]; decide) (by rw [c1_2]; decide) (by rw [c1_2]; rfl) (by decide) ?_
        refine lv_aload_n hx hb dX8_count_58 rfl (lv_at hl 0 rfl) ?_
        refine va_get (D := D) (ci := 8) (v := .int m_s) (C := RX8) (T := TX8) (N := 29) hx hb hts u_X8 hown hk.1 hP 0 rfl rfl 6 (by decide) (hts _ q4_18) (fun _ h9 => h9) rfl dX8_count_59 ?_
        subst hr
        exact ret_i hx hb hrt hlocks hP hS dX8_count_62
      · have hr := (if_neg c1_2).symm.trans hr
        by_cases c1_3 : p1 = 3
        · have hr := (if_pos c1_3).symm.trans hr
          refine lv_tableIn (tgt := 63) (off := 62) hx hb dX8_count_1 (by rw [c1_3]; decide) (by rw [c1_3]; decide) (by rw [c1_3]; rfl) (by decide) ?_
          refine lv_aload_n hx hb dX8_count_63 rfl (lv_at hl 0 rfl) ?_
          refine va_get (D := D) (ci := 8) (v := .long m_l) (C := RX8) (T := TX8) (N := 29) hx hb hts u_X8 hown hk.1 hP 0 rfl rfl 1 (by decide) (hts _ q4_13) (fun _ h9 => h9) rfl dX8_count_64 ?_
          refine go_i (ru_S (n := 1) ⟨hx, hb, hml, hown, hts⟩ hk hP (c_X8_ones l D cI cL cZ (mAd ad) (mw ad cI cL cZ m_w m_h m_c m_s m_le m_un m_he m_ro m_wi m_hi m_hr m_hp m_rn m_rw m_rh m_n m_l m_b m_to m_hs m_ho m_tx m_ik m_wt m_ac m_ap m_pa m_im m_ri) m_l _ rfl) (va_cwS 1 hts (gS q4_213 q4_214 q1_11 q4_215) rfl rfl rfl hd_X8_ones ⟨Nat.le_of_ble_eq_true rfl, Nat.le_of_ble_eq_true rfl⟩) rfl hl.1 rfl (Nat.le_of_ble_eq_true rfl) dX8_count_67 ⟨Nat.zero_le _, Nat.zero_le _⟩) hS (fun _ h => h) (fun H locs hP hS => ?_)
          have hP : va_P D vwCl (mw ad cI cL cZ m_w m_h m_c m_s m_le m_un m_he m_ro m_wi m_hi m_hr m_hp m_rn m_rw m_rh m_n m_l m_b m_to m_hs m_ho m_tx m_ik m_wt m_ac m_ap m_pa m_im m_ri) H := hP
          subst hr
          exact ret_i hx hb hrt hlocks hP hS dX8_count_70
        · have hr := (if_neg c1_3).symm.trans hr
          by_cases c1_4 : p1 = 4
          · have hr := (if_pos c1_4).symm.trans hr
            refine lv_tableIn (tgt := 71) (off := 70) hx hb dX8_count_1 (by rw [c1_4]; decide) (by rw [c1_4]; decide) (by rw [c1_4]; rfl) (by decide) ?_
            refine lv_aload_n hx hb dX8_count_71 rfl (lv_at hl 0 rfl) ?_
            refine va_get (D := D) (ci := 8) (v := .long m_b) (C := RX8) (T := TX8) (N := 29) hx hb hts u_X8 hown hk.1 hP 0 rfl rfl 2 (by decide) (hts _ q4_14) (fun _ h9 => h9) rfl dX8_count_72 ?_
            refine go_i (ru_S (n := 1) ⟨hx, hb, hml, hown, hts⟩ hk hP (c_X8_ones l D cI cL cZ (mAd ad) (mw ad cI cL cZ m_w m_h m_c m_s m_le m_un m_he m_ro m_wi m_hi m_hr m_hp m_rn m_rw m_rh m_n m_l m_b m_to m_hs m_ho m_tx m_ik m_wt m_ac m_ap m_pa m_im m_ri) m_b _ rfl) (va_cwS 1 hts (gS q4_213 q4_214 q1_11 q4_215) rfl rfl rfl hd_X8_ones ⟨Nat.le_of_ble_eq_true rfl, Nat.le_of_ble_eq_true rfl⟩) rfl hl.1 rfl (Nat.le_of_ble_eq_true rfl) dX8_count_75 ⟨Nat.zero_le _, Nat.zero_le _⟩) hS (fun _ h => h) (fun H locs hP hS => ?_)
            have hP : va_P D vwCl (mw ad cI cL cZ m_w m_h m_c m_s m_le m_un m_he m_ro m_wi m_hi m_hr m_hp m_rn m_rw m_rh m_n m_l m_b m_to m_hs m_ho m_tx m_ik m_wt m_ac m_ap m_pa m_im m_ri) H := hP
            subst hr
            exact ret_i hx hb hrt hlocks hP hS dX8_count_78
          · have hr := (if_neg c1_4).symm.trans hr
            by_cases c1_5 : p1 = 5
            · have hr := (if_pos c1_5).symm.trans hr
              refine lv_tableIn (tgt := 79) (off := 78) hx hb dX8_count_1 (by rw [c1_5]; decide) (by rw [c1_5]; decide) (by rw [c1_5]; rfl) (by decide) ?_
              refine lv_aload_n hx hb dX8_count_79 rfl (lv_at hl 0 rfl) ?_
              refine go_i (ru_V (n := 0) ⟨hx, hb, hml, hown, hts⟩ hk hP (c_X8_numbered l D cI cL cZ ad m_w m_h m_c m_s m_le m_un m_he m_ro m_wi m_hi m_hr m_hp m_rn m_rw m_rh m_n m_l m_b m_to m_hs m_ho m_tx m_ik m_wt m_ac m_ap m_pa m_im m_ri hAd _ rfl) (cwV 0 hts (gV q5_98 q5_100 qs5_4 q1_11 q5_101) rfl rfl rfl hd_X8_numbered ⟨Nat.le_of_ble_eq_true rfl, Nat.le_of_ble_eq_true rfl⟩) (va_recv hk.1 hP (ci := 8) (q0 := 0) rfl rfl) rfl hl.1 rfl (Nat.le_of_ble_eq_true rfl) dX8_count_80 ⟨Nat.zero_le _, Nat.zero_le _⟩) hS (fun _ h => h) (fun H locs hP hS => ?_)
              have hP : va_P D vwCl (mw ad cI cL cZ m_w m_h m_c m_s m_le m_un m_he m_ro m_wi m_hi m_hr m_hp m_rn m_rw m_rh m_n m_l m_b m_to m_hs m_ho m_tx m_ik m_wt m_ac m_ap m_pa m_im m_ri) H := hP
              subst hr
              exact ret_i hx hb hrt hlocks hP hS dX8_count_83
            · have hr := (if_neg c1_5).symm.trans hr
              by_cases c1_6 : p1 = 6
              · have hr := (if_pos c1_6).symm.trans hr
                refine lv_tableIn (tgt := 84) (off := 83) hx hb dX8_count_1 (by rw [c1_6]; decide) (by rw [c1_6]; decide) (by rw [c1_6]; rfl) (by decide) ?_
                refine lv_aload_n hx hb dX8_count_84 rfl (lv_at hl 0 rfl) ?_
                refine va_get (D := D) (ci := 8) (v := .int m_le) (C := RX8) (T := TX8) (N := 29) hx hb hts u_X8 hown hk.1 hP 0 rfl rfl 11 (by decide) (hts _ q4_23) (fun _ h9 => h9) rfl dX8_count_85 ?_
                subst hr
                exact ret_i hx hb hrt hlocks hP hS dX8_count_88
              · have hr := (if_neg c1_6).symm.trans hr
                by_cases c1_7 : p1 = 7
                · have hr := (if_pos c1_7).symm.trans hr
                  refine lv_tableIn (tgt := 89) (off := 88) hx hb dX8_count_1 (by rw [c1_7]; decide) (by rw [c1_7]; decide) (by rw [c1_7]; rfl) (by decide) ?_
                  refine lv_aload_n hx hb dX8_count_89 rfl (lv_at hl 0 rfl) ?_
                  refine va_get (D := D) (ci := 8) (v := .int m_un) (C := RX8) (T := TX8) (N := 29) hx hb hts u_X8 hown hk.1 hP 0 rfl rfl 13 (by decide) (hts _ q4_25) (fun _ h9 => h9) rfl dX8_count_90 ?_
                  subst hr
                  exact ret_i hx hb hrt hlocks hP hS dX8_count_93
                · have hr := (if_neg c1_7).symm.trans hr
                  refine lv_tableOut (tgt := 94) hx hb dX8_count_1 (sw_out8 c1_0 c1_1 c1_2 c1_3 c1_4 c1_5 c1_6 c1_7) (by decide) ?_
                  refine lv_iconst (v := (-1)) hx hb dX8_count_94 (by decide) ?_
                  subst hr
                  exact ret_i hx hb hrt hlocks hP hS dX8_count_95
