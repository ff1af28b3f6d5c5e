theorem F_isMore_ex (m_le : Int32) (m_tx : Nat → Int32) {β : Type} (k : Int32 → β) : ∀ (n : Nat) (he : Int32), ∃ z : Int32, (0 ≤ he.toInt → 0 ≤ z.toInt) ∧ F_X8_isMore_0 m_le m_tx k n he = k z := by
  intro n
  induction n with
  | zero => intro he; exact ⟨he, id, rfl⟩
  | succ n ih =>
    intro he
    rw [F_X8_isMore_0]
    split
    · exact ⟨he, id, rfl⟩
    · rename_i h1
      split
      · obtain ⟨z, hz, e⟩ := ih (he + 1)
        exact ⟨z, fun h0 => hz (inc_nn h0 h1), e⟩
      · exact ⟨he, id, rfl⟩
theorem isMore_nn {m_le m_he : Int32} {m_tx : Nat → Int32} {u : Int32 × Int32} (h : f_X8_isMore m_le m_he m_tx = u) (h0 : 0 ≤ m_he.toInt) : 0 ≤ u.2.toInt := by
  obtain ⟨z, hz, e⟩ := F_isMore_ex m_le m_tx (fun z1 => (if m_le ≤ z1 then ((0 : Int32), z1) else (1, z1))) (fu m_le m_he) m_he
  rw [← h, f_X8_isMore, e]
  split <;> exact hz h0
theorem isMore_lt {m_le m_he : Int32} {m_tx : Nat → Int32} {u : Int32 × Int32} (h : f_X8_isMore m_le m_he m_tx = u) (hc : ¬ u.1 = 0) : ¬ m_le ≤ u.2 := by
  obtain ⟨z, hz, e⟩ := F_isMore_ex m_le m_tx (fun z1 => (if m_le ≤ z1 then ((0 : Int32), z1) else (1, z1))) (fu m_le m_he) m_he
  rw [← h, f_X8_isMore, e] at hc ⊢
  by_cases q : m_le ≤ z
  · rw [if_pos q] at hc; exact absurd rfl hc
  · rw [if_neg q]; exact q
theorem hd_X8_isSign : yX8_isSign.cls = RX8 ∧ yX8_isSign.cls ≠ "java/lang/invoke/MethodHandle" ∧ yX8_isSign.cls ≠ "java/lang/invoke/VarHandle" ∧ (parseMethodDescriptor yX8_isSign.desc).map (fun d => d.parameters.length) = some 0 := by decide +kernel
def f_X8_isSign (m_le : Int32) (m_he : Int32) (m_tx : Nat → Int32) : Int32 × Int32 := (bd (f_X8_isMore m_le m_he m_tx) (fun u1 => (if u1.1 = 0 then (0, u1.2) else (if (f_X8_in ((m_tx u1.2.toNatClampNeg).toInt64) 48 52) = 0 then (if (m_tx u1.2.toNatClampNeg) = 46 then (1, u1.2) else (0, u1.2)) else (1, u1.2)))))
set_option maxHeartbeats 4000000 in
set_option maxRecDepth 100000 in
theorem c_X8_isSign (l : Launch) (D : va_G) (cI cL cZ : ClassId) (ad : Nat → Nat) (m_w m_h m_c m_s m_le m_un m_he m_ro m_wi m_hi m_hr m_hp m_rn m_rw m_rh : Int32) (m_n m_l m_b m_to m_hs : Int64) (m_ho m_tx m_ik m_wt : Nat → Int32) (m_ac m_ap m_pa m_im m_ri : Nat → Int64) (hAd : mInj ad) (r : Int32 × Int32) (hr : f_X8_isSign m_le m_he m_tx = r) (hh : 0 ≤ m_he.toInt) (hlen : m_le.toInt ≤ 40) : MZ l yX8_isSign (Cond.code yX8_isSign cX8_isSign 1 (some .boolean) :: W0) 1 25 D cI cL cZ (mAd ad) [.ref (ad 0)] (mw ad cI cL cZ m_w m_h m_c m_s m_le m_un m_he m_ro m_wi m_hi m_hr m_hp m_rn m_rw m_rh m_n m_l m_b m_to m_hs m_ho m_tx m_ik m_wt m_ac m_ap m_pa m_im m_ri) r.1 (mw ad cI cL cZ m_w m_h m_c m_s m_le m_un r.2 m_ro m_wi m_hi m_hr m_hp m_rn m_rw m_rh m_n m_l m_b m_to m_hs m_ho m_tx m_ik m_wt m_ac m_ap m_pa m_im m_ri) := by
  refine mk_start (cc := cX8_isSign) (maxL := 1) (ret := (some .boolean)) (by decide) rfl (Nat.le_of_ble_eq_true rfl) ?_
  intro p e s m below meth c ls C hP hS hl
  obtain ⟨hx, hb, hml, hrt, hlocks, hown, hts, hk⟩ := C
  have hown : s.vm.findClass RX8 = some m.cls := hown
  have hl : lv_has ls 1 [(0, .ref (ad 0))] := hl
  rw [f_X8_isSign] at hr
  refine lv_aload_n hx hb dX8_isSign_0 rfl (lv_at hl 0 rfl) ?_
  obtain ⟨u1, hu1⟩ : ∃ z, f_X8_isMore m_le m_he m_tx = z := ⟨_, rfl⟩
  have hr := (bd_eq hu1).symm.trans hr
  refine go_z (ru_V (n := 0) ⟨hx, hb, hml, hown, hts⟩ hk hP (c_X8_isMore l D cI cL cZ ad m_w m_h m_c m_s m_le m_un m_he m_ro m_wi m_hi m_hr m_hp m_rn m_rw m_rh m_n m_l m_b m_to m_hs m_ho m_tx m_ik m_wt m_ac m_ap m_pa m_im m_ri hAd _ hu1 hh hlen) (cwV 0 hts (gV q4_118 q4_120 qs3_5 q1_11 q4_121) rfl rfl rfl hd_X8_isMore ⟨Nat.le_of_ble_eq_true rfl, Nat.le_of_ble_eq_true rfl⟩) (va_recv hk.1 hP (ci := 8) (q0 := 0) rfl rfl) rfl hl.1 rfl (Nat.le_of_ble_eq_true rfl) dX8_isSign_1 ⟨Nat.zero_le _, Nat.zero_le _⟩) hS (fun _ h => h) (fun H locs hz1 hP hS => ?_)
  have hP : va_P D vwCl (mw ad cI cL cZ m_w m_h m_c m_s m_le m_un u1.2 m_ro m_wi m_hi m_hr m_hp m_rn m_rw m_rh m_n m_l m_b m_to m_hs m_ho m_tx m_ik m_wt m_ac m_ap m_pa m_im m_ri) H := hP
  refine lv_if_eq (tgt := 47) hx hb dX8_isSign_4 (by decide) (fun c4 => ?_) (fun c4 => ?_)
  · have hr := (if_pos c4).symm.trans hr
    refine lv_iconst (v := 0) hx hb dX8_isSign_47 (by decide) ?_
    subst hr
    exact ret_z hx hb hrt hlocks bz_0 hP hS dX8_isSign_48
  · have hr := (if_neg c4).symm.trans hr
    refine lv_aload_n hx hb dX8_isSign_7 rfl (lv_at hl 0 rfl) ?_
    refine va_get (D := D) (ci := 8) (v := .ref (ad 4)) (C := RX8) (T := TX8) (N := 29) hx hb hts u_X8 hown hk.1 hP 0 rfl rfl 10 (by decide) (hts _ q4_22) (fun _ h9 => h9) rfl dX8_isSign_8 ?_
    refine lv_aload_n hx hb dX8_isSign_11 rfl (lv_at hl 0 rfl) ?_
    refine va_get (D := D) (ci := 8) (v := .int u1.2) (C := RX8) (T := TX8) (N := 29) hx hb hts u_X8 hown hk.1 hP 0 rfl rfl 16 (by decide) (hts _ q4_28) (fun _ h9 => h9) rfl dX8_isSign_12 ?_
    refine va_iald hx hb hk.1 hP 4 0 (rfl) rfl (vin_c (isMore_nn hu1 hh) (isMore_lt hu1 c4) hlen) dX8_isSign_15 ?_
    refine lv_i2l hx hb dX8_isSign_16 rfl ?_
    refine lv_ldc2 hx hb hown (hts _ q4_130) dX8_isSign_17 ?_
    refine lv_ldc2 hx hb hown (hts _ q4_131) dX8_isSign_20 ?_
    refine go_z (ru_S (n := 3) ⟨hx, hb, hml, hown, hts⟩ hk hP (c_X8_in l D cI cL cZ (mAd ad) (mw ad cI cL cZ m_w m_h m_c m_s m_le m_un u1.2 m_ro m_wi m_hi m_hr m_hp m_rn m_rw m_rh m_n m_l m_b m_to m_hs m_ho m_tx m_ik m_wt m_ac m_ap m_pa m_im m_ri) ((m_tx u1.2.toNatClampNeg).toInt64) 48 52 _ rfl) (va_cwS 3 hts (gS q4_1 q4_2 q1_11 q4_3) rfl rfl rfl hd_X8_in ⟨Nat.le_of_ble_eq_true rfl, Nat.le_of_ble_eq_true rfl⟩) rfl hl.1 rfl (Nat.le_of_ble_eq_true rfl) dX8_isSign_23 ⟨Nat.zero_le _, Nat.zero_le _⟩) hS (fun _ h => h) (fun H locs hz23 hP hS => ?_)
    have hP : va_P D vwCl (mw ad cI cL cZ m_w m_h m_c m_s m_le m_un u1.2 m_ro m_wi m_hi m_hr m_hp m_rn m_rw m_rh m_n m_l m_b m_to m_hs m_ho m_tx m_ik m_wt m_ac m_ap m_pa m_im m_ri) H := hP
    refine lv_if_ne (tgt := 43) hx hb dX8_isSign_26 (by decide) (fun c26 => ?_) (fun c26 => ?_)
    · have hr := (if_neg c26).symm.trans hr
      refine lv_iconst (v := 1) hx hb dX8_isSign_43 (by decide) ?_
      refine lv_goto (tgt := 48) hx hb dX8_isSign_44 (by decide) ?_
      subst hr
      exact ret_z hx hb hrt hlocks bz_1 hP hS dX8_isSign_48
    · have hr := (if_pos c26).symm.trans hr
      refine lv_aload_n hx hb dX8_isSign_29 rfl (lv_at hl 0 rfl) ?_
      refine va_get (D := D) (ci := 8) (v := .ref (ad 4)) (C := RX8) (T := TX8) (N := 29) hx hb hts u_X8 hown hk.1 hP 0 rfl rfl 10 (by decide) (hts _ q4_22) (fun _ h9 => h9) rfl dX8_isSign_30 ?_
      refine lv_aload_n hx hb dX8_isSign_33 rfl (lv_at hl 0 rfl) ?_
      refine va_get (D := D) (ci := 8) (v := .int u1.2) (C := RX8) (T := TX8) (N := 29) hx hb hts u_X8 hown hk.1 hP 0 rfl rfl 16 (by decide) (hts _ q4_28) (fun _ h9 => h9) rfl dX8_isSign_34 ?_
      refine va_iald hx hb hk.1 hP 4 0 (rfl) rfl (vin_c (isMore_nn hu1 hh) (isMore_lt hu1 c4) hlen) dX8_isSign_37 ?_
      refine lv_bipush (v := 46) hx hb dX8_isSign_38 (by decide) ?_
      refine lv_icmp_ne (tgt := 47) hx hb dX8_isSign_40 (by decide) (fun c40 => ?_) (fun c40 => ?_)
      · have hr := (if_neg c40).symm.trans hr
        refine lv_iconst (v := 0) hx hb dX8_isSign_47 (by decide) ?_
        subst hr
        exact ret_z hx hb hrt hlocks bz_0 hP hS dX8_isSign_48
      · have hr := (if_pos c40).symm.trans hr
        refine lv_iconst (v := 1) hx hb dX8_isSign_43 (by decide) ?_
        refine lv_goto (tgt := 48) hx hb dX8_isSign_44 (by decide) ?_
        subst hr
        exact ret_z hx hb hrt hlocks bz_1 hP hS dX8_isSign_48
