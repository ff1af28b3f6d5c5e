abbrev jP (side one other p q : Int32) : Prop := (0 ≤ side.toInt ∧ side.toInt < 40) ∧ 0 ≤ one.toInt ∧ 0 ≤ other.toInt ∧ (0 ≤ p.toInt ∧ p.toInt < 25) ∧ 0 ≤ q.toInt ∧ q.toInt < 25
theorem jl_all : ∀ a b x y : Fin 5, 1 ≤ a.val → 1 ≤ b.val → x.val < a.val → y.val ≤ b.val → jP (f_X8_lying (nI x.val) (nI y.val) (nI a.val)) (f_X8_cellAt (nI x.val) (nI y.val - 1) (nI a.val) (nI b.val)) (f_X8_cellAt (nI x.val) (nI y.val) (nI a.val) (nI b.val)) (nI y.val * (nI a.val + 1) + nI x.val) (nI y.val * (nI a.val + 1) + nI x.val + 1) := by decide +kernel
theorem js_all : ∀ a b x y : Fin 5, 1 ≤ a.val → 1 ≤ b.val → x.val ≤ a.val → y.val < b.val → jP (f_X8_standing (nI x.val) (nI y.val) (nI a.val) (nI b.val)) (f_X8_cellAt (nI x.val - 1) (nI y.val) (nI a.val) (nI b.val)) (f_X8_cellAt (nI x.val) (nI y.val) (nI a.val) (nI b.val)) (nI y.val * (nI a.val + 1) + nI x.val) ((nI y.val + 1) * (nI a.val + 1) + nI x.val) := by decide +kernel
theorem le_tt {x y : Int32} (h : ¬ y < x) : x.toInt ≤ y.toInt := by rw [Int32.lt_iff_toInt_lt] at h; omega
theorem lt_tt {x y : Int32} (h : ¬ y ≤ x) : x.toInt < y.toInt := by rw [Int32.le_iff_toInt_le] at h; omega
theorem jl {w h x y : Int32} (hg : wh w h) (hx0 : 0 ≤ x.toInt) (hx : ¬ w ≤ x) (hy0 : 0 ≤ y.toInt) (hy : ¬ h < y) : jP (f_X8_lying x y w) (f_X8_cellAt x (y - 1) w h) (f_X8_cellAt x y w h) (y * (w + 1) + x) (y * (w + 1) + x + 1) := by
  have g1 := lt_tt hx
  have g2 := le_tt hy
  obtain ⟨a, b, ha, hb, rfl, rfl⟩ := wh_of hg
  have la := a.isLt
  have lb := b.isLt
  rw [nI_toInt (by omega)] at g1 g2
  obtain ⟨i, hi, rfl⟩ := i32_of (x := x) (n := 4) hx0 (by omega) (by decide)
  obtain ⟨j, hj, rfl⟩ := i32_of (x := y) (n := 4) hy0 (by omega) (by decide)
  rw [nI_toInt (by omega)] at g1 g2
  exact jl_all a b ⟨i, by omega⟩ ⟨j, by omega⟩ ha hb (by simp only; omega) (by simp only; omega)
theorem js {w h x y : Int32} (hg : wh w h) (hx0 : 0 ≤ x.toInt) (hx : ¬ w < x) (hy0 : 0 ≤ y.toInt) (hy : ¬ h ≤ y) : jP (f_X8_standing x y w h) (f_X8_cellAt (x - 1) y w h) (f_X8_cellAt x y w h) (y * (w + 1) + x) ((y + 1) * (w + 1) + x) := by
  have g1 := le_tt hx
  have g2 := lt_tt hy
  obtain ⟨a, b, ha, hb, rfl, rfl⟩ := wh_of hg
  have la := a.isLt
  have lb := b.isLt
  rw [nI_toInt (by omega)] at g1 g2
  obtain ⟨i, hi, rfl⟩ := i32_of (x := x) (n := 4) hx0 (by omega) (by decide)
  obtain ⟨j, hj, rfl⟩ := i32_of (x := y) (n := 4) hy0 (by omega) (by decide)
  rw [nI_toInt (by omega)] at g1 g2
  exact js_all a b ⟨i, by omega⟩ ⟨j, by omega⟩ ha hb (by simp only; omega) (by simp only; omega)
theorem vin_2 {i : Int32} (h : 0 ≤ i.toInt ∧ i.toInt < 40) : vp_in (2 * i) 80 := by
  have e : ((2 : Int32) * i).toInt = 2 * i.toInt := by rw [mulT] <;> rw [show (2 : Int32).toInt = 2 from rfl] <;> omega
  exact vin (by omega) (by omega)
theorem vin_21 {i : Int32} (h : 0 ≤ i.toInt ∧ i.toInt < 40) : vp_in (2 * i + 1) 80 := by
  have e : ((2 : Int32) * i).toInt = 2 * i.toInt := by rw [mulT] <;> rw [show (2 : Int32).toInt = 2 from rfl] <;> omega
  have e2 : ((2 : Int32) * i + 1).toInt = 2 * i.toInt + 1 := by rw [addT] <;> rw [e, show (1 : Int32).toInt = 1 from rfl] <;> omega
  exact vin (by omega) (by omega)
theorem hd_X8_joins : yX8_joins.cls = RX8 ∧ yX8_joins.cls ≠ "java/lang/invoke/MethodHandle" ∧ yX8_joins.cls ≠ "java/lang/invoke/VarHandle" ∧ (parseMethodDescriptor yX8_joins.desc).map (fun d => d.parameters.length) = some 5 := by decide +kernel
def f_X8_joins (p1 : Int32) (p2 : Int32) (p3 : Int32) (p4 : Int32) (p5 : Int32) (m_ho : Nat → Int32) (m_ac : Nat → Int64) (m_ap : Nat → Int64) : (Nat → Int32) × (Nat → Int64) × (Nat → Int64) := (if 16 ≤ p2 then (if 16 ≤ p3 then (upd (upd m_ho (2 * p1).toNatClampNeg p2) ((2 * p1) + 1).toNatClampNeg p3, m_ac, vp_updL (vp_updL m_ap p4.toNatClampNeg ((m_ap p4.toNatClampNeg) ||| (shlL 1 p1))) p5.toNatClampNeg (((vp_updL m_ap p4.toNatClampNeg ((m_ap p4.toNatClampNeg) ||| (shlL 1 p1))) p5.toNatClampNeg) ||| (shlL 1 p1))) else (upd (upd m_ho (2 * p1).toNatClampNeg p2) ((2 * p1) + 1).toNatClampNeg p3, vp_updL m_ac p3.toNatClampNeg ((m_ac p3.toNatClampNeg) ||| (shlL 1 p1)), vp_updL (vp_updL m_ap p4.toNatClampNeg ((m_ap p4.toNatClampNeg) ||| (shlL 1 p1))) p5.toNatClampNeg (((vp_updL m_ap p4.toNatClampNeg ((m_ap p4.toNatClampNeg) ||| (shlL 1 p1))) p5.toNatClampNeg) ||| (shlL 1 p1)))) else (if 16 ≤ p3 then (upd (upd m_ho (2 * p1).toNatClampNeg p2) ((2 * p1) + 1).toNatClampNeg p3, vp_updL m_ac p2.toNatClampNeg ((m_ac p2.toNatClampNeg) ||| (shlL 1 p1)), vp_updL (vp_updL m_ap p4.toNatClampNeg ((m_ap p4.toNatClampNeg) ||| (shlL 1 p1))) p5.toNatClampNeg (((vp_updL m_ap p4.toNatClampNeg ((m_ap p4.toNatClampNeg) ||| (shlL 1 p1))) p5.toNatClampNeg) ||| (shlL 1 p1))) else (upd (upd m_ho (2 * p1).toNatClampNeg p2) ((2 * p1) + 1).toNatClampNeg p3, vp_updL (vp_updL m_ac p2.toNatClampNeg ((m_ac p2.toNatClampNeg) ||| (shlL 1 p1))) p3.toNatClampNeg (((vp_updL m_ac p2.toNatClampNeg ((m_ac p2.toNatClampNeg) ||| (shlL 1 p1))) p3.toNatClampNeg) ||| (shlL 1 p1)), vp_updL (vp_updL m_ap p4.toNatClampNeg ((m_ap p4.toNatClampNeg) ||| (shlL 1 p1))) p5.toNatClampNeg (((vp_updL m_ap p4.toNatClampNeg ((m_ap p4.toNatClampNeg) ||| (shlL 1 p1))) p5.toNatClampNeg) ||| (shlL 1 p1)))))
set_option maxHeartbeats 4000000 in
set_option maxRecDepth 100000 in
theorem c_X8_joins (l : Launch) (D : va_G) (cI cL cZ : ClassId) (ad : Nat → Nat) (m_w m_h m_c m_s m_le m_un m_he m_ro m_wi m_hi m_hr m_hp m_rn m_rw m_rh : Int32) (m_n m_l m_b m_to m_hs : Int64) (m_ho m_tx m_ik m_wt : Nat → Int32) (m_ac m_ap m_pa m_im m_ri : Nat → Int64) (hAd : mInj ad) (p1 p2 p3 p4 p5 : Int32) (r : (Nat → Int32) × (Nat → Int64) × (Nat → Int64)) (hr : f_X8_joins p1 p2 p3 p4 p5 m_ho m_ac m_ap = r) (hj : jP p1 p2 p3 p4 p5) : MV l yX8_joins (Cond.code yX8_joins cX8_joins 6 none :: W0) 0 0 D cI cL cZ (mAd ad) [.ref (ad 0), .int p1, .int p2, .int p3, .int p4, .int p5] (mw ad cI cL cZ m_w m_h m_c m_s m_le m_un m_he m_ro m_wi m_hi m_hr m_hp m_rn m_rw m_rh m_n m_l m_b m_to m_hs m_ho m_tx m_ik m_wt m_ac m_ap m_pa m_im m_ri) (mw ad cI cL cZ m_w m_h m_c m_s m_le m_un m_he m_ro m_wi m_hi m_hr m_hp m_rn m_rw m_rh m_n m_l m_b m_to m_hs r.1 m_tx m_ik m_wt r.2.1 r.2.2 m_pa m_im m_ri) := by
  refine mk_start (cc := cX8_joins) (maxL := 6) (ret := none) (by decide) rfl (Nat.le_of_ble_eq_true rfl) ?_
  intro p e s m below meth c ls C hP hS hl
  obtain ⟨hx, hb, hml, hrt, hlocks, hown, hts, hk⟩ := C
  have hown : s.vm.findClass RX8 = some m.cls := hown
  have hl : lv_has ls 6 [(0, .ref (ad 0)), (1, .int p1), (2, .int p2), (3, .int p3), (4, .int p4), (5, .int p5)] := hl
  rw [f_X8_joins] at hr
  refine lv_aload_n hx hb dX8_joins_0 rfl (lv_at hl 0 rfl) ?_
  refine va_get (D := D) (ci := 8) (v := .ref (ad 3)) (C := RX8) (T := TX8) (N := 29) hx hb hts u_X8 hown hk.1 hP 0 rfl rfl 9 (by decide) (hts _ q4_21) (fun _ h9 => h9) rfl dX8_joins_1 ?_
  refine lv_iconst (v := 2) hx hb dX8_joins_4 (by decide) ?_
  refine lv_iload_n hx hb dX8_joins_5 rfl (lv_at hl 1 rfl) ?_
  refine lv_imul hx hb dX8_joins_6 ?_
  refine lv_iload_n hx hb dX8_joins_7 rfl (lv_at hl 2 rfl) ?_
  refine va_iast hx hb hk.1 hP (mw_D hAd) hS 3 0 (rfl) rfl (vin_2 hj.1) dX8_joins_8 (fun H locs hP _ hS => ?_)
  have hP : va_P D vwCl (mw ad cI cL cZ m_w m_h m_c m_s m_le m_un m_he m_ro m_wi m_hi m_hr m_hp m_rn m_rw m_rh m_n m_l m_b m_to m_hs (upd m_ho (2 * p1).toNatClampNeg p2) m_tx m_ik m_wt m_ac m_ap m_pa m_im m_ri) H := hP
  refine lv_aload_n hx hb dX8_joins_9 rfl (lv_at hl 0 rfl) ?_
  refine va_get (D := D) (ci := 8) (v := .ref (ad 3)) (C := RX8) (T := TX8) (N := 29) hx hb hts u_X8 hown hk.1 hP 0 rfl rfl 9 (by decide) (hts _ q4_21) (fun _ h9 => h9) rfl dX8_joins_10 ?_
  refine lv_iconst (v := 2) hx hb dX8_joins_13 (by decide) ?_
  refine lv_iload_n hx hb dX8_joins_14 rfl (lv_at hl 1 rfl) ?_
  refine lv_imul hx hb dX8_joins_15 ?_
  refine lv_iconst (v := 1) hx hb dX8_joins_16 (by decide) ?_
  refine lv_iadd hx hb dX8_joins_17 ?_
  refine lv_iload_n hx hb dX8_joins_18 rfl (lv_at hl 3 rfl) ?_
  refine va_iast hx hb hk.1 hP (mw_D hAd) hS 3 0 (rfl) rfl (vin_21 hj.1) dX8_joins_19 (fun H locs hP _ hS => ?_)
  have hP : va_P D vwCl (mw ad cI cL cZ m_w m_h m_c m_s m_le m_un m_he m_ro m_wi m_hi m_hr m_hp m_rn m_rw m_rh m_n m_l m_b m_to m_hs (upd (upd m_ho (2 * p1).toNatClampNeg p2) ((2 * p1) + 1).toNatClampNeg p3) m_tx m_ik m_wt m_ac m_ap m_pa m_im m_ri) H := hP
  refine lv_aload_n hx hb dX8_joins_20 rfl (lv_at hl 0 rfl) ?_
  refine va_get (D := D) (ci := 8) (v := .ref (ad 2)) (C := RX8) (T := TX8) (N := 29) hx hb hts u_X8 hown hk.1 hP 0 rfl rfl 8 (by decide) (hts _ q4_20) (fun _ h9 => h9) rfl dX8_joins_21 ?_
  refine lv_iload hx hb dX8_joins_24 (lv_at hl 4 rfl) ?_
  refine lv_dup2_11 hx hb dX8_joins_26 rfl rfl ?_
  refine va_lald hx hb hk.1 hP 2 1 (rfl) rfl (vin hj.2.2.2.1.1 hj.2.2.2.1.2) dX8_joins_27 ?_
  refine lv_lconst (v := 1) hx hb dX8_joins_28 (by decide) ?_
  refine lv_iload_n hx hb dX8_joins_29 rfl (lv_at hl 1 rfl) ?_
  refine lv_lshl (v := shlL 1 p1) hx hb dX8_joins_30 rfl ?_
  refine lv_lor hx hb dX8_joins_31 ?_
  refine va_last hx hb hk.1 hP (mw_D hAd) hS 2 1 (rfl) rfl (vin hj.2.2.2.1.1 hj.2.2.2.1.2) dX8_joins_32 (fun H locs hP _ hS => ?_)
  have hP : va_P D vwCl (mw ad cI cL cZ m_w m_h m_c m_s m_le m_un m_he m_ro m_wi m_hi m_hr m_hp m_rn m_rw m_rh m_n m_l m_b m_to m_hs (upd (upd m_ho (2 * p1).toNatClampNeg p2) ((2 * p1) + 1).toNatClampNeg p3) m_tx m_ik m_wt m_ac (vp_updL m_ap p4.toNatClampNeg ((m_ap p4.toNatClampNeg) ||| (shlL 1 p1))) m_pa m_im m_ri) H := hP
  refine lv_aload_n hx hb dX8_joins_33 rfl (lv_at hl 0 rfl) ?_
  refine va_get (D := D) (ci := 8) (v := .ref (ad 2)) (C := RX8) (T := TX8) (N := 29) hx hb hts u_X8 hown hk.1 hP 0 rfl rfl 8 (by decide) (hts _ q4_20) (fun _ h9 => h9) rfl dX8_joins_34 ?_
  refine lv_iload hx hb dX8_joins_37 (lv_at hl 5 rfl) ?_
  refine lv_dup2_11 hx hb dX8_joins_39 rfl rfl ?_
  refine va_lald hx hb hk.1 hP 2 1 (rfl) rfl (vin hj.2.2.2.2.1 hj.2.2.2.2.2) dX8_joins_40 ?_
  refine lv_lconst (v := 1) hx hb dX8_joins_41 (by decide) ?_
  refine lv_iload_n hx hb dX8_joins_42 rfl (lv_at hl 1 rfl) ?_
  refine lv_lshl (v := shlL 1 p1) hx hb dX8_joins_43 rfl ?_
  refine lv_lor hx hb dX8_joins_44 ?_
  refine va_last hx hb hk.1 hP (mw_D hAd) hS 2 1 (rfl) rfl (vin hj.2.2.2.2.1 hj.2.2.2.2.2) dX8_joins_45 (fun H locs hP _ hS => ?_)
  have hP : va_P D vwCl (mw ad cI cL cZ m_w m_h m_c m_s m_le m_un m_he m_ro m_wi m_hi m_hr m_hp m_rn m_rw m_rh m_n m_l m_b m_to m_hs (upd (upd m_ho (2 * p1).toNatClampNeg p2) ((2 * p1) + 1).toNatClampNeg p3) m_tx m_ik m_wt m_ac (vp_updL (vp_updL m_ap p4.toNatClampNeg ((m_ap p4.toNatClampNeg) ||| (shlL 1 p1))) p5.toNatClampNeg (((vp_updL m_ap p4.toNatClampNeg ((m_ap p4.toNatClampNeg) ||| (shlL 1 p1))) p5.toNatClampNeg) ||| (shlL 1 p1))) m_pa m_im m_ri) H := hP
  refine lv_iload_n hx hb dX8_joins_46 rfl (lv_at hl 2 rfl) ?_
  refine lv_bipush (v := 16) hx hb dX8_joins_47 (by decide) ?_
  refine lv_icmp_ge (tgt := 64) hx hb dX8_joins_49 (by decide) (fun c49 => ?_) (fun c49 => ?_)
  · have hr := (if_pos c49).symm.trans hr
    refine lv_iload_n hx hb dX8_joins_64 rfl (lv_at hl 3 rfl) ?_
    refine lv_bipush (v := 16) hx hb dX8_joins_65 (by decide) ?_
    refine lv_icmp_ge (tgt := 82) hx hb dX8_joins_67 (by decide) (fun c67 => ?_) (fun c67 => ?_)
    · have hr := (if_pos c67).symm.trans hr
      subst hr
      exact ret_v hx hb hrt hlocks hP hS dX8_joins_82
    · have hr := (if_neg c67).symm.trans hr
      refine lv_aload_n hx hb dX8_joins_70 rfl (lv_at hl 0 rfl) ?_
      refine va_get (D := D) (ci := 8) (v := .ref (ad 1)) (C := RX8) (T := TX8) (N := 29) hx hb hts u_X8 hown hk.1 hP 0 rfl rfl 7 (by decide) (hts _ q4_19) (fun _ h9 => h9) rfl dX8_joins_71 ?_
      refine lv_iload_n hx hb dX8_joins_74 rfl (lv_at hl 3 rfl) ?_
      refine lv_dup2_11 hx hb dX8_joins_75 rfl rfl ?_
      refine va_lald hx hb hk.1 hP 1 1 (rfl) rfl (vin_c hj.2.2.1 c67 (by decide)) dX8_joins_76 ?_
      refine lv_lconst (v := 1) hx hb dX8_joins_77 (by decide) ?_
      refine lv_iload_n hx hb dX8_joins_78 rfl (lv_at hl 1 rfl) ?_
      refine lv_lshl (v := shlL 1 p1) hx hb dX8_joins_79 rfl ?_
      refine lv_lor hx hb dX8_joins_80 ?_
      refine va_last hx hb hk.1 hP (mw_D hAd) hS 1 1 (rfl) rfl (vin_c hj.2.2.1 c67 (by decide)) dX8_joins_81 (fun H locs hP _ hS => ?_)
      have hP : va_P D vwCl (mw ad cI cL cZ m_w m_h m_c m_s m_le m_un m_he m_ro m_wi m_hi m_hr m_hp m_rn m_rw m_rh m_n m_l m_b m_to m_hs (upd (upd m_ho (2 * p1).toNatClampNeg p2) ((2 * p1) + 1).toNatClampNeg p3) m_tx m_ik m_wt (vp_updL m_ac p3.toNatClampNeg ((m_ac p3.toNatClampNeg) ||| (shlL 1 p1))) (vp_updL (vp_updL m_ap p4.toNatClampNeg ((m_ap p4.toNatClampNeg) ||| (shlL 1 p1))) p5.toNatClampNeg (((vp_updL m_ap p4.toNatClampNeg ((m_ap p4.toNatClampNeg) ||| (shlL 1 p1))) p5.toNatClampNeg) ||| (shlL 1 p1))) m_pa m_im m_ri) H := hP
      subst hr
      exact ret_v hx hb hrt hlocks hP hS dX8_joins_82
  · have hr := (if_neg c49).symm.trans hr
    refine lv_aload_n hx hb dX8_joins_52 rfl (lv_at hl 0 rfl) ?_
    refine va_get (D := D) (ci := 8) (v := .ref (ad 1)) (C := RX8) (T := TX8) (N := 29) hx hb hts u_X8 hown hk.1 hP 0 rfl rfl 7 (by decide) (hts _ q4_19) (fun _ h9 => h9) rfl dX8_joins_53 ?_
    refine lv_iload_n hx hb dX8_joins_56 rfl (lv_at hl 2 rfl) ?_
    refine lv_dup2_11 hx hb dX8_joins_57 rfl rfl ?_
    refine va_lald hx hb hk.1 hP 1 1 (rfl) rfl (vin_c hj.2.1 c49 (by decide)) dX8_joins_58 ?_
    refine lv_lconst (v := 1) hx hb dX8_joins_59 (by decide) ?_
    refine lv_iload_n hx hb dX8_joins_60 rfl (lv_at hl 1 rfl) ?_
    refine lv_lshl (v := shlL 1 p1) hx hb dX8_joins_61 rfl ?_
    refine lv_lor hx hb dX8_joins_62 ?_
    refine va_last hx hb hk.1 hP (mw_D hAd) hS 1 1 (rfl) rfl (vin_c hj.2.1 c49 (by decide)) dX8_joins_63 (fun H locs hP _ hS => ?_)
    have hP : va_P D vwCl (mw ad cI cL cZ m_w m_h m_c m_s m_le m_un m_he m_ro m_wi m_hi m_hr m_hp m_rn m_rw m_rh m_n m_l m_b m_to m_hs (upd (upd m_ho (2 * p1).toNatClampNeg p2) ((2 * p1) + 1).toNatClampNeg p3) m_tx m_ik m_wt (vp_updL m_ac p2.toNatClampNeg ((m_ac p2.toNatClampNeg) ||| (shlL 1 p1))) (vp_updL (vp_updL m_ap p4.toNatClampNeg ((m_ap p4.toNatClampNeg) ||| (shlL 1 p1))) p5.toNatClampNeg (((vp_updL m_ap p4.toNatClampNeg ((m_ap p4.toNatClampNeg) ||| (shlL 1 p1))) p5.toNatClampNeg) ||| (shlL 1 p1))) m_pa m_im m_ri) H := hP
    refine lv_iload_n hx hb dX8_joins_64 rfl (lv_at hl 3 rfl) ?_
    refine lv_bipush (v := 16) hx hb dX8_joins_65 (by decide) ?_
    refine lv_icmp_ge (tgt := 82) hx hb dX8_joins_67 (by decide) (fun c67 => ?_) (fun c67 => ?_)
    · have hr := (if_pos c67).symm.trans hr
      subst hr
      exact ret_v hx hb hrt hlocks hP hS dX8_joins_82
    · have hr := (if_neg c67).symm.trans hr
      refine lv_aload_n hx hb dX8_joins_70 rfl (lv_at hl 0 rfl) ?_
      refine va_get (D := D) (ci := 8) (v := .ref (ad 1)) (C := RX8) (T := TX8) (N := 29) hx hb hts u_X8 hown hk.1 hP 0 rfl rfl 7 (by decide) (hts _ q4_19) (fun _ h9 => h9) rfl dX8_joins_71 ?_
      refine lv_iload_n hx hb dX8_joins_74 rfl (lv_at hl 3 rfl) ?_
      refine lv_dup2_11 hx hb dX8_joins_75 rfl rfl ?_
      refine va_lald hx hb hk.1 hP 1 1 (rfl) rfl (vin_c hj.2.2.1 c67 (by decide)) dX8_joins_76 ?_
      refine lv_lconst (v := 1) hx hb dX8_joins_77 (by decide) ?_
      refine lv_iload_n hx hb dX8_joins_78 rfl (lv_at hl 1 rfl) ?_
      refine lv_lshl (v := shlL 1 p1) hx hb dX8_joins_79 rfl ?_
      refine lv_lor hx hb dX8_joins_80 ?_
      refine va_last hx hb hk.1 hP (mw_D hAd) hS 1 1 (rfl) rfl (vin_c hj.2.2.1 c67 (by decide)) dX8_joins_81 (fun H locs hP _ hS => ?_)
      have hP : va_P D vwCl (mw ad cI cL cZ m_w m_h m_c m_s m_le m_un m_he m_ro m_wi m_hi m_hr m_hp m_rn m_rw m_rh m_n m_l m_b m_to m_hs (upd (upd m_ho (2 * p1).toNatClampNeg p2) ((2 * p1) + 1).toNatClampNeg p3) m_tx m_ik m_wt (vp_updL (vp_updL m_ac p2.toNatClampNeg ((m_ac p2.toNatClampNeg) ||| (shlL 1 p1))) p3.toNatClampNeg (((vp_updL m_ac p2.toNatClampNeg ((m_ac p2.toNatClampNeg) ||| (shlL 1 p1))) p3.toNatClampNeg) ||| (shlL 1 p1))) (vp_updL (vp_updL m_ap p4.toNatClampNeg ((m_ap p4.toNatClampNeg) ||| (shlL 1 p1))) p5.toNatClampNeg (((vp_updL m_ap p4.toNatClampNeg ((m_ap p4.toNatClampNeg) ||| (shlL 1 p1))) p5.toNatClampNeg) ||| (shlL 1 p1))) m_pa m_im m_ri) H := hP
      subst hr
      exact ret_v hx hb hrt hlocks hP hS dX8_joins_82
theorem hd_X8_laysGrid : yX8_laysGrid.cls = RX8 ∧ yX8_laysGrid.cls ≠ "java/lang/invoke/MethodHandle" ∧ yX8_laysGrid.cls ≠ "java/lang/invoke/VarHandle" ∧ (parseMethodDescriptor yX8_laysGrid.desc).map (fun d => d.parameters.length) = some 0 := by decide +kernel
def F_X8_laysGrid_35 {β : Type} (k0 : (Nat → Int64) → (Nat → Int64) → β) : Nat → Int32 → (Nat → Int64) → (Nat → Int64) → β
  | 0, x1, m_ac, m_ap => k0 m_ac m_ap
  | n + 1, x1, m_ac, m_ap => (if 25 ≤ x1 then k0 m_ac m_ap else (if 16 ≤ x1 then F_X8_laysGrid_35 k0 n (x1 + 1) (vp_updL m_ac (0 : Int32).toNatClampNeg 0) (vp_updL m_ap x1.toNatClampNeg 0) else F_X8_laysGrid_35 k0 n (x1 + 1) (vp_updL m_ac x1.toNatClampNeg 0) (vp_updL m_ap x1.toNatClampNeg 0)))
def F_X8_laysGrid_83 (y1 : Int32) (m_w : Int32) (m_h : Int32) {β : Type} (k0 : (Nat → Int32) → (Nat → Int64) → (Nat → Int64) → β) : Nat → Int32 → (Nat → Int32) → (Nat → Int64) → (Nat → Int64) → β
  | 0, x2, m_ho, m_ac, m_ap => k0 m_ho m_ac m_ap
  | n + 1, x2, m_ho, m_ac, m_ap => (if m_w ≤ x2 then k0 m_ho m_ac m_ap else (bd (f_X8_joins (f_X8_lying x2 y1 m_w) (f_X8_cellAt x2 (y1 - 1) m_w m_h) (f_X8_cellAt x2 y1 m_w m_h) ((y1 * (m_w + 1)) + x2) (((y1 * (m_w + 1)) + x2) + 1) m_ho m_ac m_ap) (fun u3 => F_X8_laysGrid_83 y1 m_w m_h k0 n (x2 + 1) u3.1 u3.2.1 u3.2.2)))
def F_X8_laysGrid_73 (m_w : Int32) (m_h : Int32) {β : Type} (k0 : (Nat → Int32) → (Nat → Int64) → (Nat → Int64) → β) : Nat → Int32 → (Nat → Int32) → (Nat → Int64) → (Nat → Int64) → β
  | 0, x1, m_ho, m_ac, m_ap => k0 m_ho m_ac m_ap
  | n + 1, x1, m_ho, m_ac, m_ap => (if m_h < x1 then k0 m_ho m_ac m_ap else F_X8_laysGrid_83 x1 m_w m_h (fun z4 z5 z6 => F_X8_laysGrid_73 m_w m_h k0 n (x1 + 1) z4 z5 z6) (fu m_w (0 : Int32)) 0 m_ho m_ac m_ap)
def F_X8_laysGrid_161 (y1 : Int32) (m_w : Int32) (m_h : Int32) {β : Type} (k0 : (Nat → Int32) → (Nat → Int64) → (Nat → Int64) → β) : Nat → Int32 → (Nat → Int32) → (Nat → Int64) → (Nat → Int64) → β
  | 0, x2, m_ho, m_ac, m_ap => k0 m_ho m_ac m_ap
  | n + 1, x2, m_ho, m_ac, m_ap => (if m_w < x2 then k0 m_ho m_ac m_ap else (bd (f_X8_joins (f_X8_standing x2 y1 m_w m_h) (f_X8_cellAt (x2 - 1) y1 m_w m_h) (f_X8_cellAt x2 y1 m_w m_h) ((y1 * (m_w + 1)) + x2) (((y1 + 1) * (m_w + 1)) + x2) m_ho m_ac m_ap) (fun u10 => F_X8_laysGrid_161 y1 m_w m_h k0 n (x2 + 1) u10.1 u10.2.1 u10.2.2)))
def F_X8_laysGrid_151 (m_w : Int32) (m_h : Int32) {β : Type} (k0 : (Nat → Int32) → (Nat → Int64) → (Nat → Int64) → β) : Nat → Int32 → (Nat → Int32) → (Nat → Int64) → (Nat → Int64) → β
  | 0, x1, m_ho, m_ac, m_ap => k0 m_ho m_ac m_ap
  | n + 1, x1, m_ho, m_ac, m_ap => (if m_h ≤ x1 then k0 m_ho m_ac m_ap else F_X8_laysGrid_161 x1 m_w m_h (fun z11 z12 z13 => F_X8_laysGrid_151 m_w m_h k0 n (x1 + 1) z11 z12 z13) (fue m_w (0 : Int32)) 0 m_ho m_ac m_ap)
def f_X8_laysGrid (m_w : Int32) (m_h : Int32) (m_ho : Nat → Int32) (m_ac : Nat → Int64) (m_ap : Nat → Int64) : Int32 × Int32 × (Nat → Int32) × (Nat → Int64) × (Nat → Int64) := F_X8_laysGrid_35 (fun z1 z2 => F_X8_laysGrid_73 m_w m_h (fun z7 z8 z9 => F_X8_laysGrid_151 m_w m_h (fun z14 z15 z16 => (m_w * m_h, ((2 * (m_w * m_h)) + m_w) + m_h, z14, z15, z16)) (fu m_h (0 : Int32)) 0 z7 z8 z9) (fue m_h (0 : Int32)) 0 m_ho z1 z2) (fu 25 (0 : Int32)) 0 m_ac m_ap
set_option maxHeartbeats 4000000 in
set_option maxRecDepth 100000 in
theorem lp_X8_laysGrid_35 (l : Launch) (D : va_G) (cI cL cZ : ClassId) (ad : Nat → Nat) (m_w m_h m_c m_s m_le m_un m_he m_ro m_wi m_hi m_hr m_hp m_rn m_rw m_rh : Int32) (m_n m_l m_b m_to m_hs : Int64) (m_ho m_tx m_ik m_wt : Nat → Int32) (m_pa m_im m_ri : Nat → Int64) {p : Program} {e : Env} {s : State} {m : MethodId} {args : Array Value} {below : List Frame} {meth : Method} {c : Code} {Q : State → Prop} (C : Cx p s m args meth c cX8_laysGrid 3 none W0 RX8 D cI cL cZ) (hAd : mInj ad) {β : Type} (k0 : (Nat → Int64) → (Nat → Int64) → β) (r : β)
    (h0 : ∀ (m_ac m_ap : Nat → Int64) (H : Heap) (locs : List Loc) (ls : Array Slot), k0 m_ac m_ap = r → va_P D vwCl (mw ad cI cL cZ m_w m_h m_c m_s m_le m_un m_he m_ro m_wi m_hi m_hr m_hp m_rn m_rw m_rh m_n m_l m_b m_to m_hs m_ho m_tx m_ik m_wt m_ac m_ap m_pa m_im m_ri) H → va_S (mAd ad) s.heap H locs → lv_has ls 3 [(0, .ref (ad 0))] → W p l e (rmS 2 47) s m args below meth c H locs 0 0 Q (F0 m 71 ls [])) :
    ∀ (n : Nat) (x1 : Int32) (m_ac m_ap : Nat → Int64) (H : Heap) (locs : List Loc) (ls : Array Slot), fuU n 25 x1 → F_X8_laysGrid_35 k0 n x1 m_ac m_ap = r → va_P D vwCl (mw ad cI cL cZ m_w m_h m_c m_s m_le m_un m_he m_ro m_wi m_hi m_hr m_hp m_rn m_rw m_rh m_n m_l m_b m_to m_hs m_ho m_tx m_ik m_wt m_ac m_ap m_pa m_im m_ri) H → va_S (mAd ad) s.heap H locs → lv_has ls 3 [(0, .ref (ad 0)), (1, .int x1)] → W p l e (rmS 2 47) s m args below meth c H locs 0 0 Q (F0 m 35 ls []) := by
  obtain ⟨hx, hb, hml, hrt, hlocks, hown, hts, hk⟩ := C
  intro n
  induction n with
  | zero =>
    intro x1 m_ac m_ap H locs ls hf
    exact absurd hf.1 (Nat.lt_irrefl 0)
  | succ n ih =>
    intro x1 m_ac m_ap H locs ls hf hr hP hS hl
    rw [F_X8_laysGrid_35] at hr
    refine lv_iload_n hx hb dX8_laysGrid_35 rfl (lv_at hl 1 rfl) ?_
    refine lv_bipush (v := 25) hx hb dX8_laysGrid_36 (by decide) ?_
    refine lv_icmp_ge (tgt := 71) hx hb dX8_laysGrid_38 (by decide) (fun c38 => ?_) (fun c38 => ?_)
    · have hr := (if_pos c38).symm.trans hr
      exact h0 m_ac m_ap _ _ _ hr hP hS (lv_sub hl [0] rfl)
    · have hr := (if_neg c38).symm.trans hr
      refine lv_aload_n hx hb dX8_laysGrid_41 rfl (lv_at hl 0 rfl) ?_
      refine va_get (D := D) (ci := 8) (v := .ref (ad 2)) (C := RX8) (T := TX8) (N := 29) hx hb hts u_X8 hown hk.1 hP 0 rfl rfl 8 (by decide) (hts _ q4_20) (fun _ h9 => h9) rfl dX8_laysGrid_42 ?_
      refine lv_iload_n hx hb dX8_laysGrid_45 rfl (lv_at hl 1 rfl) ?_
      refine lv_lconst (v := 0) hx hb dX8_laysGrid_46 (by decide) ?_
      refine va_last hx hb hk.1 hP (mw_D hAd) hS 2 1 (rfl) rfl (vin_c hf.2.2 c38 (by decide)) dX8_laysGrid_47 (fun H locs hP _ hS => ?_)
      have hP : va_P D vwCl (mw ad cI cL cZ m_w m_h m_c m_s m_le m_un m_he m_ro m_wi m_hi m_hr m_hp m_rn m_rw m_rh m_n m_l m_b m_to m_hs m_ho m_tx m_ik m_wt m_ac (vp_updL m_ap x1.toNatClampNeg 0) m_pa m_im m_ri) H := hP
      refine lv_aload_n hx hb dX8_laysGrid_48 rfl (lv_at hl 0 rfl) ?_
      refine va_get (D := D) (ci := 8) (v := .ref (ad 1)) (C := RX8) (T := TX8) (N := 29) hx hb hts u_X8 hown hk.1 hP 0 rfl rfl 7 (by decide) (hts _ q4_19) (fun _ h9 => h9) rfl dX8_laysGrid_49 ?_
      refine lv_iload_n hx hb dX8_laysGrid_52 rfl (lv_at hl 1 rfl) ?_
      refine lv_bipush (v := 16) hx hb dX8_laysGrid_53 (by decide) ?_
      refine lv_icmp_ge (tgt := 62) hx hb dX8_laysGrid_55 (by decide) (fun c55 => ?_) (fun c55 => ?_)
      · have hr := (if_pos c55).symm.trans hr
        refine lv_iconst (v := 0) hx hb dX8_laysGrid_62 (by decide) ?_
        refine lv_lconst (v := 0) hx hb dX8_laysGrid_63 (by decide) ?_
        refine va_last hx hb hk.1 hP (mw_D hAd) hS 1 1 (rfl) rfl (by first | exact vin_c hf.2.2 c55 (by decide) | exact vin (by decide) (by decide)) dX8_laysGrid_64 (fun H locs hP _ hS => ?_)
        have hP : va_P D vwCl (mw ad cI cL cZ m_w m_h m_c m_s m_le m_un m_he m_ro m_wi m_hi m_hr m_hp m_rn m_rw m_rh m_n m_l m_b m_to m_hs m_ho m_tx m_ik m_wt (vp_updL m_ac (0 : Int32).toNatClampNeg 0) (vp_updL m_ap x1.toNatClampNeg 0) m_pa m_im m_ri) H := hP
        refine lv_iinc (v := x1 + 1) (lv' := [(1, .int (x1 + 1)), (0, .ref (ad 0))]) hx hb dX8_laysGrid_65 hl (k := 1) rfl rfl (by decide) rfl (fun ls hl => ?_)
        refine lv_goto (tgt := 35) hx hb dX8_laysGrid_68 (by decide) ?_
        exact ih (x1 + 1) (vp_updL m_ac (0 : Int32).toNatClampNeg 0) (vp_updL m_ap x1.toNatClampNeg 0) _ _ _ (fuU_s hf c38) hr hP hS (lv_sub hl [1, 0] rfl)
      · have hr := (if_neg c55).symm.trans hr
        refine lv_iload_n hx hb dX8_laysGrid_58 rfl (lv_at hl 1 rfl) ?_
        refine lv_goto (tgt := 63) hx hb dX8_laysGrid_59 (by decide) ?_
        refine lv_lconst (v := 0) hx hb dX8_laysGrid_63 (by decide) ?_
        refine va_last hx hb hk.1 hP (mw_D hAd) hS 1 1 (rfl) rfl (by first | exact vin_c hf.2.2 c55 (by decide) | exact vin (by decide) (by decide)) dX8_laysGrid_64 (fun H locs hP _ hS => ?_)
        have hP : va_P D vwCl (mw ad cI cL cZ m_w m_h m_c m_s m_le m_un m_he m_ro m_wi m_hi m_hr m_hp m_rn m_rw m_rh m_n m_l m_b m_to m_hs m_ho m_tx m_ik m_wt (vp_updL m_ac x1.toNatClampNeg 0) (vp_updL m_ap x1.toNatClampNeg 0) m_pa m_im m_ri) H := hP
        refine lv_iinc (v := x1 + 1) (lv' := [(1, .int (x1 + 1)), (0, .ref (ad 0))]) hx hb dX8_laysGrid_65 hl (k := 1) rfl rfl (by decide) rfl (fun ls hl => ?_)
        refine lv_goto (tgt := 35) hx hb dX8_laysGrid_68 (by decide) ?_
        exact ih (x1 + 1) (vp_updL m_ac x1.toNatClampNeg 0) (vp_updL m_ap x1.toNatClampNeg 0) _ _ _ (fuU_s hf c38) hr hP hS (lv_sub hl [1, 0] rfl)
set_option maxHeartbeats 4000000 in
set_option maxRecDepth 100000 in
theorem lp_X8_laysGrid_83 (l : Launch) (D : va_G) (cI cL cZ : ClassId) (ad : Nat → Nat) (m_w m_h m_c m_s m_le m_un m_he m_ro m_wi m_hi m_hr m_hp m_rn m_rw m_rh : Int32) (m_n m_l m_b m_to m_hs : Int64) (m_tx m_ik m_wt : Nat → Int32) (m_pa m_im m_ri : Nat → Int64) {p : Program} {e : Env} {s : State} {m : MethodId} {args : Array Value} {below : List Frame} {meth : Method} {c : Code} {Q : State → Prop} (C : Cx p s m args meth c cX8_laysGrid 3 none W0 RX8 D cI cL cZ) (hAd : mInj ad) (y1 : Int32) (hg : wh m_w m_h) (hy0 : 0 ≤ y1.toInt) (hy : ¬ m_h < y1) {β : Type} (k0 : (Nat → Int32) → (Nat → Int64) → (Nat → Int64) → β) (r : β)
    (h0 : ∀ (m_ho : Nat → Int32) (m_ac m_ap : Nat → Int64) (H : Heap) (locs : List Loc) (ls : Array Slot), k0 m_ho m_ac m_ap = r → va_P D vwCl (mw ad cI cL cZ m_w m_h m_c m_s m_le m_un m_he m_ro m_wi m_hi m_hr m_hp m_rn m_rw m_rh m_n m_l m_b m_to m_hs m_ho m_tx m_ik m_wt m_ac m_ap m_pa m_im m_ri) H → va_S (mAd ad) s.heap H locs → lv_has ls 3 [(0, .ref (ad 0)), (1, .int y1)] → W p l e (rmS 2 47) s m args below meth c H locs 0 0 Q (F0 m 143 ls [])) :
    ∀ (n : Nat) (x2 : Int32) (m_ho : Nat → Int32) (m_ac m_ap : Nat → Int64) (H : Heap) (locs : List Loc) (ls : Array Slot), fuU n m_w x2 → F_X8_laysGrid_83 y1 m_w m_h k0 n x2 m_ho m_ac m_ap = r → va_P D vwCl (mw ad cI cL cZ m_w m_h m_c m_s m_le m_un m_he m_ro m_wi m_hi m_hr m_hp m_rn m_rw m_rh m_n m_l m_b m_to m_hs m_ho m_tx m_ik m_wt m_ac m_ap m_pa m_im m_ri) H → va_S (mAd ad) s.heap H locs → lv_has ls 3 [(0, .ref (ad 0)), (1, .int y1), (2, .int x2)] → W p l e (rmS 2 47) s m args below meth c H locs 0 0 Q (F0 m 83 ls []) := by
  obtain ⟨hx, hb, hml, hrt, hlocks, hown, hts, hk⟩ := C
  intro n
  induction n with
  | zero =>
    intro x2 m_ho m_ac m_ap H locs ls hf
    exact absurd hf.1 (Nat.lt_irrefl 0)
  | succ n ih =>
    intro x2 m_ho m_ac m_ap H locs ls hf hr hP hS hl
    rw [F_X8_laysGrid_83] at hr
    refine lv_iload_n hx hb dX8_laysGrid_83 rfl (lv_at hl 2 rfl) ?_
    refine lv_aload_n hx hb dX8_laysGrid_84 rfl (lv_at hl 0 rfl) ?_
    refine va_get (D := D) (ci := 8) (v := .int m_w) (C := RX8) (T := TX8) (N := 29) hx hb hts u_X8 hown hk.1 hP 0 rfl rfl 3 (by decide) (hts _ q4_15) (fun _ h9 => h9) rfl dX8_laysGrid_85 ?_
    refine lv_icmp_ge (tgt := 143) hx hb dX8_laysGrid_88 (by decide) (fun c88 => ?_) (fun c88 => ?_)
    · have hr := (if_pos c88).symm.trans hr
      exact h0 m_ho m_ac m_ap _ _ _ hr hP hS (lv_sub hl [0, 1] rfl)
    · have hr := (if_neg c88).symm.trans hr
      refine lv_aload_n hx hb dX8_laysGrid_91 rfl (lv_at hl 0 rfl) ?_
      refine lv_aload_n hx hb dX8_laysGrid_92 rfl (lv_at hl 0 rfl) ?_
      refine lv_iload_n hx hb dX8_laysGrid_93 rfl (lv_at hl 2 rfl) ?_
      refine lv_iload_n hx hb dX8_laysGrid_94 rfl (lv_at hl 1 rfl) ?_
      refine go_i (ru_V (n := 2) ⟨hx, hb, hml, hown, hts⟩ hk hP (c_X8_lying l D cI cL cZ ad m_w m_h m_c m_s m_le m_un m_he m_ro m_wi m_hi m_hr m_hp m_rn m_rw m_rh m_n m_l m_b m_to m_hs m_ho m_tx m_ik m_wt m_ac m_ap m_pa m_im m_ri hAd x2 y1 _ rfl) (cwV 2 hts (gV q3_233 q3_235 qs3_0 q1_11 q3_236) rfl rfl rfl hd_X8_lying ⟨Nat.le_of_ble_eq_true rfl, Nat.le_of_ble_eq_true rfl⟩) (va_recv hk.1 hP (ci := 8) (q0 := 0) rfl rfl) rfl hl.1 rfl (Nat.le_of_ble_eq_true rfl) dX8_laysGrid_95 ⟨Nat.zero_le _, Nat.zero_le _⟩) hS (fun _ h => h) (fun H locs hP hS => ?_)
      have hP : va_P D vwCl (mw ad cI cL cZ m_w m_h m_c m_s m_le m_un m_he m_ro m_wi m_hi m_hr m_hp m_rn m_rw m_rh m_n m_l m_b m_to m_hs m_ho m_tx m_ik m_wt m_ac m_ap m_pa m_im m_ri) H := hP
      refine lv_aload_n hx hb dX8_laysGrid_98 rfl (lv_at hl 0 rfl) ?_
      refine lv_iload_n hx hb dX8_laysGrid_99 rfl (lv_at hl 2 rfl) ?_
      refine lv_iload_n hx hb dX8_laysGrid_100 rfl (lv_at hl 1 rfl) ?_
      refine lv_iconst (v := 1) hx hb dX8_laysGrid_101 (by decide) ?_
      refine lv_isub hx hb dX8_laysGrid_102 ?_
      refine go_i (ru_V (n := 2) ⟨hx, hb, hml, hown, hts⟩ hk hP (c_X8_cellAt l D cI cL cZ ad m_w m_h m_c m_s m_le m_un m_he m_ro m_wi m_hi m_hr m_hp m_rn m_rw m_rh m_n m_l m_b m_to m_hs m_ho m_tx m_ik m_wt m_ac m_ap m_pa m_im m_ri hAd x2 (y1 - 1) _ rfl) (cwV 2 hts (gV q3_237 q3_239 qs3_1 q1_11 q4_0) rfl rfl rfl hd_X8_cellAt ⟨Nat.le_of_ble_eq_true rfl, Nat.le_of_ble_eq_true rfl⟩) (va_recv hk.1 hP (ci := 8) (q0 := 0) rfl rfl) rfl hl.1 rfl (Nat.le_of_ble_eq_true rfl) dX8_laysGrid_103 ⟨Nat.zero_le _, Nat.zero_le _⟩) hS (fun _ h => h) (fun H locs hP hS => ?_)
      have hP : va_P D vwCl (mw ad cI cL cZ m_w m_h m_c m_s m_le m_un m_he m_ro m_wi m_hi m_hr m_hp m_rn m_rw m_rh m_n m_l m_b m_to m_hs m_ho m_tx m_ik m_wt m_ac m_ap m_pa m_im m_ri) H := hP
      refine lv_aload_n hx hb dX8_laysGrid_106 rfl (lv_at hl 0 rfl) ?_
      refine lv_iload_n hx hb dX8_laysGrid_107 rfl (lv_at hl 2 rfl) ?_
      refine lv_iload_n hx hb dX8_laysGrid_108 rfl (lv_at hl 1 rfl) ?_
      refine go_i (ru_V (n := 2) ⟨hx, hb, hml, hown, hts⟩ hk hP (c_X8_cellAt l D cI cL cZ ad m_w m_h m_c m_s m_le m_un m_he m_ro m_wi m_hi m_hr m_hp m_rn m_rw m_rh m_n m_l m_b m_to m_hs m_ho m_tx m_ik m_wt m_ac m_ap m_pa m_im m_ri hAd x2 y1 _ rfl) (cwV 2 hts (gV q3_237 q3_239 qs3_1 q1_11 q4_0) rfl rfl rfl hd_X8_cellAt ⟨Nat.le_of_ble_eq_true rfl, Nat.le_of_ble_eq_true rfl⟩) (va_recv hk.1 hP (ci := 8) (q0 := 0) rfl rfl) rfl hl.1 rfl (Nat.le_of_ble_eq_true rfl) dX8_laysGrid_109 ⟨Nat.zero_le _, Nat.zero_le _⟩) hS (fun _ h => h) (fun H locs hP hS => ?_)
      have hP : va_P D vwCl (mw ad cI cL cZ m_w m_h m_c m_s m_le m_un m_he m_ro m_wi m_hi m_hr m_hp m_rn m_rw m_rh m_n m_l m_b m_to m_hs m_ho m_tx m_ik m_wt m_ac m_ap m_pa m_im m_ri) H := hP
      refine lv_iload_n hx hb dX8_laysGrid_112 rfl (lv_at hl 1 rfl) ?_
      refine lv_aload_n hx hb dX8_laysGrid_113 rfl (lv_at hl 0 rfl) ?_
      refine va_get (D := D) (ci := 8) (v := .int m_w) (C := RX8) (T := TX8) (N := 29) hx hb hts u_X8 hown hk.1 hP 0 rfl rfl 3 (by decide) (hts _ q4_15) (fun _ h9 => h9) rfl dX8_laysGrid_114 ?_
      refine lv_iconst (v := 1) hx hb dX8_laysGrid_117 (by decide) ?_
      refine lv_iadd hx hb dX8_laysGrid_118 ?_
      refine lv_imul hx hb dX8_laysGrid_119 ?_
      refine lv_iload_n hx hb dX8_laysGrid_120 rfl (lv_at hl 2 rfl) ?_
      refine lv_iadd hx hb dX8_laysGrid_121 ?_
      refine lv_iload_n hx hb dX8_laysGrid_122 rfl (lv_at hl 1 rfl) ?_
      refine lv_aload_n hx hb dX8_laysGrid_123 rfl (lv_at hl 0 rfl) ?_
      refine va_get (D := D) (ci := 8) (v := .int m_w) (C := RX8) (T := TX8) (N := 29) hx hb hts u_X8 hown hk.1 hP 0 rfl rfl 3 (by decide) (hts _ q4_15) (fun _ h9 => h9) rfl dX8_laysGrid_124 ?_
      refine lv_iconst (v := 1) hx hb dX8_laysGrid_127 (by decide) ?_
      refine lv_iadd hx hb dX8_laysGrid_128 ?_
      refine lv_imul hx hb dX8_laysGrid_129 ?_
      refine lv_iload_n hx hb dX8_laysGrid_130 rfl (lv_at hl 2 rfl) ?_
      refine lv_iadd hx hb dX8_laysGrid_131 ?_
      refine lv_iconst (v := 1) hx hb dX8_laysGrid_132 (by decide) ?_
      refine lv_iadd hx hb dX8_laysGrid_133 ?_
      obtain ⟨u3, hu3⟩ : ∃ z, f_X8_joins (f_X8_lying x2 y1 m_w) (f_X8_cellAt x2 (y1 - 1) m_w m_h) (f_X8_cellAt x2 y1 m_w m_h) ((y1 * (m_w + 1)) + x2) (((y1 * (m_w + 1)) + x2) + 1) m_ho m_ac m_ap = z := ⟨_, rfl⟩
      have hr := (bd_eq hu3).symm.trans hr
      refine go_v (ru_V (n := 5) ⟨hx, hb, hml, hown, hts⟩ hk hP (c_X8_joins l D cI cL cZ ad m_w m_h m_c m_s m_le m_un m_he m_ro m_wi m_hi m_hr m_hp m_rn m_rw m_rh m_n m_l m_b m_to m_hs m_ho m_tx m_ik m_wt m_ac m_ap m_pa m_im m_ri hAd (f_X8_lying x2 y1 m_w) (f_X8_cellAt x2 (y1 - 1) m_w m_h) (f_X8_cellAt x2 y1 m_w m_h) ((y1 * (m_w + 1)) + x2) (((y1 * (m_w + 1)) + x2) + 1) _ hu3 (jl hg hf.2.2 c88 hy0 hy)) (cwV 5 hts (gV q4_4 q4_6 qs3_2 q1_11 q4_7) rfl rfl rfl hd_X8_joins ⟨Nat.le_of_ble_eq_true rfl, Nat.le_of_ble_eq_true rfl⟩) (va_recv hk.1 hP (ci := 8) (q0 := 0) rfl rfl) rfl hl.1 rfl (Nat.le_of_ble_eq_true rfl) dX8_laysGrid_134 ⟨Nat.zero_le _, Nat.zero_le _⟩) hS (fun _ h => h) (fun H locs hP hS => ?_)
      have hP : va_P D vwCl (mw ad cI cL cZ m_w m_h m_c m_s m_le m_un m_he m_ro m_wi m_hi m_hr m_hp m_rn m_rw m_rh m_n m_l m_b m_to m_hs u3.1 m_tx m_ik m_wt u3.2.1 u3.2.2 m_pa m_im m_ri) H := hP
      refine lv_iinc (v := x2 + 1) (lv' := [(2, .int (x2 + 1)), (0, .ref (ad 0)), (1, .int y1)]) hx hb dX8_laysGrid_137 hl (k := 2) rfl rfl (by decide) rfl (fun ls hl => ?_)
      refine lv_goto (tgt := 83) hx hb dX8_laysGrid_140 (by decide) ?_
      exact ih (x2 + 1) u3.1 u3.2.1 u3.2.2 _ _ _ (fuU_s hf c88) hr hP hS (lv_sub hl [1, 2, 0] rfl)
set_option maxHeartbeats 4000000 in
set_option maxRecDepth 100000 in
theorem lp_X8_laysGrid_73 (l : Launch) (D : va_G) (cI cL cZ : ClassId) (ad : Nat → Nat) (m_w m_h m_c m_s m_le m_un m_he m_ro m_wi m_hi m_hr m_hp m_rn m_rw m_rh : Int32) (m_n m_l m_b m_to m_hs : Int64) (m_tx m_ik m_wt : Nat → Int32) (m_pa m_im m_ri : Nat → Int64) {p : Program} {e : Env} {s : State} {m : MethodId} {args : Array Value} {below : List Frame} {meth : Method} {c : Code} {Q : State → Prop} (C : Cx p s m args meth c cX8_laysGrid 3 none W0 RX8 D cI cL cZ) (hAd : mInj ad) (hg : wh m_w m_h) {β : Type} (k0 : (Nat → Int32) → (Nat → Int64) → (Nat → Int64) → β) (r : β)
    (h0 : ∀ (m_ho : Nat → Int32) (m_ac m_ap : Nat → Int64) (H : Heap) (locs : List Loc) (ls : Array Slot), k0 m_ho m_ac m_ap = r → va_P D vwCl (mw ad cI cL cZ m_w m_h m_c m_s m_le m_un m_he m_ro m_wi m_hi m_hr m_hp m_rn m_rw m_rh m_n m_l m_b m_to m_hs m_ho m_tx m_ik m_wt m_ac m_ap m_pa m_im m_ri) H → va_S (mAd ad) s.heap H locs → lv_has ls 3 [(0, .ref (ad 0))] → W p l e (rmS 2 47) s m args below meth c H locs 0 0 Q (F0 m 149 ls [])) :
    ∀ (n : Nat) (x1 : Int32) (m_ho : Nat → Int32) (m_ac m_ap : Nat → Int64) (H : Heap) (locs : List Loc) (ls : Array Slot), fuE n m_h x1 → F_X8_laysGrid_73 m_w m_h k0 n x1 m_ho m_ac m_ap = r → va_P D vwCl (mw ad cI cL cZ m_w m_h m_c m_s m_le m_un m_he m_ro m_wi m_hi m_hr m_hp m_rn m_rw m_rh m_n m_l m_b m_to m_hs m_ho m_tx m_ik m_wt m_ac m_ap m_pa m_im m_ri) H → va_S (mAd ad) s.heap H locs → lv_has ls 3 [(0, .ref (ad 0)), (1, .int x1)] → W p l e (rmS 2 47) s m args below meth c H locs 0 0 Q (F0 m 73 ls []) := by
  obtain ⟨hx, hb, hml, hrt, hlocks, hown, hts, hk⟩ := C
  intro n
  induction n with
  | zero =>
    intro x1 m_ho m_ac m_ap H locs ls hf
    exact absurd hf.1 (Nat.lt_irrefl 0)
  | succ n ih =>
    intro x1 m_ho m_ac m_ap H locs ls hf hr hP hS hl
    rw [F_X8_laysGrid_73] at hr
    refine lv_iload_n hx hb dX8_laysGrid_73 rfl (lv_at hl 1 rfl) ?_
    refine lv_aload_n hx hb dX8_laysGrid_74 rfl (lv_at hl 0 rfl) ?_
    refine va_get (D := D) (ci := 8) (v := .int m_h) (C := RX8) (T := TX8) (N := 29) hx hb hts u_X8 hown hk.1 hP 0 rfl rfl 4 (by decide) (hts _ q4_16) (fun _ h9 => h9) rfl dX8_laysGrid_75 ?_
    refine lv_icmp_gt (tgt := 149) hx hb dX8_laysGrid_78 (by decide) (fun c78 => ?_) (fun c78 => ?_)
    · have hr := (if_pos c78).symm.trans hr
      exact h0 m_ho m_ac m_ap _ _ _ hr hP hS (lv_sub hl [0] rfl)
    · have hr := (if_neg c78).symm.trans hr
      refine lv_iconst (v := 0) hx hb dX8_laysGrid_81 (by decide) ?_
      refine lv_istore_n (lv' := [(2, .int 0), (0, .ref (ad 0)), (1, .int x1)]) hx hb dX8_laysGrid_82 rfl hl (by decide) rfl (fun ls hl => ?_)
      refine lp_X8_laysGrid_83 l D cI cL cZ ad m_w m_h m_c m_s m_le m_un m_he m_ro m_wi m_hi m_hr m_hp m_rn m_rw m_rh m_n m_l m_b m_to m_hs m_tx m_ik m_wt m_pa m_im m_ri ⟨hx, hb, hml, hrt, hlocks, hown, hts, hk⟩ hAd x1 hg hf.2.2 c78 _ _ (fun z4 z5 z6 H locs ls hr hP hS hl => ?_) (fu m_w (0 : Int32)) 0 m_ho m_ac m_ap _ _ _ (fuU_0 (by decide)) hr hP hS (lv_sub hl [1, 2, 0] rfl)
      refine lv_iinc (v := x1 + 1) (lv' := [(1, .int (x1 + 1)), (0, .ref (ad 0))]) hx hb dX8_laysGrid_143 hl (k := 1) rfl rfl (by decide) rfl (fun ls hl => ?_)
      refine lv_goto (tgt := 73) hx hb dX8_laysGrid_146 (by decide) ?_
      exact ih (x1 + 1) z4 z5 z6 _ _ _ (fuE_s hf c78 (by have := hg.2.2; omega)) hr hP hS (lv_sub hl [1, 0] rfl)
set_option maxHeartbeats 4000000 in
set_option maxRecDepth 100000 in
theorem lp_X8_laysGrid_161 (l : Launch) (D : va_G) (cI cL cZ : ClassId) (ad : Nat → Nat) (m_w m_h m_c m_s m_le m_un m_he m_ro m_wi m_hi m_hr m_hp m_rn m_rw m_rh : Int32) (m_n m_l m_b m_to m_hs : Int64) (m_tx m_ik m_wt : Nat → Int32) (m_pa m_im m_ri : Nat → Int64) {p : Program} {e : Env} {s : State} {m : MethodId} {args : Array Value} {below : List Frame} {meth : Method} {c : Code} {Q : State → Prop} (C : Cx p s m args meth c cX8_laysGrid 3 none W0 RX8 D cI cL cZ) (hAd : mInj ad) (y1 : Int32) (hg : wh m_w m_h) (hy0 : 0 ≤ y1.toInt) (hy : ¬ m_h ≤ y1) {β : Type} (k0 : (Nat → Int32) → (Nat → Int64) → (Nat → Int64) → β) (r : β)
    (h0 : ∀ (m_ho : Nat → Int32) (m_ac m_ap : Nat → Int64) (H : Heap) (locs : List Loc) (ls : Array Slot), k0 m_ho m_ac m_ap = r → va_P D vwCl (mw ad cI cL cZ m_w m_h m_c m_s m_le m_un m_he m_ro m_wi m_hi m_hr m_hp m_rn m_rw m_rh m_n m_l m_b m_to m_hs m_ho m_tx m_ik m_wt m_ac m_ap m_pa m_im m_ri) H → va_S (mAd ad) s.heap H locs → lv_has ls 3 [(0, .ref (ad 0)), (1, .int y1)] → W p l e (rmS 2 47) s m args below meth c H locs 0 0 Q (F0 m 221 ls [])) :
    ∀ (n : Nat) (x2 : Int32) (m_ho : Nat → Int32) (m_ac m_ap : Nat → Int64) (H : Heap) (locs : List Loc) (ls : Array Slot), fuE n m_w x2 → F_X8_laysGrid_161 y1 m_w m_h k0 n x2 m_ho m_ac m_ap = r → va_P D vwCl (mw ad cI cL cZ m_w m_h m_c m_s m_le m_un m_he m_ro m_wi m_hi m_hr m_hp m_rn m_rw m_rh m_n m_l m_b m_to m_hs m_ho m_tx m_ik m_wt m_ac m_ap m_pa m_im m_ri) H → va_S (mAd ad) s.heap H locs → lv_has ls 3 [(0, .ref (ad 0)), (1, .int y1), (2, .int x2)] → W p l e (rmS 2 47) s m args below meth c H locs 0 0 Q (F0 m 161 ls []) := by
  obtain ⟨hx, hb, hml, hrt, hlocks, hown, hts, hk⟩ := C
  intro n
  induction n with
  | zero =>
    intro x2 m_ho m_ac m_ap H locs ls hf
    exact absurd hf.1 (Nat.lt_irrefl 0)
  | succ n ih =>
    intro x2 m_ho m_ac m_ap H locs ls hf hr hP hS hl
    rw [F_X8_laysGrid_161] at hr
    refine lv_iload_n hx hb dX8_laysGrid_161 rfl (lv_at hl 2 rfl) ?_
    refine lv_aload_n hx hb dX8_laysGrid_162 rfl (lv_at hl 0 rfl) ?_
    refine va_get (D := D) (ci := 8) (v := .int m_w) (C := RX8) (T := TX8) (N := 29) hx hb hts u_X8 hown hk.1 hP 0 rfl rfl 3 (by decide) (hts _ q4_15) (fun _ h9 => h9) rfl dX8_laysGrid_163 ?_
    refine lv_icmp_gt (tgt := 221) hx hb dX8_laysGrid_166 (by decide) (fun c166 => ?_) (fun c166 => ?_)
    · have hr := (if_pos c166).symm.trans hr
      exact h0 m_ho m_ac m_ap _ _ _ hr hP hS (lv_sub hl [0, 1] rfl)
    · have hr := (if_neg c166).symm.trans hr
      refine lv_aload_n hx hb dX8_laysGrid_169 rfl (lv_at hl 0 rfl) ?_
      refine lv_aload_n hx hb dX8_laysGrid_170 rfl (lv_at hl 0 rfl) ?_
      refine lv_iload_n hx hb dX8_laysGrid_171 rfl (lv_at hl 2 rfl) ?_
      refine lv_iload_n hx hb dX8_laysGrid_172 rfl (lv_at hl 1 rfl) ?_
      refine go_i (ru_V (n := 2) ⟨hx, hb, hml, hown, hts⟩ hk hP (c_X8_standing l D cI cL cZ ad m_w m_h m_c m_s m_le m_un m_he m_ro m_wi m_hi m_hr m_hp m_rn m_rw m_rh m_n m_l m_b m_to m_hs m_ho m_tx m_ik m_wt m_ac m_ap m_pa m_im m_ri hAd x2 y1 _ rfl) (cwV 2 hts (gV q4_8 q4_10 qs3_3 q1_11 q4_11) rfl rfl rfl hd_X8_standing ⟨Nat.le_of_ble_eq_true rfl, Nat.le_of_ble_eq_true rfl⟩) (va_recv hk.1 hP (ci := 8) (q0 := 0) rfl rfl) rfl hl.1 rfl (Nat.le_of_ble_eq_true rfl) dX8_laysGrid_173 ⟨Nat.zero_le _, Nat.zero_le _⟩) hS (fun _ h => h) (fun H locs hP hS => ?_)
      have hP : va_P D vwCl (mw ad cI cL cZ m_w m_h m_c m_s m_le m_un m_he m_ro m_wi m_hi m_hr m_hp m_rn m_rw m_rh m_n m_l m_b m_to m_hs m_ho m_tx m_ik m_wt m_ac m_ap m_pa m_im m_ri) H := hP
      refine lv_aload_n hx hb dX8_laysGrid_176 rfl (lv_at hl 0 rfl) ?_
      refine lv_iload_n hx hb dX8_laysGrid_177 rfl (lv_at hl 2 rfl) ?_
      refine lv_iconst (v := 1) hx hb dX8_laysGrid_178 (by decide) ?_
      refine lv_isub hx hb dX8_laysGrid_179 ?_
      refine lv_iload_n hx hb dX8_laysGrid_180 rfl (lv_at hl 1 rfl) ?_
      refine go_i (ru_V (n := 2) ⟨hx, hb, hml, hown, hts⟩ hk hP (c_X8_cellAt l D cI cL cZ ad m_w m_h m_c m_s m_le m_un m_he m_ro m_wi m_hi m_hr m_hp m_rn m_rw m_rh m_n m_l m_b m_to m_hs m_ho m_tx m_ik m_wt m_ac m_ap m_pa m_im m_ri hAd (x2 - 1) y1 _ rfl) (cwV 2 hts (gV q3_237 q3_239 qs3_1 q1_11 q4_0) rfl rfl rfl hd_X8_cellAt ⟨Nat.le_of_ble_eq_true rfl, Nat.le_of_ble_eq_true rfl⟩) (va_recv hk.1 hP (ci := 8) (q0 := 0) rfl rfl) rfl hl.1 rfl (Nat.le_of_ble_eq_true rfl) dX8_laysGrid_181 ⟨Nat.zero_le _, Nat.zero_le _⟩) hS (fun _ h => h) (fun H locs hP hS => ?_)
      have hP : va_P D vwCl (mw ad cI cL cZ m_w m_h m_c m_s m_le m_un m_he m_ro m_wi m_hi m_hr m_hp m_rn m_rw m_rh m_n m_l m_b m_to m_hs m_ho m_tx m_ik m_wt m_ac m_ap m_pa m_im m_ri) H := hP
      refine lv_aload_n hx hb dX8_laysGrid_184 rfl (lv_at hl 0 rfl) ?_
      refine lv_iload_n hx hb dX8_laysGrid_185 rfl (lv_at hl 2 rfl) ?_
      refine lv_iload_n hx hb dX8_laysGrid_186 rfl (lv_at hl 1 rfl) ?_
      refine go_i (ru_V (n := 2) ⟨hx, hb, hml, hown, hts⟩ hk hP (c_X8_cellAt l D cI cL cZ ad m_w m_h m_c m_s m_le m_un m_he m_ro m_wi m_hi m_hr m_hp m_rn m_rw m_rh m_n m_l m_b m_to m_hs m_ho m_tx m_ik m_wt m_ac m_ap m_pa m_im m_ri hAd x2 y1 _ rfl) (cwV 2 hts (gV q3_237 q3_239 qs3_1 q1_11 q4_0) rfl rfl rfl hd_X8_cellAt ⟨Nat.le_of_ble_eq_true rfl, Nat.le_of_ble_eq_true rfl⟩) (va_recv hk.1 hP (ci := 8) (q0 := 0) rfl rfl) rfl hl.1 rfl (Nat.le_of_ble_eq_true rfl) dX8_laysGrid_187 ⟨Nat.zero_le _, Nat.zero_le _⟩) hS (fun _ h => h) (fun H locs hP hS => ?_)
      have hP : va_P D vwCl (mw ad cI cL cZ m_w m_h m_c m_s m_le m_un m_he m_ro m_wi m_hi m_hr m_hp m_rn m_rw m_rh m_n m_l m_b m_to m_hs m_ho m_tx m_ik m_wt m_ac m_ap m_pa m_im m_ri) H := hP
      refine lv_iload_n hx hb dX8_laysGrid_190 rfl (lv_at hl 1 rfl) ?_
      refine lv_aload_n hx hb dX8_laysGrid_191 rfl (lv_at hl 0 rfl) ?_
      refine va_get (D := D) (ci := 8) (v := .int m_w) (C := RX8) (T := TX8) (N := 29) hx hb hts u_X8 hown hk.1 hP 0 rfl rfl 3 (by decide) (hts _ q4_15) (fun _ h9 => h9) rfl dX8_laysGrid_192 ?_
      refine lv_iconst (v := 1) hx hb dX8_laysGrid_195 (by decide) ?_
      refine lv_iadd hx hb dX8_laysGrid_196 ?_
      refine lv_imul hx hb dX8_laysGrid_197 ?_
      refine lv_iload_n hx hb dX8_laysGrid_198 rfl (lv_at hl 2 rfl) ?_
      refine lv_iadd hx hb dX8_laysGrid_199 ?_
      refine lv_iload_n hx hb dX8_laysGrid_200 rfl (lv_at hl 1 rfl) ?_
      refine lv_iconst (v := 1) hx hb dX8_laysGrid_201 (by decide) ?_
      refine lv_iadd hx hb dX8_laysGrid_202 ?_
      refine lv_aload_n hx hb dX8_laysGrid_203 rfl (lv_at hl 0 rfl) ?_
      refine va_get (D := D) (ci := 8) (v := .int m_w) (C := RX8) (T := TX8) (N := 29) hx hb hts u_X8 hown hk.1 hP 0 rfl rfl 3 (by decide) (hts _ q4_15) (fun _ h9 => h9) rfl dX8_laysGrid_204 ?_
      refine lv_iconst (v := 1) hx hb dX8_laysGrid_207 (by decide) ?_
      refine lv_iadd hx hb dX8_laysGrid_208 ?_
      refine lv_imul hx hb dX8_laysGrid_209 ?_
      refine lv_iload_n hx hb dX8_laysGrid_210 rfl (lv_at hl 2 rfl) ?_
      refine lv_iadd hx hb dX8_laysGrid_211 ?_
      obtain ⟨u10, hu10⟩ : ∃ z, f_X8_joins (f_X8_standing x2 y1 m_w m_h) (f_X8_cellAt (x2 - 1) y1 m_w m_h) (f_X8_cellAt x2 y1 m_w m_h) ((y1 * (m_w + 1)) + x2) (((y1 + 1) * (m_w + 1)) + x2) m_ho m_ac m_ap = z := ⟨_, rfl⟩
      have hr := (bd_eq hu10).symm.trans hr
      refine go_v (ru_V (n := 5) ⟨hx, hb, hml, hown, hts⟩ hk hP (c_X8_joins l D cI cL cZ ad m_w m_h m_c m_s m_le m_un m_he m_ro m_wi m_hi m_hr m_hp m_rn m_rw m_rh m_n m_l m_b m_to m_hs m_ho m_tx m_ik m_wt m_ac m_ap m_pa m_im m_ri hAd (f_X8_standing x2 y1 m_w m_h) (f_X8_cellAt (x2 - 1) y1 m_w m_h) (f_X8_cellAt x2 y1 m_w m_h) ((y1 * (m_w + 1)) + x2) (((y1 + 1) * (m_w + 1)) + x2) _ hu10 (js hg hf.2.2 c166 hy0 hy)) (cwV 5 hts (gV q4_4 q4_6 qs3_2 q1_11 q4_7) rfl rfl rfl hd_X8_joins ⟨Nat.le_of_ble_eq_true rfl, Nat.le_of_ble_eq_true rfl⟩) (va_recv hk.1 hP (ci := 8) (q0 := 0) rfl rfl) rfl hl.1 rfl (Nat.le_of_ble_eq_true rfl) dX8_laysGrid_212 ⟨Nat.zero_le _, Nat.zero_le _⟩) hS (fun _ h => h) (fun H locs hP hS => ?_)
      have hP : va_P D vwCl (mw ad cI cL cZ m_w m_h m_c m_s m_le m_un m_he m_ro m_wi m_hi m_hr m_hp m_rn m_rw m_rh m_n m_l m_b m_to m_hs u10.1 m_tx m_ik m_wt u10.2.1 u10.2.2 m_pa m_im m_ri) H := hP
      refine lv_iinc (v := x2 + 1) (lv' := [(2, .int (x2 + 1)), (0, .ref (ad 0)), (1, .int y1)]) hx hb dX8_laysGrid_215 hl (k := 2) rfl rfl (by decide) rfl (fun ls hl => ?_)
      refine lv_goto (tgt := 161) hx hb dX8_laysGrid_218 (by decide) ?_
      exact ih (x2 + 1) u10.1 u10.2.1 u10.2.2 _ _ _ (fuE_s hf c166 (by have := hg.1.2; omega)) hr hP hS (lv_sub hl [1, 2, 0] rfl)
set_option maxHeartbeats 4000000 in
set_option maxRecDepth 100000 in
theorem lp_X8_laysGrid_151 (l : Launch) (D : va_G) (cI cL cZ : ClassId) (ad : Nat → Nat) (m_w m_h m_c m_s m_le m_un m_he m_ro m_wi m_hi m_hr m_hp m_rn m_rw m_rh : Int32) (m_n m_l m_b m_to m_hs : Int64) (m_tx m_ik m_wt : Nat → Int32) (m_pa m_im m_ri : Nat → Int64) {p : Program} {e : Env} {s : State} {m : MethodId} {args : Array Value} {below : List Frame} {meth : Method} {c : Code} {Q : State → Prop} (C : Cx p s m args meth c cX8_laysGrid 3 none W0 RX8 D cI cL cZ) (hAd : mInj ad) (hg : wh m_w m_h) {β : Type} (k0 : (Nat → Int32) → (Nat → Int64) → (Nat → Int64) → β) (r : β)
    (h0 : ∀ (m_ho : Nat → Int32) (m_ac m_ap : Nat → Int64) (H : Heap) (locs : List Loc) (ls : Array Slot), k0 m_ho m_ac m_ap = r → va_P D vwCl (mw ad cI cL cZ m_w m_h m_c m_s m_le m_un m_he m_ro m_wi m_hi m_hr m_hp m_rn m_rw m_rh m_n m_l m_b m_to m_hs m_ho m_tx m_ik m_wt m_ac m_ap m_pa m_im m_ri) H → va_S (mAd ad) s.heap H locs → lv_has ls 3 [] → W p l e (rmS 2 47) s m args below meth c H locs 0 0 Q (F0 m 227 ls [])) :
    ∀ (n : Nat) (x1 : Int32) (m_ho : Nat → Int32) (m_ac m_ap : Nat → Int64) (H : Heap) (locs : List Loc) (ls : Array Slot), fuU n m_h x1 → F_X8_laysGrid_151 m_w m_h k0 n x1 m_ho m_ac m_ap = r → va_P D vwCl (mw ad cI cL cZ m_w m_h m_c m_s m_le m_un m_he m_ro m_wi m_hi m_hr m_hp m_rn m_rw m_rh m_n m_l m_b m_to m_hs m_ho m_tx m_ik m_wt m_ac m_ap m_pa m_im m_ri) H → va_S (mAd ad) s.heap H locs → lv_has ls 3 [(0, .ref (ad 0)), (1, .int x1)] → W p l e (rmS 2 47) s m args below meth c H locs 0 0 Q (F0 m 151 ls []) := by
  obtain ⟨hx, hb, hml, hrt, hlocks, hown, hts, hk⟩ := C
  intro n
  induction n with
  | zero =>
    intro x1 m_ho m_ac m_ap H locs ls hf
    exact absurd hf.1 (Nat.lt_irrefl 0)
  | succ n ih =>
    intro x1 m_ho m_ac m_ap H locs ls hf hr hP hS hl
    rw [F_X8_laysGrid_151] at hr
    refine lv_iload_n hx hb dX8_laysGrid_151 rfl (lv_at hl 1 rfl) ?_
    refine lv_aload_n hx hb dX8_laysGrid_152 rfl (lv_at hl 0 rfl) ?_
    refine va_get (D := D) (ci := 8) (v := .int m_h) (C := RX8) (T := TX8) (N := 29) hx hb hts u_X8 hown hk.1 hP 0 rfl rfl 4 (by decide) (hts _ q4_16) (fun _ h9 => h9) rfl dX8_laysGrid_153 ?_
    refine lv_icmp_ge (tgt := 227) hx hb dX8_laysGrid_156 (by decide) (fun c156 => ?_) (fun c156 => ?_)
    · have hr := (if_pos c156).symm.trans hr
      exact h0 m_ho m_ac m_ap _ _ _ hr hP hS (lv_sub hl [] rfl)
    · have hr := (if_neg c156).symm.trans hr
      refine lv_iconst (v := 0) hx hb dX8_laysGrid_159 (by decide) ?_
      refine lv_istore_n (lv' := [(2, .int 0), (0, .ref (ad 0)), (1, .int x1)]) hx hb dX8_laysGrid_160 rfl hl (by decide) rfl (fun ls hl => ?_)
      refine lp_X8_laysGrid_161 l D cI cL cZ ad m_w m_h m_c m_s m_le m_un m_he m_ro m_wi m_hi m_hr m_hp m_rn m_rw m_rh m_n m_l m_b m_to m_hs m_tx m_ik m_wt m_pa m_im m_ri ⟨hx, hb, hml, hrt, hlocks, hown, hts, hk⟩ hAd x1 hg hf.2.2 c156 _ _ (fun z11 z12 z13 H locs ls hr hP hS hl => ?_) (fue m_w (0 : Int32)) 0 m_ho m_ac m_ap _ _ _ (fuE_0 (by decide)) hr hP hS (lv_sub hl [1, 2, 0] rfl)
      refine lv_iinc (v := x1 + 1) (lv' := [(1, .int (x1 + 1)), (0, .ref (ad 0))]) hx hb dX8_laysGrid_221 hl (k := 1) rfl rfl (by decide) rfl (fun ls hl => ?_)
      refine lv_goto (tgt := 151) hx hb dX8_laysGrid_224 (by decide) ?_
      exact ih (x1 + 1) z11 z12 z13 _ _ _ (fuU_s hf c156) hr hP hS (lv_sub hl [1, 0] rfl)
set_option maxHeartbeats 4000000 in
set_option maxRecDepth 100000 in
theorem c_X8_laysGrid (l : Launch) (D : va_G) (cI cL cZ : ClassId) (ad : Nat → Nat) (m_w m_h m_c m_s m_le m_un m_he m_ro m_wi m_hi m_hr m_hp m_rn m_rw m_rh : Int32) (m_n m_l m_b m_to m_hs : Int64) (m_ho m_tx m_ik m_wt : Nat → Int32) (m_ac m_ap m_pa m_im m_ri : Nat → Int64) (hAd : mInj ad) (r : Int32 × Int32 × (Nat → Int32) × (Nat → Int64) × (Nat → Int64)) (hr : f_X8_laysGrid m_w m_h m_ho m_ac m_ap = r) (hg : wh m_w m_h) : MV l yX8_laysGrid (Cond.code yX8_laysGrid cX8_laysGrid 3 none :: W0) 2 47 D cI cL cZ (mAd ad) [.ref (ad 0)] (mw ad cI cL cZ m_w m_h m_c m_s m_le m_un m_he m_ro m_wi m_hi m_hr m_hp m_rn m_rw m_rh m_n m_l m_b m_to m_hs m_ho m_tx m_ik m_wt m_ac m_ap m_pa m_im m_ri) (mw ad cI cL cZ m_w m_h r.1 r.2.1 m_le m_un m_he m_ro m_wi m_hi m_hr m_hp m_rn m_rw m_rh m_n m_l m_b m_to m_hs r.2.2.1 m_tx m_ik m_wt r.2.2.2.1 r.2.2.2.2 m_pa m_im m_ri) := by
  refine mk_start (cc := cX8_laysGrid) (maxL := 3) (ret := none) (by decide) rfl (Nat.le_of_ble_eq_true rfl) ?_
  intro p e s m below meth c ls C hP hS hl
  obtain ⟨hx, hb, hml, hrt, hlocks, hown, hts, hk⟩ := C
  have hown : s.vm.findClass RX8 = some m.cls := hown
  have hl : lv_has ls 3 [(0, .ref (ad 0))] := hl
  rw [f_X8_laysGrid] at hr
  refine lv_aload_n hx hb dX8_laysGrid_0 rfl (lv_at hl 0 rfl) ?_
  refine lv_aload_n hx hb dX8_laysGrid_1 rfl (lv_at hl 0 rfl) ?_
  refine va_get (D := D) (ci := 8) (v := .int m_w) (C := RX8) (T := TX8) (N := 29) hx hb hts u_X8 hown hk.1 hP 0 rfl rfl 3 (by decide) (hts _ q4_15) (fun _ h9 => h9) rfl dX8_laysGrid_2 ?_
  refine lv_aload_n hx hb dX8_laysGrid_5 rfl (lv_at hl 0 rfl) ?_
  refine va_get (D := D) (ci := 8) (v := .int m_h) (C := RX8) (T := TX8) (N := 29) hx hb hts u_X8 hown hk.1 hP 0 rfl rfl 4 (by decide) (hts _ q4_16) (fun _ h9 => h9) rfl dX8_laysGrid_6 ?_
  refine lv_imul hx hb dX8_laysGrid_9 ?_
  refine va_put (D := D) (ci := 8) (v := .int (m_w * m_h)) (ty := .int) (C := RX8) (T := TX8) (N := 29) hx hb hts u_X8 tyX8 tyX8_ok nmX8 hown hk.1 hP (mw_D hAd) hS 0 rfl rfl 5 (by decide) (hts _ q4_17) (fun _ h9 => h9) rfl (tyX8_ok 5 (by decide)) rfl rfl (Nat.le_of_ble_eq_true rfl) dX8_laysGrid_10 (fun H locs hP _ hS => ?_)
  have hP : va_P D vwCl (mw ad cI cL cZ m_w m_h (m_w * m_h) m_s m_le m_un m_he m_ro m_wi m_hi m_hr m_hp m_rn m_rw m_rh m_n m_l m_b m_to m_hs m_ho m_tx m_ik m_wt m_ac m_ap m_pa m_im m_ri) H := hP
  refine lv_aload_n hx hb dX8_laysGrid_13 rfl (lv_at hl 0 rfl) ?_
  refine lv_iconst (v := 2) hx hb dX8_laysGrid_14 (by decide) ?_
  refine lv_aload_n hx hb dX8_laysGrid_15 rfl (lv_at hl 0 rfl) ?_
  refine va_get (D := D) (ci := 8) (v := .int (m_w * m_h)) (C := RX8) (T := TX8) (N := 29) hx hb hts u_X8 hown hk.1 hP 0 rfl rfl 5 (by decide) (hts _ q4_17) (fun _ h9 => h9) rfl dX8_laysGrid_16 ?_
  refine lv_imul hx hb dX8_laysGrid_19 ?_
  refine lv_aload_n hx hb dX8_laysGrid_20 rfl (lv_at hl 0 rfl) ?_
  refine va_get (D := D) (ci := 8) (v := .int m_w) (C := RX8) (T := TX8) (N := 29) hx hb hts u_X8 hown hk.1 hP 0 rfl rfl 3 (by decide) (hts _ q4_15) (fun _ h9 => h9) rfl dX8_laysGrid_21 ?_
  refine lv_iadd hx hb dX8_laysGrid_24 ?_
  refine lv_aload_n hx hb dX8_laysGrid_25 rfl (lv_at hl 0 rfl) ?_
  refine va_get (D := D) (ci := 8) (v := .int m_h) (C := RX8) (T := TX8) (N := 29) hx hb hts u_X8 hown hk.1 hP 0 rfl rfl 4 (by decide) (hts _ q4_16) (fun _ h9 => h9) rfl dX8_laysGrid_26 ?_
  refine lv_iadd hx hb dX8_laysGrid_29 ?_
  refine va_put (D := D) (ci := 8) (v := .int (((2 * (m_w * m_h)) + m_w) + m_h)) (ty := .int) (C := RX8) (T := TX8) (N := 29) hx hb hts u_X8 tyX8 tyX8_ok nmX8 hown hk.1 hP (mw_D hAd) hS 0 rfl rfl 6 (by decide) (hts _ q4_18) (fun _ h9 => h9) rfl (tyX8_ok 6 (by decide)) rfl rfl (Nat.le_of_ble_eq_true rfl) dX8_laysGrid_30 (fun H locs hP _ hS => ?_)
  have hP : va_P D vwCl (mw ad cI cL cZ m_w m_h (m_w * m_h) (((2 * (m_w * m_h)) + m_w) + m_h) m_le m_un m_he m_ro m_wi m_hi m_hr m_hp m_rn m_rw m_rh m_n m_l m_b m_to m_hs m_ho m_tx m_ik m_wt m_ac m_ap m_pa m_im m_ri) H := hP
  refine lv_iconst (v := 0) hx hb dX8_laysGrid_33 (by decide) ?_
  refine lv_istore_n (lv' := [(1, .int 0), (0, .ref (ad 0))]) hx hb dX8_laysGrid_34 rfl hl (by decide) rfl (fun ls hl => ?_)
  refine lp_X8_laysGrid_35 l D cI cL cZ ad m_w m_h (m_w * m_h) (((2 * (m_w * m_h)) + m_w) + m_h) m_le m_un m_he m_ro m_wi m_hi m_hr m_hp m_rn m_rw m_rh m_n m_l m_b m_to m_hs m_ho m_tx m_ik m_wt m_pa m_im m_ri ⟨hx, hb, hml, hrt, hlocks, hown, hts, hk⟩ hAd _ _ (fun z1 z2 H locs ls hr hP hS hl => ?_) (fu 25 (0 : Int32)) 0 m_ac m_ap _ _ _ (fuU_0 (by decide)) hr hP hS (lv_sub hl [1, 0] rfl)
  refine lv_iconst (v := 0) hx hb dX8_laysGrid_71 (by decide) ?_
  refine lv_istore_n (lv' := [(1, .int 0), (0, .ref (ad 0))]) hx hb dX8_laysGrid_72 rfl hl (by decide) rfl (fun ls hl => ?_)
  refine lp_X8_laysGrid_73 l D cI cL cZ ad m_w m_h (m_w * m_h) (((2 * (m_w * m_h)) + m_w) + m_h) m_le m_un m_he m_ro m_wi m_hi m_hr m_hp m_rn m_rw m_rh m_n m_l m_b m_to m_hs m_tx m_ik m_wt m_pa m_im m_ri ⟨hx, hb, hml, hrt, hlocks, hown, hts, hk⟩ hAd hg _ _ (fun z7 z8 z9 H locs ls hr hP hS hl => ?_) (fue m_h (0 : Int32)) 0 m_ho z1 z2 _ _ _ (fuE_0 (by decide)) hr hP hS (lv_sub hl [1, 0] rfl)
  refine lv_iconst (v := 0) hx hb dX8_laysGrid_149 (by decide) ?_
  refine lv_istore_n (lv' := [(1, .int 0), (0, .ref (ad 0))]) hx hb dX8_laysGrid_150 rfl hl (by decide) rfl (fun ls hl => ?_)
  refine lp_X8_laysGrid_151 l D cI cL cZ ad m_w m_h (m_w * m_h) (((2 * (m_w * m_h)) + m_w) + m_h) m_le m_un m_he m_ro m_wi m_hi m_hr m_hp m_rn m_rw m_rh m_n m_l m_b m_to m_hs m_tx m_ik m_wt m_pa m_im m_ri ⟨hx, hb, hml, hrt, hlocks, hown, hts, hk⟩ hAd hg _ _ (fun z14 z15 z16 H locs ls hr hP hS hl => ?_) (fu m_h (0 : Int32)) 0 z7 z8 z9 _ _ _ (fuU_0 (by decide)) hr hP hS (lv_sub hl [1, 0] rfl)
  subst hr
  exact ret_v hx hb hrt hlocks hP hS dX8_laysGrid_227
