abbrev mG (w h c s : Int32) : Prop := wh w h ∧ c = w * h ∧ s = 2 * (w * h) + w + h
theorem mG_p {w h c s : Int32} (hg : mG w h c s) : (f_X8_points w h).toInt ≤ ((25 : Nat) : Int) := (wh_nums hg.1).1.2.2.2
theorem mG_c {w h c s : Int32} (hg : mG w h c s) : c.toInt ≤ ((16 : Nat) : Int) := by rw [hg.2.1]; exact (wh_nums hg.1).1.1.2
theorem mG_s {w h c s : Int32} (hg : mG w h c s) : s.toInt ≤ ((40 : Nat) : Int) := by rw [hg.2.2]; exact (wh_nums hg.1).1.2.1.2
theorem or_le (a b : Int64) : a.toBitVec.toNat ≤ (a ||| b).toBitVec.toNat := by
  rw [Int64.toBitVec_or, BitVec.toNat_or]
  exact Nat.left_le_or
abbrev chC (n : Nat) (b x : Int64) : Prop := 0 < n ∧ 18446744073709551616 - b.toBitVec.toNat < n ∧ b.toBitVec.toNat ≤ x.toBitVec.toNat
theorem ch_0 (x : Int64) : chC (18446744073709551617 - (0 : Int64).toBitVec.toNat) 0 x := ⟨by decide, by decide, Nat.zero_le _⟩
theorem ch_s {n : Nat} {b x z : Int64} (hf : chC (n + 1) b x) (hc : ¬ lg_cmp b x = 0) (hz : x.toBitVec.toNat ≤ z.toBitVec.toNat) : chC n x z := by
  obtain ⟨h1, h2, h3⟩ := hf
  rw [lg_cmp_eq] at hc
  have h4 : b.toBitVec.toNat ≠ x.toBitVec.toNat := fun q => hc (Int64.toBitVec_inj.mp (BitVec.eq_of_toNat_eq q))
  have h5 := x.toBitVec.isLt
  have h6 := b.toBitVec.isLt
  refine ⟨by omega, by omega, hz⟩
theorem ms_lt {s i : Int32} (h0 : 0 ≤ i.toInt) (h : ¬ s ≤ i) (hs : s.toInt ≤ ((40 : Nat) : Int)) : 0 ≤ i.toInt ∧ i.toInt < 40 := by
  have := lt_tt h
  exact ⟨h0, by omega⟩
abbrev pB (r p c s w h : Int32) : Prop := 0 ≤ p.toInt ∧ (r = 0 → p.toInt < c.toInt) ∧ (r = 1 → p.toInt < (f_X8_points w h).toInt) ∧ (¬ r = 0 → ¬ r = 1 → p.toInt < s.toInt)
abbrev pY (r y c s w h : Int32) : Prop := (r = 0 → y = c) ∧ (r = 1 → y = f_X8_points w h) ∧ (¬ r = 0 → ¬ r = 1 → y = s)
theorem pB_of {r y p c s w h : Int32} (hy : pY r y c s w h) (h0 : 0 ≤ p.toInt) (hp : ¬ y ≤ p) : pB r p c s w h := by
  have h1 := lt_tt hp
  exact ⟨h0, fun q => by rw [← hy.1 q]; exact h1, fun q => by rw [← hy.2.1 q]; exact h1, fun q q2 => by rw [← hy.2.2 q q2]; exact h1⟩
theorem pY_0 {r c s w h : Int32} (e : r = 0) : pY r c c s w h := ⟨fun _ => rfl, fun q => absurd (e.symm.trans q) (by decide), fun q => absurd e q⟩
theorem pY_1 {r c s w h : Int32} (e : r = 1) : pY r (f_X8_points w h) c s w h := ⟨fun q => absurd (e.symm.trans q) (by decide), fun _ => rfl, fun _ q => absurd e q⟩
theorem pY_2 {r c s w h : Int32} (e : ¬ r = 0) (e2 : ¬ r = 1) : pY r s c s w h := ⟨fun q => absurd q e, fun q => absurd q e2, fun _ _ => rfl⟩
theorem pB_0 {r p c s w h : Int32} (hg : mG w h c s) (hp : pB r p c s w h) (e : r = 0) : 0 ≤ p.toInt ∧ p.toInt < 16 := by
  have h1 := hp.2.1 e
  have h2 := mG_c hg
  exact ⟨hp.1, by omega⟩
theorem pB_1 {r p c s w h : Int32} (hg : mG w h c s) (hp : pB r p c s w h) (e : r = 1) : 0 ≤ p.toInt ∧ p.toInt < 25 := by
  have h1 := hp.2.2.1 e
  have h2 := mG_p hg
  exact ⟨hp.1, by omega⟩
theorem pB_2 {r p c s w h : Int32} (hg : mG w h c s) (hp : pB r p c s w h) (e : ¬ r = 0) (e2 : ¬ r = 1) : 0 ≤ p.toInt ∧ p.toInt < 40 := by
  have h1 := hp.2.2.2 e e2
  have h2 := mG_s hg
  exact ⟨hp.1, by omega⟩
theorem hd_X8_finds : yX8_finds.cls = RX8 ∧ yX8_finds.cls ≠ "java/lang/invoke/MethodHandle" ∧ yX8_finds.cls ≠ "java/lang/invoke/VarHandle" ∧ (parseMethodDescriptor yX8_finds.desc).map (fun d => d.parameters.length) = some 4 := by decide +kernel
def f_X8_finds (p1 : Int32) (p2 : Int32) (p3 : Int32) (p4 : Int64) : Int32 × Int32 × Int32 × Int32 × Int64 := (if p3 = 3 then (if p3 = 0 then (0, p3, p1, p2, 0) else (1, p3, p1, p2, 0)) else (if p3 = 0 then (0, p3, p1, p2, p4) else (1, p3, p1, p2, p4)))
set_option maxHeartbeats 4000000 in
set_option maxRecDepth 100000 in
theorem c_X8_finds (l : Launch) (D : va_G) (cI cL cZ : ClassId) (ad : Nat → Nat) (m_w m_h m_c m_s m_le m_un m_he m_ro m_wi m_hi m_hr m_hp m_rn m_rw m_rh : Int32) (m_n m_l m_b m_to m_hs : Int64) (m_ho m_tx m_ik m_wt : Nat → Int32) (m_ac m_ap m_pa m_im m_ri : Nat → Int64) (hAd : mInj ad) (p1 p2 p3 : Int32) (p4 : Int64) (r : Int32 × Int32 × Int32 × Int32 × Int64) (hr : f_X8_finds p1 p2 p3 p4 = r) : MZ l yX8_finds (Cond.code yX8_finds cX8_finds 6 (some .boolean) :: W0) 0 0 D cI cL cZ (mAd ad) [.ref (ad 0), .int p1, .int p2, .int p3, .long p4] (mw ad cI cL cZ m_w m_h m_c m_s m_le m_un m_he m_ro m_wi m_hi m_hr m_hp m_rn m_rw m_rh m_n m_l m_b m_to m_hs m_ho m_tx m_ik m_wt m_ac m_ap m_pa m_im m_ri) r.1 (mw ad cI cL cZ m_w m_h m_c m_s m_le m_un m_he m_ro m_wi r.2.1 r.2.2.1 r.2.2.2.1 m_rn m_rw m_rh m_n m_l m_b m_to r.2.2.2.2 m_ho m_tx m_ik m_wt m_ac m_ap m_pa m_im m_ri) := by
  refine mk_start (cc := cX8_finds) (maxL := 6) (ret := (some .boolean)) (by decide) rfl (Nat.le_of_ble_eq_true rfl) ?_
  intro p e s m below meth c ls C hP hS hl
  obtain ⟨hx, hb, hml, hrt, hlocks, hown, hts, hk⟩ := C
  have hown : s.vm.findClass RX8 = some m.cls := hown
  have hl : lv_has ls 6 [(0, .ref (ad 0)), (1, .int p1), (2, .int p2), (3, .int p3), (4, .long p4)] := hl
  rw [f_X8_finds] at hr
  refine lv_aload_n hx hb dX8_finds_0 rfl (lv_at hl 0 rfl) ?_
  refine lv_iload_n hx hb dX8_finds_1 rfl (lv_at hl 3 rfl) ?_
  refine va_put (D := D) (ci := 8) (v := .int p3) (ty := .int) (C := RX8) (T := TX8) (N := 29) hx hb hts u_X8 tyX8 tyX8_ok nmX8 hown hk.1 hP (mw_D hAd) hS 0 rfl rfl 20 (by decide) (hts _ q4_32) (fun _ h9 => h9) rfl (tyX8_ok 20 (by decide)) rfl rfl (Nat.le_of_ble_eq_true rfl) dX8_finds_2 (fun H locs hP _ hS => ?_)
  have hP : va_P D vwCl (mw ad cI cL cZ m_w m_h m_c m_s m_le m_un m_he m_ro m_wi p3 m_hr m_hp m_rn m_rw m_rh m_n m_l m_b m_to m_hs m_ho m_tx m_ik m_wt m_ac m_ap m_pa m_im m_ri) H := hP
  refine lv_aload_n hx hb dX8_finds_5 rfl (lv_at hl 0 rfl) ?_
  refine lv_iload_n hx hb dX8_finds_6 rfl (lv_at hl 1 rfl) ?_
  refine va_put (D := D) (ci := 8) (v := .int p1) (ty := .int) (C := RX8) (T := TX8) (N := 29) hx hb hts u_X8 tyX8 tyX8_ok nmX8 hown hk.1 hP (mw_D hAd) hS 0 rfl rfl 21 (by decide) (hts _ q4_33) (fun _ h9 => h9) rfl (tyX8_ok 21 (by decide)) rfl rfl (Nat.le_of_ble_eq_true rfl) dX8_finds_7 (fun H locs hP _ hS => ?_)
  have hP : va_P D vwCl (mw ad cI cL cZ m_w m_h m_c m_s m_le m_un m_he m_ro m_wi p3 p1 m_hp m_rn m_rw m_rh m_n m_l m_b m_to m_hs m_ho m_tx m_ik m_wt m_ac m_ap m_pa m_im m_ri) H := hP
  refine lv_aload_n hx hb dX8_finds_10 rfl (lv_at hl 0 rfl) ?_
  refine lv_iload_n hx hb dX8_finds_11 rfl (lv_at hl 2 rfl) ?_
  refine va_put (D := D) (ci := 8) (v := .int p2) (ty := .int) (C := RX8) (T := TX8) (N := 29) hx hb hts u_X8 tyX8 tyX8_ok nmX8 hown hk.1 hP (mw_D hAd) hS 0 rfl rfl 22 (by decide) (hts _ q4_34) (fun _ h9 => h9) rfl (tyX8_ok 22 (by decide)) rfl rfl (Nat.le_of_ble_eq_true rfl) dX8_finds_12 (fun H locs hP _ hS => ?_)
  have hP : va_P D vwCl (mw ad cI cL cZ m_w m_h m_c m_s m_le m_un m_he m_ro m_wi p3 p1 p2 m_rn m_rw m_rh m_n m_l m_b m_to m_hs m_ho m_tx m_ik m_wt m_ac m_ap m_pa m_im m_ri) H := hP
  refine lv_aload_n hx hb dX8_finds_15 rfl (lv_at hl 0 rfl) ?_
  refine lv_iload_n hx hb dX8_finds_16 rfl (lv_at hl 3 rfl) ?_
  refine lv_iconst (v := 3) hx hb dX8_finds_17 (by decide) ?_
  refine lv_icmp_ne (tgt := 25) hx hb dX8_finds_18 (by decide) (fun c18 => ?_) (fun c18 => ?_)
  · have hr := (if_neg c18).symm.trans hr
    refine lv_lload hx hb dX8_finds_25 (lv_at hl 4 rfl) ?_
    refine va_put (D := D) (ci := 8) (v := .long p4) (ty := .long) (C := RX8) (T := TX8) (N := 29) hx hb hts u_X8 tyX8 tyX8_ok nmX8 hown hk.1 hP (mw_D hAd) hS 0 rfl rfl 23 (by decide) (hts _ q4_35) (fun _ h9 => h9) rfl (tyX8_ok 23 (by decide)) rfl rfl (Nat.le_of_ble_eq_true rfl) dX8_finds_27 (fun H locs hP _ hS => ?_)
    have hP : va_P D vwCl (mw ad cI cL cZ m_w m_h m_c m_s m_le m_un m_he m_ro m_wi p3 p1 p2 m_rn m_rw m_rh m_n m_l m_b m_to p4 m_ho m_tx m_ik m_wt m_ac m_ap m_pa m_im m_ri) H := hP
    refine lv_iload_n hx hb dX8_finds_30 rfl (lv_at hl 3 rfl) ?_
    refine lv_if_eq (tgt := 38) hx hb dX8_finds_31 (by decide) (fun c31 => ?_) (fun c31 => ?_)
    · have hr := (if_pos c31).symm.trans hr
      refine lv_iconst (v := 0) hx hb dX8_finds_38 (by decide) ?_
      subst hr
      exact ret_z hx hb hrt hlocks bz_0 hP hS dX8_finds_39
    · have hr := (if_neg c31).symm.trans hr
      refine lv_iconst (v := 1) hx hb dX8_finds_34 (by decide) ?_
      refine lv_goto (tgt := 39) hx hb dX8_finds_35 (by decide) ?_
      subst hr
      exact ret_z hx hb hrt hlocks bz_1 hP hS dX8_finds_39
  · have hr := (if_pos c18).symm.trans hr
    refine lv_lconst (v := 0) hx hb dX8_finds_21 (by decide) ?_
    refine lv_goto (tgt := 27) hx hb dX8_finds_22 (by decide) ?_
    refine va_put (D := D) (ci := 8) (v := .long 0) (ty := .long) (C := RX8) (T := TX8) (N := 29) hx hb hts u_X8 tyX8 tyX8_ok nmX8 hown hk.1 hP (mw_D hAd) hS 0 rfl rfl 23 (by decide) (hts _ q4_35) (fun _ h9 => h9) rfl (tyX8_ok 23 (by decide)) rfl rfl (Nat.le_of_ble_eq_true rfl) dX8_finds_27 (fun H locs hP _ hS => ?_)
    have hP : va_P D vwCl (mw ad cI cL cZ m_w m_h m_c m_s m_le m_un m_he m_ro m_wi p3 p1 p2 m_rn m_rw m_rh m_n m_l m_b m_to 0 m_ho m_tx m_ik m_wt m_ac m_ap m_pa m_im m_ri) H := hP
    refine lv_iload_n hx hb dX8_finds_30 rfl (lv_at hl 3 rfl) ?_
    refine lv_if_eq (tgt := 38) hx hb dX8_finds_31 (by decide) (fun c31 => ?_) (fun c31 => ?_)
    · have hr := (if_pos c31).symm.trans hr
      refine lv_iconst (v := 0) hx hb dX8_finds_38 (by decide) ?_
      subst hr
      exact ret_z hx hb hrt hlocks bz_0 hP hS dX8_finds_39
    · have hr := (if_neg c31).symm.trans hr
      refine lv_iconst (v := 1) hx hb dX8_finds_34 (by decide) ?_
      refine lv_goto (tgt := 39) hx hb dX8_finds_35 (by decide) ?_
      subst hr
      exact ret_z hx hb hrt hlocks bz_1 hP hS dX8_finds_39
theorem hd_X8_atCells : yX8_atCells.cls = RX8 ∧ yX8_atCells.cls ≠ "java/lang/invoke/MethodHandle" ∧ yX8_atCells.cls ≠ "java/lang/invoke/VarHandle" ∧ (parseMethodDescriptor yX8_atCells.desc).map (fun d => d.parameters.length) = some 1 := by decide +kernel
def f_X8_atCells (p1 : Int32) (m_s : Int32) (m_hi : Int32) (m_hr : Int32) (m_hp : Int32) (m_n : Int64) (m_l : Int64) (m_b : Int64) (m_hs : Int64) (m_ac : Nat → Int64) : Int32 × Int32 × Int32 × Int32 × Int64 := (if (f_X8_numberAt p1 m_n) = 5 then (0, m_hi, m_hr, m_hp, m_hs) else (if (f_X8_numberAt p1 m_n) < (f_X8_ones ((m_ac p1.toNatClampNeg) &&& m_l)) then (bd (f_X8_finds 0 p1 3 ((m_ac p1.toNatClampNeg) &&& (f_X8_open m_s m_l m_b))) (fun u1 => (u1.1, u1.2.1, u1.2.2.1, u1.2.2.2.1, u1.2.2.2.2))) else (if (f_X8_numberAt p1 m_n) ≤ ((f_X8_ones ((m_ac p1.toNatClampNeg) &&& m_l)) + (f_X8_ones ((m_ac p1.toNatClampNeg) &&& (f_X8_open m_s m_l m_b)))) then (if (f_X8_ones ((m_ac p1.toNatClampNeg) &&& (f_X8_open m_s m_l m_b))) = 0 then (bd (f_X8_finds 0 p1 0 ((m_ac p1.toNatClampNeg) &&& (f_X8_open m_s m_l m_b))) (fun u5 => (u5.1, u5.2.1, u5.2.2.1, u5.2.2.2.1, u5.2.2.2.2))) else (if (f_X8_ones ((m_ac p1.toNatClampNeg) &&& m_l)) = (f_X8_numberAt p1 m_n) then (bd (f_X8_finds 0 p1 1 ((m_ac p1.toNatClampNeg) &&& (f_X8_open m_s m_l m_b))) (fun u4 => (u4.1, u4.2.1, u4.2.2.1, u4.2.2.2.1, u4.2.2.2.2))) else (if ((f_X8_ones ((m_ac p1.toNatClampNeg) &&& m_l)) + (f_X8_ones ((m_ac p1.toNatClampNeg) &&& (f_X8_open m_s m_l m_b)))) = (f_X8_numberAt p1 m_n) then (bd (f_X8_finds 0 p1 2 ((m_ac p1.toNatClampNeg) &&& (f_X8_open m_s m_l m_b))) (fun u3 => (u3.1, u3.2.1, u3.2.2.1, u3.2.2.2.1, u3.2.2.2.2))) else (bd (f_X8_finds 0 p1 0 ((m_ac p1.toNatClampNeg) &&& (f_X8_open m_s m_l m_b))) (fun u2 => (u2.1, u2.2.1, u2.2.2.1, u2.2.2.2.1, u2.2.2.2.2)))))) else (bd (f_X8_finds 0 p1 3 ((m_ac p1.toNatClampNeg) &&& (f_X8_open m_s m_l m_b))) (fun u6 => (u6.1, u6.2.1, u6.2.2.1, u6.2.2.2.1, u6.2.2.2.2))))))
set_option maxHeartbeats 4000000 in
set_option maxRecDepth 100000 in
theorem c_X8_atCells (l : Launch) (D : va_G) (cI cL cZ : ClassId) (ad : Nat → Nat) (m_w m_h m_c m_s m_le m_un m_he m_ro m_wi m_hi m_hr m_hp m_rn m_rw m_rh : Int32) (m_n m_l m_b m_to m_hs : Int64) (m_ho m_tx m_ik m_wt : Nat → Int32) (m_ac m_ap m_pa m_im m_ri : Nat → Int64) (hAd : mInj ad) (p1 : Int32) (r : Int32 × Int32 × Int32 × Int32 × Int64) (hr : f_X8_atCells p1 m_s m_hi m_hr m_hp m_n m_l m_b m_hs m_ac = r) (hp : 0 ≤ p1.toInt ∧ p1.toInt < 16) : MZ l yX8_atCells (Cond.code yX8_atCells cX8_atCells 7 (some .boolean) :: W0) 2 40 D cI cL cZ (mAd ad) [.ref (ad 0), .int p1] (mw ad cI cL cZ m_w m_h m_c m_s m_le m_un m_he m_ro m_wi m_hi m_hr m_hp m_rn m_rw m_rh m_n m_l m_b m_to m_hs m_ho m_tx m_ik m_wt m_ac m_ap m_pa m_im m_ri) r.1 (mw ad cI cL cZ m_w m_h m_c m_s m_le m_un m_he m_ro m_wi r.2.1 r.2.2.1 r.2.2.2.1 m_rn m_rw m_rh m_n m_l m_b m_to r.2.2.2.2 m_ho m_tx m_ik m_wt m_ac m_ap m_pa m_im m_ri) := by
  refine mk_start (cc := cX8_atCells) (maxL := 7) (ret := (some .boolean)) (by decide) rfl (Nat.le_of_ble_eq_true rfl) ?_
  intro p e s m below meth c ls C hP hS hl
  obtain ⟨hx, hb, hml, hrt, hlocks, hown, hts, hk⟩ := C
  have hown : s.vm.findClass RX8 = some m.cls := hown
  have hl : lv_has ls 7 [(0, .ref (ad 0)), (1, .int p1)] := hl
  rw [f_X8_atCells] at hr
  refine lv_aload_n hx hb dX8_atCells_0 rfl (lv_at hl 0 rfl) ?_
  refine lv_iload_n hx hb dX8_atCells_1 rfl (lv_at hl 1 rfl) ?_
  refine go_i (ru_V (n := 1) ⟨hx, hb, hml, hown, hts⟩ hk hP (c_X8_numberAt l D cI cL cZ ad m_w m_h m_c m_s m_le m_un m_he m_ro m_wi m_hi m_hr m_hp m_rn m_rw m_rh m_n m_l m_b m_to m_hs m_ho m_tx m_ik m_wt m_ac m_ap m_pa m_im m_ri hAd p1 _ rfl) (cwV 1 hts (gV q4_140 q4_142 qs3_9 q1_11 q4_143) rfl rfl rfl hd_X8_numberAt ⟨Nat.le_of_ble_eq_true rfl, Nat.le_of_ble_eq_true rfl⟩) (va_recv hk.1 hP (ci := 8) (q0 := 0) rfl rfl) rfl hl.1 rfl (Nat.le_of_ble_eq_true rfl) dX8_atCells_2 ⟨Nat.zero_le _, Nat.zero_le _⟩) hS (fun _ h => h) (fun H locs hP hS => ?_)
  have hP : va_P D vwCl (mw ad cI cL cZ m_w m_h m_c m_s m_le m_un m_he m_ro m_wi m_hi m_hr m_hp m_rn m_rw m_rh m_n m_l m_b m_to m_hs m_ho m_tx m_ik m_wt m_ac m_ap m_pa m_im m_ri) H := hP
  refine lv_istore_n (lv' := [(2, .int (f_X8_numberAt p1 m_n)), (0, .ref (ad 0)), (1, .int p1)]) hx hb dX8_atCells_5 rfl hl (by decide) rfl (fun ls hl => ?_)
  refine lv_aload_n hx hb dX8_atCells_6 rfl (lv_at hl 1 rfl) ?_
  refine va_get (D := D) (ci := 8) (v := .ref (ad 1)) (C := RX8) (T := TX8) (N := 29) hx hb hts u_X8 hown hk.1 hP 0 rfl rfl 7 (by decide) (hts _ q4_19) (fun _ h9 => h9) rfl dX8_atCells_7 ?_
  refine lv_iload_n hx hb dX8_atCells_10 rfl (lv_at hl 2 rfl) ?_
  refine va_lald hx hb hk.1 hP 1 1 (rfl) rfl (vin hp.1 hp.2) dX8_atCells_11 ?_
  refine lv_aload_n hx hb dX8_atCells_12 rfl (lv_at hl 1 rfl) ?_
  refine va_get (D := D) (ci := 8) (v := .long m_l) (C := RX8) (T := TX8) (N := 29) hx hb hts u_X8 hown hk.1 hP 0 rfl rfl 1 (by decide) (hts _ q4_13) (fun _ h9 => h9) rfl dX8_atCells_13 ?_
  refine lv_land hx hb dX8_atCells_16 ?_
  refine go_i (ru_S (n := 1) ⟨hx, hb, hml, hown, hts⟩ hk hP (c_X8_ones l D cI cL cZ (mAd ad) (mw ad cI cL cZ m_w m_h m_c m_s m_le m_un m_he m_ro m_wi m_hi m_hr m_hp m_rn m_rw m_rh m_n m_l m_b m_to m_hs m_ho m_tx m_ik m_wt m_ac m_ap m_pa m_im m_ri) ((m_ac p1.toNatClampNeg) &&& m_l) _ rfl) (va_cwS 1 hts (gS q4_213 q4_214 q1_11 q4_215) rfl rfl rfl hd_X8_ones ⟨Nat.le_of_ble_eq_true rfl, Nat.le_of_ble_eq_true rfl⟩) rfl hl.1 rfl (Nat.le_of_ble_eq_true rfl) dX8_atCells_17 ⟨Nat.zero_le _, Nat.zero_le _⟩) hS (fun _ h => h) (fun H locs hP hS => ?_)
  have hP : va_P D vwCl (mw ad cI cL cZ m_w m_h m_c m_s m_le m_un m_he m_ro m_wi m_hi m_hr m_hp m_rn m_rw m_rh m_n m_l m_b m_to m_hs m_ho m_tx m_ik m_wt m_ac m_ap m_pa m_im m_ri) H := hP
  refine lv_istore_n (lv' := [(3, .int (f_X8_ones ((m_ac p1.toNatClampNeg) &&& m_l))), (2, .int (f_X8_numberAt p1 m_n)), (0, .ref (ad 0)), (1, .int p1)]) hx hb dX8_atCells_20 rfl hl (by decide) rfl (fun ls hl => ?_)
  refine lv_aload_n hx hb dX8_atCells_21 rfl (lv_at hl 2 rfl) ?_
  refine va_get (D := D) (ci := 8) (v := .ref (ad 1)) (C := RX8) (T := TX8) (N := 29) hx hb hts u_X8 hown hk.1 hP 0 rfl rfl 7 (by decide) (hts _ q4_19) (fun _ h9 => h9) rfl dX8_atCells_22 ?_
  refine lv_iload_n hx hb dX8_atCells_25 rfl (lv_at hl 3 rfl) ?_
  refine va_lald hx hb hk.1 hP 1 1 (rfl) rfl (vin hp.1 hp.2) dX8_atCells_26 ?_
  refine lv_aload_n hx hb dX8_atCells_27 rfl (lv_at hl 2 rfl) ?_
  refine go_l (ru_V (n := 0) ⟨hx, hb, hml, hown, hts⟩ hk hP (c_X8_open l D cI cL cZ ad m_w m_h m_c m_s m_le m_un m_he m_ro m_wi m_hi m_hr m_hp m_rn m_rw m_rh m_n m_l m_b m_to m_hs m_ho m_tx m_ik m_wt m_ac m_ap m_pa m_im m_ri hAd _ rfl) (cwV 0 hts (gV q4_216 q4_218 qs4_4 q1_11 q4_219) rfl rfl rfl hd_X8_open ⟨Nat.le_of_ble_eq_true rfl, Nat.le_of_ble_eq_true rfl⟩) (va_recv hk.1 hP (ci := 8) (q0 := 0) rfl rfl) rfl hl.1 rfl (Nat.le_of_ble_eq_true rfl) dX8_atCells_28 ⟨Nat.zero_le _, Nat.zero_le _⟩) hS (fun _ h => h) (fun H locs hP hS => ?_)
  have hP : va_P D vwCl (mw ad cI cL cZ m_w m_h m_c m_s m_le m_un m_he m_ro m_wi m_hi m_hr m_hp m_rn m_rw m_rh m_n m_l m_b m_to m_hs m_ho m_tx m_ik m_wt m_ac m_ap m_pa m_im m_ri) H := hP
  refine lv_land hx hb dX8_atCells_31 ?_
  refine lv_lstore (lv' := [(4, .long ((m_ac p1.toNatClampNeg) &&& (f_X8_open m_s m_l m_b))), (3, .int (f_X8_ones ((m_ac p1.toNatClampNeg) &&& m_l))), (2, .int (f_X8_numberAt p1 m_n)), (0, .ref (ad 0)), (1, .int p1)]) hx hb dX8_atCells_32 hl (by decide) rfl (fun ls hl => ?_)
  refine lv_lload hx hb dX8_atCells_34 (lv_at hl 0 rfl) ?_
  refine go_i (ru_S (n := 1) ⟨hx, hb, hml, hown, hts⟩ hk hP (c_X8_ones l D cI cL cZ (mAd ad) (mw ad cI cL cZ m_w m_h m_c m_s m_le m_un m_he m_ro m_wi m_hi m_hr m_hp m_rn m_rw m_rh m_n m_l m_b m_to m_hs m_ho m_tx m_ik m_wt m_ac m_ap m_pa m_im m_ri) ((m_ac p1.toNatClampNeg) &&& (f_X8_open m_s m_l m_b)) _ rfl) (va_cwS 1 hts (gS q4_213 q4_214 q1_11 q4_215) rfl rfl rfl hd_X8_ones ⟨Nat.le_of_ble_eq_true rfl, Nat.le_of_ble_eq_true rfl⟩) rfl hl.1 rfl (Nat.le_of_ble_eq_true rfl) dX8_atCells_36 ⟨Nat.zero_le _, Nat.zero_le _⟩) hS (fun _ h => h) (fun H locs hP hS => ?_)
  have hP : va_P D vwCl (mw ad cI cL cZ m_w m_h m_c m_s m_le m_un m_he m_ro m_wi m_hi m_hr m_hp m_rn m_rw m_rh m_n m_l m_b m_to m_hs m_ho m_tx m_ik m_wt m_ac m_ap m_pa m_im m_ri) H := hP
  refine lv_istore (lv' := [(6, .int (f_X8_ones ((m_ac p1.toNatClampNeg) &&& (f_X8_open m_s m_l m_b)))), (4, .long ((m_ac p1.toNatClampNeg) &&& (f_X8_open m_s m_l m_b))), (3, .int (f_X8_ones ((m_ac p1.toNatClampNeg) &&& m_l))), (2, .int (f_X8_numberAt p1 m_n)), (0, .ref (ad 0)), (1, .int p1)]) hx hb dX8_atCells_39 hl (by decide) rfl (fun ls hl => ?_)
  refine lv_iload_n hx hb dX8_atCells_41 rfl (lv_at hl 3 rfl) ?_
  refine lv_iconst (v := 5) hx hb dX8_atCells_42 (by decide) ?_
  refine lv_icmp_ne (tgt := 48) hx hb dX8_atCells_43 (by decide) (fun c43 => ?_) (fun c43 => ?_)
  · have hr := (if_neg c43).symm.trans hr
    refine lv_aload_n hx hb dX8_atCells_48 rfl (lv_at hl 4 rfl) ?_
    refine lv_iconst (v := 0) hx hb dX8_atCells_49 (by decide) ?_
    refine lv_iload_n hx hb dX8_atCells_50 rfl (lv_at hl 5 rfl) ?_
    refine lv_iload_n hx hb dX8_atCells_51 rfl (lv_at hl 2 rfl) ?_
    refine lv_iload_n hx hb dX8_atCells_52 rfl (lv_at hl 3 rfl) ?_
    refine lv_icmp_gt (tgt := 64) hx hb dX8_atCells_53 (by decide) (fun c53 => ?_) (fun c53 => ?_)
    · have hr := (if_pos c53).symm.trans hr
      refine lv_iconst (v := 3) hx hb dX8_atCells_64 (by decide) ?_
      refine lv_goto (tgt := 99) hx hb dX8_atCells_65 (by decide) ?_
      refine lv_lload hx hb dX8_atCells_99 (lv_at hl 1 rfl) ?_
      obtain ⟨u1, hu1⟩ : ∃ z, f_X8_finds 0 p1 3 ((m_ac p1.toNatClampNeg) &&& (f_X8_open m_s m_l m_b)) = z := ⟨_, rfl⟩
      have hr := (bd_eq hu1).symm.trans hr
      refine go_z (ru_V (n := 4) ⟨hx, hb, hml, hown, hts⟩ hk hP (c_X8_finds l D cI cL cZ ad m_w m_h m_c m_s m_le m_un m_he m_ro m_wi m_hi m_hr m_hp m_rn m_rw m_rh m_n m_l m_b m_to m_hs m_ho m_tx m_ik m_wt m_ac m_ap m_pa m_im m_ri hAd 0 p1 3 ((m_ac p1.toNatClampNeg) &&& (f_X8_open m_s m_l m_b)) _ hu1) (cwV 4 hts (gV q4_224 q4_226 qs4_6 q1_11 q4_227) rfl rfl rfl hd_X8_finds ⟨Nat.le_of_ble_eq_true rfl, Nat.le_of_ble_eq_true rfl⟩) (va_recv hk.1 hP (ci := 8) (q0 := 0) rfl rfl) rfl hl.1 rfl (Nat.le_of_ble_eq_true rfl) dX8_atCells_101 ⟨Nat.zero_le _, Nat.zero_le _⟩) hS (fun _ h => h) (fun H locs hz101 hP hS => ?_)
      have hP : va_P D vwCl (mw ad cI cL cZ m_w m_h m_c m_s m_le m_un m_he m_ro m_wi u1.2.1 u1.2.2.1 u1.2.2.2.1 m_rn m_rw m_rh m_n m_l m_b m_to u1.2.2.2.2 m_ho m_tx m_ik m_wt m_ac m_ap m_pa m_im m_ri) H := hP
      subst hr
      exact ret_z hx hb hrt hlocks (by first | assumption | exact bz_ok (by assumption)) hP hS dX8_atCells_104
    · have hr := (if_neg c53).symm.trans hr
      refine lv_iload_n hx hb dX8_atCells_56 rfl (lv_at hl 2 rfl) ?_
      refine lv_iload hx hb dX8_atCells_57 (lv_at hl 0 rfl) ?_
      refine lv_iadd hx hb dX8_atCells_59 ?_
      refine lv_iload_n hx hb dX8_atCells_60 rfl (lv_at hl 3 rfl) ?_
      refine lv_icmp_ge (tgt := 68) hx hb dX8_atCells_61 (by decide) (fun c61 => ?_) (fun c61 => ?_)
      · have hr := (if_pos c61).symm.trans hr
        refine lv_iload hx hb dX8_atCells_68 (lv_at hl 0 rfl) ?_
        refine lv_if_ne (tgt := 77) hx hb dX8_atCells_70 (by decide) (fun c70 => ?_) (fun c70 => ?_)
        · have hr := (if_neg c70).symm.trans hr
          refine lv_iload_n hx hb dX8_atCells_77 rfl (lv_at hl 2 rfl) ?_
          refine lv_iload_n hx hb dX8_atCells_78 rfl (lv_at hl 3 rfl) ?_
          refine lv_icmp_ne (tgt := 86) hx hb dX8_atCells_79 (by decide) (fun c79 => ?_) (fun c79 => ?_)
          · have hr := (if_neg c79).symm.trans hr
            refine lv_iload_n hx hb dX8_atCells_86 rfl (lv_at hl 2 rfl) ?_
            refine lv_iload hx hb dX8_atCells_87 (lv_at hl 0 rfl) ?_
            refine lv_iadd hx hb dX8_atCells_89 ?_
            refine lv_iload_n hx hb dX8_atCells_90 rfl (lv_at hl 3 rfl) ?_
            refine lv_icmp_ne (tgt := 98) hx hb dX8_atCells_91 (by decide) (fun c91 => ?_) (fun c91 => ?_)
            · have hr := (if_neg c91).symm.trans hr
              refine lv_iconst (v := 0) hx hb dX8_atCells_98 (by decide) ?_
              refine lv_lload hx hb dX8_atCells_99 (lv_at hl 1 rfl) ?_
              obtain ⟨u2, hu2⟩ : ∃ z, f_X8_finds 0 p1 0 ((m_ac p1.toNatClampNeg) &&& (f_X8_open m_s m_l m_b)) = z := ⟨_, rfl⟩
              have hr := (bd_eq hu2).symm.trans hr
              refine go_z (ru_V (n := 4) ⟨hx, hb, hml, hown, hts⟩ hk hP (c_X8_finds l D cI cL cZ ad m_w m_h m_c m_s m_le m_un m_he m_ro m_wi m_hi m_hr m_hp m_rn m_rw m_rh m_n m_l m_b m_to m_hs m_ho m_tx m_ik m_wt m_ac m_ap m_pa m_im m_ri hAd 0 p1 0 ((m_ac p1.toNatClampNeg) &&& (f_X8_open m_s m_l m_b)) _ hu2) (cwV 4 hts (gV q4_224 q4_226 qs4_6 q1_11 q4_227) rfl rfl rfl hd_X8_finds ⟨Nat.le_of_ble_eq_true rfl, Nat.le_of_ble_eq_true rfl⟩) (va_recv hk.1 hP (ci := 8) (q0 := 0) rfl rfl) rfl hl.1 rfl (Nat.le_of_ble_eq_true rfl) dX8_atCells_101 ⟨Nat.zero_le _, Nat.zero_le _⟩) hS (fun _ h => h) (fun H locs hz101 hP hS => ?_)
              have hP : va_P D vwCl (mw ad cI cL cZ m_w m_h m_c m_s m_le m_un m_he m_ro m_wi u2.2.1 u2.2.2.1 u2.2.2.2.1 m_rn m_rw m_rh m_n m_l m_b m_to u2.2.2.2.2 m_ho m_tx m_ik m_wt m_ac m_ap m_pa m_im m_ri) H := hP
              subst hr
              exact ret_z hx hb hrt hlocks (by first | assumption | exact bz_ok (by assumption)) hP hS dX8_atCells_104
            · have hr := (if_pos c91).symm.trans hr
              refine lv_iconst (v := 2) hx hb dX8_atCells_94 (by decide) ?_
              refine lv_goto (tgt := 99) hx hb dX8_atCells_95 (by decide) ?_
              refine lv_lload hx hb dX8_atCells_99 (lv_at hl 1 rfl) ?_
              obtain ⟨u3, hu3⟩ : ∃ z, f_X8_finds 0 p1 2 ((m_ac p1.toNatClampNeg) &&& (f_X8_open m_s m_l m_b)) = z := ⟨_, rfl⟩
              have hr := (bd_eq hu3).symm.trans hr
              refine go_z (ru_V (n := 4) ⟨hx, hb, hml, hown, hts⟩ hk hP (c_X8_finds l D cI cL cZ ad m_w m_h m_c m_s m_le m_un m_he m_ro m_wi m_hi m_hr m_hp m_rn m_rw m_rh m_n m_l m_b m_to m_hs m_ho m_tx m_ik m_wt m_ac m_ap m_pa m_im m_ri hAd 0 p1 2 ((m_ac p1.toNatClampNeg) &&& (f_X8_open m_s m_l m_b)) _ hu3) (cwV 4 hts (gV q4_224 q4_226 qs4_6 q1_11 q4_227) rfl rfl rfl hd_X8_finds ⟨Nat.le_of_ble_eq_true rfl, Nat.le_of_ble_eq_true rfl⟩) (va_recv hk.1 hP (ci := 8) (q0 := 0) rfl rfl) rfl hl.1 rfl (Nat.le_of_ble_eq_true rfl) dX8_atCells_101 ⟨Nat.zero_le _, Nat.zero_le _⟩) hS (fun _ h => h) (fun H locs hz101 hP hS => ?_)
              have hP : va_P D vwCl (mw ad cI cL cZ m_w m_h m_c m_s m_le m_un m_he m_ro m_wi u3.2.1 u3.2.2.1 u3.2.2.2.1 m_rn m_rw m_rh m_n m_l m_b m_to u3.2.2.2.2 m_ho m_tx m_ik m_wt m_ac m_ap m_pa m_im m_ri) H := hP
              subst hr
              exact ret_z hx hb hrt hlocks (by first | assumption | exact bz_ok (by assumption)) hP hS dX8_atCells_104
          · have hr := (if_pos c79).symm.trans hr
            refine lv_iconst (v := 1) hx hb dX8_atCells_82 (by decide) ?_
            refine lv_goto (tgt := 99) hx hb dX8_atCells_83 (by decide) ?_
            refine lv_lload hx hb dX8_atCells_99 (lv_at hl 1 rfl) ?_
            obtain ⟨u4, hu4⟩ : ∃ z, f_X8_finds 0 p1 1 ((m_ac p1.toNatClampNeg) &&& (f_X8_open m_s m_l m_b)) = z := ⟨_, rfl⟩
            have hr := (bd_eq hu4).symm.trans hr
            refine go_z (ru_V (n := 4) ⟨hx, hb, hml, hown, hts⟩ hk hP (c_X8_finds l D cI cL cZ ad m_w m_h m_c m_s m_le m_un m_he m_ro m_wi m_hi m_hr m_hp m_rn m_rw m_rh m_n m_l m_b m_to m_hs m_ho m_tx m_ik m_wt m_ac m_ap m_pa m_im m_ri hAd 0 p1 1 ((m_ac p1.toNatClampNeg) &&& (f_X8_open m_s m_l m_b)) _ hu4) (cwV 4 hts (gV q4_224 q4_226 qs4_6 q1_11 q4_227) rfl rfl rfl hd_X8_finds ⟨Nat.le_of_ble_eq_true rfl, Nat.le_of_ble_eq_true rfl⟩) (va_recv hk.1 hP (ci := 8) (q0 := 0) rfl rfl) rfl hl.1 rfl (Nat.le_of_ble_eq_true rfl) dX8_atCells_101 ⟨Nat.zero_le _, Nat.zero_le _⟩) hS (fun _ h => h) (fun H locs hz101 hP hS => ?_)
            have hP : va_P D vwCl (mw ad cI cL cZ m_w m_h m_c m_s m_le m_un m_he m_ro m_wi u4.2.1 u4.2.2.1 u4.2.2.2.1 m_rn m_rw m_rh m_n m_l m_b m_to u4.2.2.2.2 m_ho m_tx m_ik m_wt m_ac m_ap m_pa m_im m_ri) H := hP
            subst hr
            exact ret_z hx hb hrt hlocks (by first | assumption | exact bz_ok (by assumption)) hP hS dX8_atCells_104
        · have hr := (if_pos c70).symm.trans hr
          refine lv_iconst (v := 0) hx hb dX8_atCells_73 (by decide) ?_
          refine lv_goto (tgt := 99) hx hb dX8_atCells_74 (by decide) ?_
          refine lv_lload hx hb dX8_atCells_99 (lv_at hl 1 rfl) ?_
          obtain ⟨u5, hu5⟩ : ∃ z, f_X8_finds 0 p1 0 ((m_ac p1.toNatClampNeg) &&& (f_X8_open m_s m_l m_b)) = z := ⟨_, rfl⟩
          have hr := (bd_eq hu5).symm.trans hr
          refine go_z (ru_V (n := 4) ⟨hx, hb, hml, hown, hts⟩ hk hP (c_X8_finds l D cI cL cZ ad m_w m_h m_c m_s m_le m_un m_he m_ro m_wi m_hi m_hr m_hp m_rn m_rw m_rh m_n m_l m_b m_to m_hs m_ho m_tx m_ik m_wt m_ac m_ap m_pa m_im m_ri hAd 0 p1 0 ((m_ac p1.toNatClampNeg) &&& (f_X8_open m_s m_l m_b)) _ hu5) (cwV 4 hts (gV q4_224 q4_226 qs4_6 q1_11 q4_227) rfl rfl rfl hd_X8_finds ⟨Nat.le_of_ble_eq_true rfl, Nat.le_of_ble_eq_true rfl⟩) (va_recv hk.1 hP (ci := 8) (q0 := 0) rfl rfl) rfl hl.1 rfl (Nat.le_of_ble_eq_true rfl) dX8_atCells_101 ⟨Nat.zero_le _, Nat.zero_le _⟩) hS (fun _ h => h) (fun H locs hz101 hP hS => ?_)
          have hP : va_P D vwCl (mw ad cI cL cZ m_w m_h m_c m_s m_le m_un m_he m_ro m_wi u5.2.1 u5.2.2.1 u5.2.2.2.1 m_rn m_rw m_rh m_n m_l m_b m_to u5.2.2.2.2 m_ho m_tx m_ik m_wt m_ac m_ap m_pa m_im m_ri) H := hP
          subst hr
          exact ret_z hx hb hrt hlocks (by first | assumption | exact bz_ok (by assumption)) hP hS dX8_atCells_104
      · have hr := (if_neg c61).symm.trans hr
        refine lv_iconst (v := 3) hx hb dX8_atCells_64 (by decide) ?_
        refine lv_goto (tgt := 99) hx hb dX8_atCells_65 (by decide) ?_
        refine lv_lload hx hb dX8_atCells_99 (lv_at hl 1 rfl) ?_
        obtain ⟨u6, hu6⟩ : ∃ z, f_X8_finds 0 p1 3 ((m_ac p1.toNatClampNeg) &&& (f_X8_open m_s m_l m_b)) = z := ⟨_, rfl⟩
        have hr := (bd_eq hu6).symm.trans hr
        refine go_z (ru_V (n := 4) ⟨hx, hb, hml, hown, hts⟩ hk hP (c_X8_finds l D cI cL cZ ad m_w m_h m_c m_s m_le m_un m_he m_ro m_wi m_hi m_hr m_hp m_rn m_rw m_rh m_n m_l m_b m_to m_hs m_ho m_tx m_ik m_wt m_ac m_ap m_pa m_im m_ri hAd 0 p1 3 ((m_ac p1.toNatClampNeg) &&& (f_X8_open m_s m_l m_b)) _ hu6) (cwV 4 hts (gV q4_224 q4_226 qs4_6 q1_11 q4_227) rfl rfl rfl hd_X8_finds ⟨Nat.le_of_ble_eq_true rfl, Nat.le_of_ble_eq_true rfl⟩) (va_recv hk.1 hP (ci := 8) (q0 := 0) rfl rfl) rfl hl.1 rfl (Nat.le_of_ble_eq_true rfl) dX8_atCells_101 ⟨Nat.zero_le _, Nat.zero_le _⟩) hS (fun _ h => h) (fun H locs hz101 hP hS => ?_)
        have hP : va_P D vwCl (mw ad cI cL cZ m_w m_h m_c m_s m_le m_un m_he m_ro m_wi u6.2.1 u6.2.2.1 u6.2.2.2.1 m_rn m_rw m_rh m_n m_l m_b m_to u6.2.2.2.2 m_ho m_tx m_ik m_wt m_ac m_ap m_pa m_im m_ri) H := hP
        subst hr
        exact ret_z hx hb hrt hlocks (by first | assumption | exact bz_ok (by assumption)) hP hS dX8_atCells_104
  · have hr := (if_pos c43).symm.trans hr
    refine lv_iconst (v := 0) hx hb dX8_atCells_46 (by decide) ?_
    subst hr
    exact ret_z hx hb hrt hlocks bz_0 hP hS dX8_atCells_47
theorem hd_X8_atPoints : yX8_atPoints.cls = RX8 ∧ yX8_atPoints.cls ≠ "java/lang/invoke/MethodHandle" ∧ yX8_atPoints.cls ≠ "java/lang/invoke/VarHandle" ∧ (parseMethodDescriptor yX8_atPoints.desc).map (fun d => d.parameters.length) = some 1 := by decide +kernel
def f_X8_atPoints (p1 : Int32) (m_s : Int32) (m_l : Int64) (m_b : Int64) (m_ap : Nat → Int64) : Int32 × Int32 × Int32 × Int32 × Int64 := (if 2 < (f_X8_ones ((m_ap p1.toNatClampNeg) &&& m_l)) then (bd (f_X8_finds 1 p1 3 ((m_ap p1.toNatClampNeg) &&& (f_X8_open m_s m_l m_b))) (fun u1 => (u1.1, u1.2.1, u1.2.2.1, u1.2.2.2.1, u1.2.2.2.2))) else (if (f_X8_ones ((m_ap p1.toNatClampNeg) &&& m_l)) = 1 then (if (f_X8_ones ((m_ap p1.toNatClampNeg) &&& (f_X8_open m_s m_l m_b))) = 0 then (bd (f_X8_finds 1 p1 3 ((m_ap p1.toNatClampNeg) &&& (f_X8_open m_s m_l m_b))) (fun u32 => (u32.1, u32.2.1, u32.2.2.1, u32.2.2.2.1, u32.2.2.2.2))) else (if (f_X8_ones ((m_ap p1.toNatClampNeg) &&& m_l)) = 2 then (if 0 < (f_X8_ones ((m_ap p1.toNatClampNeg) &&& (f_X8_open m_s m_l m_b))) then (bd (f_X8_finds 1 p1 1 ((m_ap p1.toNatClampNeg) &&& (f_X8_open m_s m_l m_b))) (fun u24 => (u24.1, u24.2.1, u24.2.2.1, u24.2.2.2.1, u24.2.2.2.2))) else (if (f_X8_ones ((m_ap p1.toNatClampNeg) &&& m_l)) = 0 then (if (f_X8_ones ((m_ap p1.toNatClampNeg) &&& (f_X8_open m_s m_l m_b))) = 1 then (bd (f_X8_finds 1 p1 1 ((m_ap p1.toNatClampNeg) &&& (f_X8_open m_s m_l m_b))) (fun u31 => (u31.1, u31.2.1, u31.2.2.1, u31.2.2.2.1, u31.2.2.2.2))) else (if (f_X8_ones ((m_ap p1.toNatClampNeg) &&& m_l)) = 1 then (if (f_X8_ones ((m_ap p1.toNatClampNeg) &&& (f_X8_open m_s m_l m_b))) = 1 then (bd (f_X8_finds 1 p1 2 ((m_ap p1.toNatClampNeg) &&& (f_X8_open m_s m_l m_b))) (fun u30 => (u30.1, u30.2.1, u30.2.2.1, u30.2.2.2.1, u30.2.2.2.2))) else (bd (f_X8_finds 1 p1 0 ((m_ap p1.toNatClampNeg) &&& (f_X8_open m_s m_l m_b))) (fun u29 => (u29.1, u29.2.1, u29.2.2.1, u29.2.2.2.1, u29.2.2.2.2)))) else (bd (f_X8_finds 1 p1 0 ((m_ap p1.toNatClampNeg) &&& (f_X8_open m_s m_l m_b))) (fun u28 => (u28.1, u28.2.1, u28.2.2.1, u28.2.2.2.1, u28.2.2.2.2))))) else (if (f_X8_ones ((m_ap p1.toNatClampNeg) &&& m_l)) = 1 then (if (f_X8_ones ((m_ap p1.toNatClampNeg) &&& (f_X8_open m_s m_l m_b))) = 1 then (bd (f_X8_finds 1 p1 2 ((m_ap p1.toNatClampNeg) &&& (f_X8_open m_s m_l m_b))) (fun u27 => (u27.1, u27.2.1, u27.2.2.1, u27.2.2.2.1, u27.2.2.2.2))) else (bd (f_X8_finds 1 p1 0 ((m_ap p1.toNatClampNeg) &&& (f_X8_open m_s m_l m_b))) (fun u26 => (u26.1, u26.2.1, u26.2.2.1, u26.2.2.2.1, u26.2.2.2.2)))) else (bd (f_X8_finds 1 p1 0 ((m_ap p1.toNatClampNeg) &&& (f_X8_open m_s m_l m_b))) (fun u25 => (u25.1, u25.2.1, u25.2.2.1, u25.2.2.2.1, u25.2.2.2.2)))))) else (if (f_X8_ones ((m_ap p1.toNatClampNeg) &&& m_l)) = 0 then (if (f_X8_ones ((m_ap p1.toNatClampNeg) &&& (f_X8_open m_s m_l m_b))) = 1 then (bd (f_X8_finds 1 p1 1 ((m_ap p1.toNatClampNeg) &&& (f_X8_open m_s m_l m_b))) (fun u23 => (u23.1, u23.2.1, u23.2.2.1, u23.2.2.2.1, u23.2.2.2.2))) else (if (f_X8_ones ((m_ap p1.toNatClampNeg) &&& m_l)) = 1 then (if (f_X8_ones ((m_ap p1.toNatClampNeg) &&& (f_X8_open m_s m_l m_b))) = 1 then (bd (f_X8_finds 1 p1 2 ((m_ap p1.toNatClampNeg) &&& (f_X8_open m_s m_l m_b))) (fun u22 => (u22.1, u22.2.1, u22.2.2.1, u22.2.2.2.1, u22.2.2.2.2))) else (bd (f_X8_finds 1 p1 0 ((m_ap p1.toNatClampNeg) &&& (f_X8_open m_s m_l m_b))) (fun u21 => (u21.1, u21.2.1, u21.2.2.1, u21.2.2.2.1, u21.2.2.2.2)))) else (bd (f_X8_finds 1 p1 0 ((m_ap p1.toNatClampNeg) &&& (f_X8_open m_s m_l m_b))) (fun u20 => (u20.1, u20.2.1, u20.2.2.1, u20.2.2.2.1, u20.2.2.2.2))))) else (if (f_X8_ones ((m_ap p1.toNatClampNeg) &&& m_l)) = 1 then (if (f_X8_ones ((m_ap p1.toNatClampNeg) &&& (f_X8_open m_s m_l m_b))) = 1 then (bd (f_X8_finds 1 p1 2 ((m_ap p1.toNatClampNeg) &&& (f_X8_open m_s m_l m_b))) (fun u19 => (u19.1, u19.2.1, u19.2.2.1, u19.2.2.2.1, u19.2.2.2.2))) else (bd (f_X8_finds 1 p1 0 ((m_ap p1.toNatClampNeg) &&& (f_X8_open m_s m_l m_b))) (fun u18 => (u18.1, u18.2.1, u18.2.2.1, u18.2.2.2.1, u18.2.2.2.2)))) else (bd (f_X8_finds 1 p1 0 ((m_ap p1.toNatClampNeg) &&& (f_X8_open m_s m_l m_b))) (fun u17 => (u17.1, u17.2.1, u17.2.2.1, u17.2.2.2.1, u17.2.2.2.2))))))) else (if (f_X8_ones ((m_ap p1.toNatClampNeg) &&& m_l)) = 2 then (if 0 < (f_X8_ones ((m_ap p1.toNatClampNeg) &&& (f_X8_open m_s m_l m_b))) then (bd (f_X8_finds 1 p1 1 ((m_ap p1.toNatClampNeg) &&& (f_X8_open m_s m_l m_b))) (fun u9 => (u9.1, u9.2.1, u9.2.2.1, u9.2.2.2.1, u9.2.2.2.2))) else (if (f_X8_ones ((m_ap p1.toNatClampNeg) &&& m_l)) = 0 then (if (f_X8_ones ((m_ap p1.toNatClampNeg) &&& (f_X8_open m_s m_l m_b))) = 1 then (bd (f_X8_finds 1 p1 1 ((m_ap p1.toNatClampNeg) &&& (f_X8_open m_s m_l m_b))) (fun u16 => (u16.1, u16.2.1, u16.2.2.1, u16.2.2.2.1, u16.2.2.2.2))) else (if (f_X8_ones ((m_ap p1.toNatClampNeg) &&& m_l)) = 1 then (if (f_X8_ones ((m_ap p1.toNatClampNeg) &&& (f_X8_open m_s m_l m_b))) = 1 then (bd (f_X8_finds 1 p1 2 ((m_ap p1.toNatClampNeg) &&& (f_X8_open m_s m_l m_b))) (fun u15 => (u15.1, u15.2.1, u15.2.2.1, u15.2.2.2.1, u15.2.2.2.2))) else (bd (f_X8_finds 1 p1 0 ((m_ap p1.toNatClampNeg) &&& (f_X8_open m_s m_l m_b))) (fun u14 => (u14.1, u14.2.1, u14.2.2.1, u14.2.2.2.1, u14.2.2.2.2)))) else (bd (f_X8_finds 1 p1 0 ((m_ap p1.toNatClampNeg) &&& (f_X8_open m_s m_l m_b))) (fun u13 => (u13.1, u13.2.1, u13.2.2.1, u13.2.2.2.1, u13.2.2.2.2))))) else (if (f_X8_ones ((m_ap p1.toNatClampNeg) &&& m_l)) = 1 then (if (f_X8_ones ((m_ap p1.toNatClampNeg) &&& (f_X8_open m_s m_l m_b))) = 1 then (bd (f_X8_finds 1 p1 2 ((m_ap p1.toNatClampNeg) &&& (f_X8_open m_s m_l m_b))) (fun u12 => (u12.1, u12.2.1, u12.2.2.1, u12.2.2.2.1, u12.2.2.2.2))) else (bd (f_X8_finds 1 p1 0 ((m_ap p1.toNatClampNeg) &&& (f_X8_open m_s m_l m_b))) (fun u11 => (u11.1, u11.2.1, u11.2.2.1, u11.2.2.2.1, u11.2.2.2.2)))) else (bd (f_X8_finds 1 p1 0 ((m_ap p1.toNatClampNeg) &&& (f_X8_open m_s m_l m_b))) (fun u10 => (u10.1, u10.2.1, u10.2.2.1, u10.2.2.2.1, u10.2.2.2.2)))))) else (if (f_X8_ones ((m_ap p1.toNatClampNeg) &&& m_l)) = 0 then (if (f_X8_ones ((m_ap p1.toNatClampNeg) &&& (f_X8_open m_s m_l m_b))) = 1 then (bd (f_X8_finds 1 p1 1 ((m_ap p1.toNatClampNeg) &&& (f_X8_open m_s m_l m_b))) (fun u8 => (u8.1, u8.2.1, u8.2.2.1, u8.2.2.2.1, u8.2.2.2.2))) else (if (f_X8_ones ((m_ap p1.toNatClampNeg) &&& m_l)) = 1 then (if (f_X8_ones ((m_ap p1.toNatClampNeg) &&& (f_X8_open m_s m_l m_b))) = 1 then (bd (f_X8_finds 1 p1 2 ((m_ap p1.toNatClampNeg) &&& (f_X8_open m_s m_l m_b))) (fun u7 => (u7.1, u7.2.1, u7.2.2.1, u7.2.2.2.1, u7.2.2.2.2))) else (bd (f_X8_finds 1 p1 0 ((m_ap p1.toNatClampNeg) &&& (f_X8_open m_s m_l m_b))) (fun u6 => (u6.1, u6.2.1, u6.2.2.1, u6.2.2.2.1, u6.2.2.2.2)))) else (bd (f_X8_finds 1 p1 0 ((m_ap p1.toNatClampNeg) &&& (f_X8_open m_s m_l m_b))) (fun u5 => (u5.1, u5.2.1, u5.2.2.1, u5.2.2.2.1, u5.2.2.2.2))))) else (if (f_X8_ones ((m_ap p1.toNatClampNeg) &&& m_l)) = 1 then (if (f_X8_ones ((m_ap p1.toNatClampNeg) &&& (f_X8_open m_s m_l m_b))) = 1 then (bd (f_X8_finds 1 p1 2 ((m_ap p1.toNatClampNeg) &&& (f_X8_open m_s m_l m_b))) (fun u4 => (u4.1, u4.2.1, u4.2.2.1, u4.2.2.2.1, u4.2.2.2.2))) else (bd (f_X8_finds 1 p1 0 ((m_ap p1.toNatClampNeg) &&& (f_X8_open m_s m_l m_b))) (fun u3 => (u3.1, u3.2.1, u3.2.2.1, u3.2.2.2.1, u3.2.2.2.2)))) else (bd (f_X8_finds 1 p1 0 ((m_ap p1.toNatClampNeg) &&& (f_X8_open m_s m_l m_b))) (fun u2 => (u2.1, u2.2.1, u2.2.2.1, u2.2.2.2.1, u2.2.2.2.2))))))))
set_option maxHeartbeats 4000000 in
set_option maxRecDepth 100000 in
theorem c_X8_atPoints (l : Launch) (D : va_G) (cI cL cZ : ClassId) (ad : Nat → Nat) (m_w m_h m_c m_s m_le m_un m_he m_ro m_wi m_hi m_hr m_hp m_rn m_rw m_rh : Int32) (m_n m_l m_b m_to m_hs : Int64) (m_ho m_tx m_ik m_wt : Nat → Int32) (m_ac m_ap m_pa m_im m_ri : Nat → Int64) (hAd : mInj ad) (p1 : Int32) (r : Int32 × Int32 × Int32 × Int32 × Int64) (hr : f_X8_atPoints p1 m_s m_l m_b m_ap = r) (hp : 0 ≤ p1.toInt ∧ p1.toInt < 25) : MZ l yX8_atPoints (Cond.code yX8_atPoints cX8_atPoints 6 (some .boolean) :: W0) 2 40 D cI cL cZ (mAd ad) [.ref (ad 0), .int p1] (mw ad cI cL cZ m_w m_h m_c m_s m_le m_un m_he m_ro m_wi m_hi m_hr m_hp m_rn m_rw m_rh m_n m_l m_b m_to m_hs m_ho m_tx m_ik m_wt m_ac m_ap m_pa m_im m_ri) r.1 (mw ad cI cL cZ m_w m_h m_c m_s m_le m_un m_he m_ro m_wi r.2.1 r.2.2.1 r.2.2.2.1 m_rn m_rw m_rh m_n m_l m_b m_to r.2.2.2.2 m_ho m_tx m_ik m_wt m_ac m_ap m_pa m_im m_ri) := by
  refine mk_start (cc := cX8_atPoints) (maxL := 6) (ret := (some .boolean)) (by decide) rfl (Nat.le_of_ble_eq_true rfl) ?_
  intro p e s m below meth c ls C hP hS hl
  obtain ⟨hx, hb, hml, hrt, hlocks, hown, hts, hk⟩ := C
  have hown : s.vm.findClass RX8 = some m.cls := hown
  have hl : lv_has ls 6 [(0, .ref (ad 0)), (1, .int p1)] := hl
  rw [f_X8_atPoints] at hr
  refine lv_aload_n hx hb dX8_atPoints_0 rfl (lv_at hl 0 rfl) ?_
  refine va_get (D := D) (ci := 8) (v := .ref (ad 2)) (C := RX8) (T := TX8) (N := 29) hx hb hts u_X8 hown hk.1 hP 0 rfl rfl 8 (by decide) (hts _ q4_20) (fun _ h9 => h9) rfl dX8_atPoints_1 ?_
  refine lv_iload_n hx hb dX8_atPoints_4 rfl (lv_at hl 1 rfl) ?_
  refine va_lald hx hb hk.1 hP 2 1 (rfl) rfl (vin hp.1 hp.2) dX8_atPoints_5 ?_
  refine lv_aload_n hx hb dX8_atPoints_6 rfl (lv_at hl 0 rfl) ?_
  refine va_get (D := D) (ci := 8) (v := .long m_l) (C := RX8) (T := TX8) (N := 29) hx hb hts u_X8 hown hk.1 hP 0 rfl rfl 1 (by decide) (hts _ q4_13) (fun _ h9 => h9) rfl dX8_atPoints_7 ?_
  refine lv_land hx hb dX8_atPoints_10 ?_
  refine go_i (ru_S (n := 1) ⟨hx, hb, hml, hown, hts⟩ hk hP (c_X8_ones l D cI cL cZ (mAd ad) (mw ad cI cL cZ m_w m_h m_c m_s m_le m_un m_he m_ro m_wi m_hi m_hr m_hp m_rn m_rw m_rh m_n m_l m_b m_to m_hs m_ho m_tx m_ik m_wt m_ac m_ap m_pa m_im m_ri) ((m_ap p1.toNatClampNeg) &&& m_l) _ rfl) (va_cwS 1 hts (gS q4_213 q4_214 q1_11 q4_215) rfl rfl rfl hd_X8_ones ⟨Nat.le_of_ble_eq_true rfl, Nat.le_of_ble_eq_true rfl⟩) rfl hl.1 rfl (Nat.le_of_ble_eq_true rfl) dX8_atPoints_11 ⟨Nat.zero_le _, Nat.zero_le _⟩) hS (fun _ h => h) (fun H locs hP hS => ?_)
  have hP : va_P D vwCl (mw ad cI cL cZ m_w m_h m_c m_s m_le m_un m_he m_ro m_wi m_hi m_hr m_hp m_rn m_rw m_rh m_n m_l m_b m_to m_hs m_ho m_tx m_ik m_wt m_ac m_ap m_pa m_im m_ri) H := hP
  refine lv_istore_n (lv' := [(2, .int (f_X8_ones ((m_ap p1.toNatClampNeg) &&& m_l))), (0, .ref (ad 0)), (1, .int p1)]) hx hb dX8_atPoints_14 rfl hl (by decide) rfl (fun ls hl => ?_)
  refine lv_aload_n hx hb dX8_atPoints_15 rfl (lv_at hl 1 rfl) ?_
  refine va_get (D := D) (ci := 8) (v := .ref (ad 2)) (C := RX8) (T := TX8) (N := 29) hx hb hts u_X8 hown hk.1 hP 0 rfl rfl 8 (by decide) (hts _ q4_20) (fun _ h9 => h9) rfl dX8_atPoints_16 ?_
  refine lv_iload_n hx hb dX8_atPoints_19 rfl (lv_at hl 2 rfl) ?_
  refine va_lald hx hb hk.1 hP 2 1 (rfl) rfl (vin hp.1 hp.2) dX8_atPoints_20 ?_
  refine lv_aload_n hx hb dX8_atPoints_21 rfl (lv_at hl 1 rfl) ?_
  refine go_l (ru_V (n := 0) ⟨hx, hb, hml, hown, hts⟩ hk hP (c_X8_open l D cI cL cZ ad m_w m_h m_c m_s m_le m_un m_he m_ro m_wi m_hi m_hr m_hp m_rn m_rw m_rh m_n m_l m_b m_to m_hs m_ho m_tx m_ik m_wt m_ac m_ap m_pa m_im m_ri hAd _ rfl) (cwV 0 hts (gV q4_216 q4_218 qs4_4 q1_11 q4_219) rfl rfl rfl hd_X8_open ⟨Nat.le_of_ble_eq_true rfl, Nat.le_of_ble_eq_true rfl⟩) (va_recv hk.1 hP (ci := 8) (q0 := 0) rfl rfl) rfl hl.1 rfl (Nat.le_of_ble_eq_true rfl) dX8_atPoints_22 ⟨Nat.zero_le _, Nat.zero_le _⟩) hS (fun _ h => h) (fun H locs hP hS => ?_)
  have hP : va_P D vwCl (mw ad cI cL cZ m_w m_h m_c m_s m_le m_un m_he m_ro m_wi m_hi m_hr m_hp m_rn m_rw m_rh m_n m_l m_b m_to m_hs m_ho m_tx m_ik m_wt m_ac m_ap m_pa m_im m_ri) H := hP
  refine lv_land hx hb dX8_atPoints_25 ?_
  refine lv_lstore_n (lv' := [(3, .long ((m_ap p1.toNatClampNeg) &&& (f_X8_open m_s m_l m_b))), (2, .int (f_X8_ones ((m_ap p1.toNatClampNeg) &&& m_l))), (0, .ref (ad 0)), (1, .int p1)]) hx hb dX8_atPoints_26 rfl hl (by decide) rfl (fun ls hl => ?_)
  refine lv_lload_n hx hb dX8_atPoints_27 rfl (lv_at hl 0 rfl) ?_
  refine go_i (ru_S (n := 1) ⟨hx, hb, hml, hown, hts⟩ hk hP (c_X8_ones l D cI cL cZ (mAd ad) (mw ad cI cL cZ m_w m_h m_c m_s m_le m_un m_he m_ro m_wi m_hi m_hr m_hp m_rn m_rw m_rh m_n m_l m_b m_to m_hs m_ho m_tx m_ik m_wt m_ac m_ap m_pa m_im m_ri) ((m_ap p1.toNatClampNeg) &&& (f_X8_open m_s m_l m_b)) _ rfl) (va_cwS 1 hts (gS q4_213 q4_214 q1_11 q4_215) rfl rfl rfl hd_X8_ones ⟨Nat.le_of_ble_eq_true rfl, Nat.le_of_ble_eq_true rfl⟩) rfl hl.1 rfl (Nat.le_of_ble_eq_true rfl) dX8_atPoints_28 ⟨Nat.zero_le _, Nat.zero_le _⟩) hS (fun _ h => h) (fun H locs hP hS => ?_)
  have hP : va_P D vwCl (mw ad cI cL cZ m_w m_h m_c m_s m_le m_un m_he m_ro m_wi m_hi m_hr m_hp m_rn m_rw m_rh m_n m_l m_b m_to m_hs m_ho m_tx m_ik m_wt m_ac m_ap m_pa m_im m_ri) H := hP
  refine lv_istore (lv' := [(5, .int (f_X8_ones ((m_ap p1.toNatClampNeg) &&& (f_X8_open m_s m_l m_b)))), (3, .long ((m_ap p1.toNatClampNeg) &&& (f_X8_open m_s m_l m_b))), (2, .int (f_X8_ones ((m_ap p1.toNatClampNeg) &&& m_l))), (0, .ref (ad 0)), (1, .int p1)]) hx hb dX8_atPoints_31 hl (by decide) rfl (fun ls hl => ?_)
  refine lv_aload_n hx hb dX8_atPoints_33 rfl (lv_at hl 3 rfl) ?_
  refine lv_iconst (v := 1) hx hb dX8_atPoints_34 (by decide) ?_
  refine lv_iload_n hx hb dX8_atPoints_35 rfl (lv_at hl 4 rfl) ?_
  refine lv_iload_n hx hb dX8_atPoints_36 rfl (lv_at hl 2 rfl) ?_
  refine lv_iconst (v := 2) hx hb dX8_atPoints_37 (by decide) ?_
  refine lv_icmp_gt (tgt := 51) hx hb dX8_atPoints_38 (by decide) (fun c38 => ?_) (fun c38 => ?_)
  · have hr := (if_pos c38).symm.trans hr
    refine lv_iconst (v := 3) hx hb dX8_atPoints_51 (by decide) ?_
    refine lv_goto (tgt := 95) hx hb dX8_atPoints_52 (by decide) ?_
    refine lv_lload_n hx hb dX8_atPoints_95 rfl (lv_at hl 1 rfl) ?_
    obtain ⟨u1, hu1⟩ : ∃ z, f_X8_finds 1 p1 3 ((m_ap p1.toNatClampNeg) &&& (f_X8_open m_s m_l m_b)) = z := ⟨_, rfl⟩
    have hr := (bd_eq hu1).symm.trans hr
    refine go_z (ru_V (n := 4) ⟨hx, hb, hml, hown, hts⟩ hk hP (c_X8_finds l D cI cL cZ ad m_w m_h m_c m_s m_le m_un m_he m_ro m_wi m_hi m_hr m_hp m_rn m_rw m_rh m_n m_l m_b m_to m_hs m_ho m_tx m_ik m_wt m_ac m_ap m_pa m_im m_ri hAd 1 p1 3 ((m_ap p1.toNatClampNeg) &&& (f_X8_open m_s m_l m_b)) _ hu1) (cwV 4 hts (gV q4_224 q4_226 qs4_6 q1_11 q4_227) rfl rfl rfl hd_X8_finds ⟨Nat.le_of_ble_eq_true rfl, Nat.le_of_ble_eq_true rfl⟩) (va_recv hk.1 hP (ci := 8) (q0 := 0) rfl rfl) rfl hl.1 rfl (Nat.le_of_ble_eq_true rfl) dX8_atPoints_96 ⟨Nat.zero_le _, Nat.zero_le _⟩) hS (fun _ h => h) (fun H locs hz96 hP hS => ?_)
    have hP : va_P D vwCl (mw ad cI cL cZ m_w m_h m_c m_s m_le m_un m_he m_ro m_wi u1.2.1 u1.2.2.1 u1.2.2.2.1 m_rn m_rw m_rh m_n m_l m_b m_to u1.2.2.2.2 m_ho m_tx m_ik m_wt m_ac m_ap m_pa m_im m_ri) H := hP
    subst hr
    exact ret_z hx hb hrt hlocks (by first | assumption | exact bz_ok (by assumption)) hP hS dX8_atPoints_99
  · have hr := (if_neg c38).symm.trans hr
    refine lv_iload_n hx hb dX8_atPoints_41 rfl (lv_at hl 2 rfl) ?_
    refine lv_iconst (v := 1) hx hb dX8_atPoints_42 (by decide) ?_
    refine lv_icmp_ne (tgt := 55) hx hb dX8_atPoints_43 (by decide) (fun c43 => ?_) (fun c43 => ?_)
    · have hr := (if_neg c43).symm.trans hr
      refine lv_iload_n hx hb dX8_atPoints_55 rfl (lv_at hl 2 rfl) ?_
      refine lv_iconst (v := 2) hx hb dX8_atPoints_56 (by decide) ?_
      refine lv_icmp_ne (tgt := 65) hx hb dX8_atPoints_57 (by decide) (fun c57 => ?_) (fun c57 => ?_)
      · have hr := (if_neg c57).symm.trans hr
        refine lv_iload_n hx hb dX8_atPoints_65 rfl (lv_at hl 2 rfl) ?_
        refine lv_if_ne (tgt := 79) hx hb dX8_atPoints_66 (by decide) (fun c66 => ?_) (fun c66 => ?_)
        · have hr := (if_neg c66).symm.trans hr
          refine lv_iload_n hx hb dX8_atPoints_79 rfl (lv_at hl 2 rfl) ?_
          refine lv_iconst (v := 1) hx hb dX8_atPoints_80 (by decide) ?_
          refine lv_icmp_ne (tgt := 94) hx hb dX8_atPoints_81 (by decide) (fun c81 => ?_) (fun c81 => ?_)
          · have hr := (if_neg c81).symm.trans hr
            refine lv_iconst (v := 0) hx hb dX8_atPoints_94 (by decide) ?_
            refine lv_lload_n hx hb dX8_atPoints_95 rfl (lv_at hl 1 rfl) ?_
            obtain ⟨u2, hu2⟩ : ∃ z, f_X8_finds 1 p1 0 ((m_ap p1.toNatClampNeg) &&& (f_X8_open m_s m_l m_b)) = z := ⟨_, rfl⟩
            have hr := (bd_eq hu2).symm.trans hr
            refine go_z (ru_V (n := 4) ⟨hx, hb, hml, hown, hts⟩ hk hP (c_X8_finds l D cI cL cZ ad m_w m_h m_c m_s m_le m_un m_he m_ro m_wi m_hi m_hr m_hp m_rn m_rw m_rh m_n m_l m_b m_to m_hs m_ho m_tx m_ik m_wt m_ac m_ap m_pa m_im m_ri hAd 1 p1 0 ((m_ap p1.toNatClampNeg) &&& (f_X8_open m_s m_l m_b)) _ hu2) (cwV 4 hts (gV q4_224 q4_226 qs4_6 q1_11 q4_227) rfl rfl rfl hd_X8_finds ⟨Nat.le_of_ble_eq_true rfl, Nat.le_of_ble_eq_true rfl⟩) (va_recv hk.1 hP (ci := 8) (q0 := 0) rfl rfl) rfl hl.1 rfl (Nat.le_of_ble_eq_true rfl) dX8_atPoints_96 ⟨Nat.zero_le _, Nat.zero_le _⟩) hS (fun _ h => h) (fun H locs hz96 hP hS => ?_)
            have hP : va_P D vwCl (mw ad cI cL cZ m_w m_h m_c m_s m_le m_un m_he m_ro m_wi u2.2.1 u2.2.2.1 u2.2.2.2.1 m_rn m_rw m_rh m_n m_l m_b m_to u2.2.2.2.2 m_ho m_tx m_ik m_wt m_ac m_ap m_pa m_im m_ri) H := hP
            subst hr
            exact ret_z hx hb hrt hlocks (by first | assumption | exact bz_ok (by assumption)) hP hS dX8_atPoints_99
          · have hr := (if_pos c81).symm.trans hr
            refine lv_iload hx hb dX8_atPoints_84 (lv_at hl 0 rfl) ?_
            refine lv_iconst (v := 1) hx hb dX8_atPoints_86 (by decide) ?_
            refine lv_icmp_ne (tgt := 94) hx hb dX8_atPoints_87 (by decide) (fun c87 => ?_) (fun c87 => ?_)
            · have hr := (if_neg c87).symm.trans hr
              refine lv_iconst (v := 0) hx hb dX8_atPoints_94 (by decide) ?_
              refine lv_lload_n hx hb dX8_atPoints_95 rfl (lv_at hl 1 rfl) ?_
              obtain ⟨u3, hu3⟩ : ∃ z, f_X8_finds 1 p1 0 ((m_ap p1.toNatClampNeg) &&& (f_X8_open m_s m_l m_b)) = z := ⟨_, rfl⟩
              have hr := (bd_eq hu3).symm.trans hr
              refine go_z (ru_V (n := 4) ⟨hx, hb, hml, hown, hts⟩ hk hP (c_X8_finds l D cI cL cZ ad m_w m_h m_c m_s m_le m_un m_he m_ro m_wi m_hi m_hr m_hp m_rn m_rw m_rh m_n m_l m_b m_to m_hs m_ho m_tx m_ik m_wt m_ac m_ap m_pa m_im m_ri hAd 1 p1 0 ((m_ap p1.toNatClampNeg) &&& (f_X8_open m_s m_l m_b)) _ hu3) (cwV 4 hts (gV q4_224 q4_226 qs4_6 q1_11 q4_227) rfl rfl rfl hd_X8_finds ⟨Nat.le_of_ble_eq_true rfl, Nat.le_of_ble_eq_true rfl⟩) (va_recv hk.1 hP (ci := 8) (q0 := 0) rfl rfl) rfl hl.1 rfl (Nat.le_of_ble_eq_true rfl) dX8_atPoints_96 ⟨Nat.zero_le _, Nat.zero_le _⟩) hS (fun _ h => h) (fun H locs hz96 hP hS => ?_)
              have hP : va_P D vwCl (mw ad cI cL cZ m_w m_h m_c m_s m_le m_un m_he m_ro m_wi u3.2.1 u3.2.2.1 u3.2.2.2.1 m_rn m_rw m_rh m_n m_l m_b m_to u3.2.2.2.2 m_ho m_tx m_ik m_wt m_ac m_ap m_pa m_im m_ri) H := hP
              subst hr
              exact ret_z hx hb hrt hlocks (by first | assumption | exact bz_ok (by assumption)) hP hS dX8_atPoints_99
            · have hr := (if_pos c87).symm.trans hr
              refine lv_iconst (v := 2) hx hb dX8_atPoints_90 (by decide) ?_
              refine lv_goto (tgt := 95) hx hb dX8_atPoints_91 (by decide) ?_
              refine lv_lload_n hx hb dX8_atPoints_95 rfl (lv_at hl 1 rfl) ?_
              obtain ⟨u4, hu4⟩ : ∃ z, f_X8_finds 1 p1 2 ((m_ap p1.toNatClampNeg) &&& (f_X8_open m_s m_l m_b)) = z := ⟨_, rfl⟩
              have hr := (bd_eq hu4).symm.trans hr
              refine go_z (ru_V (n := 4) ⟨hx, hb, hml, hown, hts⟩ hk hP (c_X8_finds l D cI cL cZ ad m_w m_h m_c m_s m_le m_un m_he m_ro m_wi m_hi m_hr m_hp m_rn m_rw m_rh m_n m_l m_b m_to m_hs m_ho m_tx m_ik m_wt m_ac m_ap m_pa m_im m_ri hAd 1 p1 2 ((m_ap p1.toNatClampNeg) &&& (f_X8_open m_s m_l m_b)) _ hu4) (cwV 4 hts (gV q4_224 q4_226 qs4_6 q1_11 q4_227) rfl rfl rfl hd_X8_finds ⟨Nat.le_of_ble_eq_true rfl, Nat.le_of_ble_eq_true rfl⟩) (va_recv hk.1 hP (ci := 8) (q0 := 0) rfl rfl) rfl hl.1 rfl (Nat.le_of_ble_eq_true rfl) dX8_atPoints_96 ⟨Nat.zero_le _, Nat.zero_le _⟩) hS (fun _ h => h) (fun H locs hz96 hP hS => ?_)
              have hP : va_P D vwCl (mw ad cI cL cZ m_w m_h m_c m_s m_le m_un m_he m_ro m_wi u4.2.1 u4.2.2.1 u4.2.2.2.1 m_rn m_rw m_rh m_n m_l m_b m_to u4.2.2.2.2 m_ho m_tx m_ik m_wt m_ac m_ap m_pa m_im m_ri) H := hP
              subst hr
              exact ret_z hx hb hrt hlocks (by first | assumption | exact bz_ok (by assumption)) hP hS dX8_atPoints_99
        · have hr := (if_pos c66).symm.trans hr
          refine lv_iload hx hb dX8_atPoints_69 (lv_at hl 0 rfl) ?_
          refine lv_iconst (v := 1) hx hb dX8_atPoints_71 (by decide) ?_
          refine lv_icmp_ne (tgt := 79) hx hb dX8_atPoints_72 (by decide) (fun c72 => ?_) (fun c72 => ?_)
          · have hr := (if_neg c72).symm.trans hr
            refine lv_iload_n hx hb dX8_atPoints_79 rfl (lv_at hl 2 rfl) ?_
            refine lv_iconst (v := 1) hx hb dX8_atPoints_80 (by decide) ?_
            refine lv_icmp_ne (tgt := 94) hx hb dX8_atPoints_81 (by decide) (fun c81 => ?_) (fun c81 => ?_)
            · have hr := (if_neg c81).symm.trans hr
              refine lv_iconst (v := 0) hx hb dX8_atPoints_94 (by decide) ?_
              refine lv_lload_n hx hb dX8_atPoints_95 rfl (lv_at hl 1 rfl) ?_
              obtain ⟨u5, hu5⟩ : ∃ z, f_X8_finds 1 p1 0 ((m_ap p1.toNatClampNeg) &&& (f_X8_open m_s m_l m_b)) = z := ⟨_, rfl⟩
              have hr := (bd_eq hu5).symm.trans hr
              refine go_z (ru_V (n := 4) ⟨hx, hb, hml, hown, hts⟩ hk hP (c_X8_finds l D cI cL cZ ad m_w m_h m_c m_s m_le m_un m_he m_ro m_wi m_hi m_hr m_hp m_rn m_rw m_rh m_n m_l m_b m_to m_hs m_ho m_tx m_ik m_wt m_ac m_ap m_pa m_im m_ri hAd 1 p1 0 ((m_ap p1.toNatClampNeg) &&& (f_X8_open m_s m_l m_b)) _ hu5) (cwV 4 hts (gV q4_224 q4_226 qs4_6 q1_11 q4_227) rfl rfl rfl hd_X8_finds ⟨Nat.le_of_ble_eq_true rfl, Nat.le_of_ble_eq_true rfl⟩) (va_recv hk.1 hP (ci := 8) (q0 := 0) rfl rfl) rfl hl.1 rfl (Nat.le_of_ble_eq_true rfl) dX8_atPoints_96 ⟨Nat.zero_le _, Nat.zero_le _⟩) hS (fun _ h => h) (fun H locs hz96 hP hS => ?_)
              have hP : va_P D vwCl (mw ad cI cL cZ m_w m_h m_c m_s m_le m_un m_he m_ro m_wi u5.2.1 u5.2.2.1 u5.2.2.2.1 m_rn m_rw m_rh m_n m_l m_b m_to u5.2.2.2.2 m_ho m_tx m_ik m_wt m_ac m_ap m_pa m_im m_ri) H := hP
              subst hr
              exact ret_z hx hb hrt hlocks (by first | assumption | exact bz_ok (by assumption)) hP hS dX8_atPoints_99
            · have hr := (if_pos c81).symm.trans hr
              refine lv_iload hx hb dX8_atPoints_84 (lv_at hl 0 rfl) ?_
              refine lv_iconst (v := 1) hx hb dX8_atPoints_86 (by decide) ?_
              refine lv_icmp_ne (tgt := 94) hx hb dX8_atPoints_87 (by decide) (fun c87 => ?_) (fun c87 => ?_)
              · have hr := (if_neg c87).symm.trans hr
                refine lv_iconst (v := 0) hx hb dX8_atPoints_94 (by decide) ?_
                refine lv_lload_n hx hb dX8_atPoints_95 rfl (lv_at hl 1 rfl) ?_
                obtain ⟨u6, hu6⟩ : ∃ z, f_X8_finds 1 p1 0 ((m_ap p1.toNatClampNeg) &&& (f_X8_open m_s m_l m_b)) = z := ⟨_, rfl⟩
                have hr := (bd_eq hu6).symm.trans hr
                refine go_z (ru_V (n := 4) ⟨hx, hb, hml, hown, hts⟩ hk hP (c_X8_finds l D cI cL cZ ad m_w m_h m_c m_s m_le m_un m_he m_ro m_wi m_hi m_hr m_hp m_rn m_rw m_rh m_n m_l m_b m_to m_hs m_ho m_tx m_ik m_wt m_ac m_ap m_pa m_im m_ri hAd 1 p1 0 ((m_ap p1.toNatClampNeg) &&& (f_X8_open m_s m_l m_b)) _ hu6) (cwV 4 hts (gV q4_224 q4_226 qs4_6 q1_11 q4_227) rfl rfl rfl hd_X8_finds ⟨Nat.le_of_ble_eq_true rfl, Nat.le_of_ble_eq_true rfl⟩) (va_recv hk.1 hP (ci := 8) (q0 := 0) rfl rfl) rfl hl.1 rfl (Nat.le_of_ble_eq_true rfl) dX8_atPoints_96 ⟨Nat.zero_le _, Nat.zero_le _⟩) hS (fun _ h => h) (fun H locs hz96 hP hS => ?_)
                have hP : va_P D vwCl (mw ad cI cL cZ m_w m_h m_c m_s m_le m_un m_he m_ro m_wi u6.2.1 u6.2.2.1 u6.2.2.2.1 m_rn m_rw m_rh m_n m_l m_b m_to u6.2.2.2.2 m_ho m_tx m_ik m_wt m_ac m_ap m_pa m_im m_ri) H := hP
                subst hr
                exact ret_z hx hb hrt hlocks (by first | assumption | exact bz_ok (by assumption)) hP hS dX8_atPoints_99
              · have hr := (if_pos c87).symm.trans hr
                refine lv_iconst (v := 2) hx hb dX8_atPoints_90 (by decide) ?_
                refine lv_goto (tgt := 95) hx hb dX8_atPoints_91 (by decide) ?_
                refine lv_lload_n hx hb dX8_atPoints_95 rfl (lv_at hl 1 rfl) ?_
                obtain ⟨u7, hu7⟩ : ∃ z, f_X8_finds 1 p1 2 ((m_ap p1.toNatClampNeg) &&& (f_X8_open m_s m_l m_b)) = z := ⟨_, rfl⟩
                have hr := (bd_eq hu7).symm.trans hr
                refine go_z (ru_V (n := 4) ⟨hx, hb, hml, hown, hts⟩ hk hP (c_X8_finds l D cI cL cZ ad m_w m_h m_c m_s m_le m_un m_he m_ro m_wi m_hi m_hr m_hp m_rn m_rw m_rh m_n m_l m_b m_to m_hs m_ho m_tx m_ik m_wt m_ac m_ap m_pa m_im m_ri hAd 1 p1 2 ((m_ap p1.toNatClampNeg) &&& (f_X8_open m_s m_l m_b)) _ hu7) (cwV 4 hts (gV q4_224 q4_226 qs4_6 q1_11 q4_227) rfl rfl rfl hd_X8_finds ⟨Nat.le_of_ble_eq_true rfl, Nat.le_of_ble_eq_true rfl⟩) (va_recv hk.1 hP (ci := 8) (q0 := 0) rfl rfl) rfl hl.1 rfl (Nat.le_of_ble_eq_true rfl) dX8_atPoints_96 ⟨Nat.zero_le _, Nat.zero_le _⟩) hS (fun _ h => h) (fun H locs hz96 hP hS => ?_)
                have hP : va_P D vwCl (mw ad cI cL cZ m_w m_h m_c m_s m_le m_un m_he m_ro m_wi u7.2.1 u7.2.2.1 u7.2.2.2.1 m_rn m_rw m_rh m_n m_l m_b m_to u7.2.2.2.2 m_ho m_tx m_ik m_wt m_ac m_ap m_pa m_im m_ri) H := hP
                subst hr
                exact ret_z hx hb hrt hlocks (by first | assumption | exact bz_ok (by assumption)) hP hS dX8_atPoints_99
          · have hr := (if_pos c72).symm.trans hr
            refine lv_iconst (v := 1) hx hb dX8_atPoints_75 (by decide) ?_
            refine lv_goto (tgt := 95) hx hb dX8_atPoints_76 (by decide) ?_
            refine lv_lload_n hx hb dX8_atPoints_95 rfl (lv_at hl 1 rfl) ?_
            obtain ⟨u8, hu8⟩ : ∃ z, f_X8_finds 1 p1 1 ((m_ap p1.toNatClampNeg) &&& (f_X8_open m_s m_l m_b)) = z := ⟨_, rfl⟩
            have hr := (bd_eq hu8).symm.trans hr
            refine go_z (ru_V (n := 4) ⟨hx, hb, hml, hown, hts⟩ hk hP (c_X8_finds l D cI cL cZ ad m_w m_h m_c m_s m_le m_un m_he m_ro m_wi m_hi m_hr m_hp m_rn m_rw m_rh m_n m_l m_b m_to m_hs m_ho m_tx m_ik m_wt m_ac m_ap m_pa m_im m_ri hAd 1 p1 1 ((m_ap p1.toNatClampNeg) &&& (f_X8_open m_s m_l m_b)) _ hu8) (cwV 4 hts (gV q4_224 q4_226 qs4_6 q1_11 q4_227) rfl rfl rfl hd_X8_finds ⟨Nat.le_of_ble_eq_true rfl, Nat.le_of_ble_eq_true rfl⟩) (va_recv hk.1 hP (ci := 8) (q0 := 0) rfl rfl) rfl hl.1 rfl (Nat.le_of_ble_eq_true rfl) dX8_atPoints_96 ⟨Nat.zero_le _, Nat.zero_le _⟩) hS (fun _ h => h) (fun H locs hz96 hP hS => ?_)
            have hP : va_P D vwCl (mw ad cI cL cZ m_w m_h m_c m_s m_le m_un m_he m_ro m_wi u8.2.1 u8.2.2.1 u8.2.2.2.1 m_rn m_rw m_rh m_n m_l m_b m_to u8.2.2.2.2 m_ho m_tx m_ik m_wt m_ac m_ap m_pa m_im m_ri) H := hP
            subst hr
            exact ret_z hx hb hrt hlocks (by first | assumption | exact bz_ok (by assumption)) hP hS dX8_atPoints_99
      · have hr := (if_pos c57).symm.trans hr
        refine lv_iload hx hb dX8_atPoints_60 (lv_at hl 0 rfl) ?_
        refine lv_if_gt (tgt := 75) hx hb dX8_atPoints_62 (by decide) (fun c62 => ?_) (fun c62 => ?_)
        · have hr := (if_pos c62).symm.trans hr
          refine lv_iconst (v := 1) hx hb dX8_atPoints_75 (by decide) ?_
          refine lv_goto (tgt := 95) hx hb dX8_atPoints_76 (by decide) ?_
          refine lv_lload_n hx hb dX8_atPoints_95 rfl (lv_at hl 1 rfl) ?_
          obtain ⟨u9, hu9⟩ : ∃ z, f_X8_finds 1 p1 1 ((m_ap p1.toNatClampNeg) &&& (f_X8_open m_s m_l m_b)) = z := ⟨_, rfl⟩
          have hr := (bd_eq hu9).symm.trans hr
          refine go_z (ru_V (n := 4) ⟨hx, hb, hml, hown, hts⟩ hk hP (c_X8_finds l D cI cL cZ ad m_w m_h m_c m_s m_le m_un m_he m_ro m_wi m_hi m_hr m_hp m_rn m_rw m_rh m_n m_l m_b m_to m_hs m_ho m_tx m_ik m_wt m_ac m_ap m_pa m_im m_ri hAd 1 p1 1 ((m_ap p1.toNatClampNeg) &&& (f_X8_open m_s m_l m_b)) _ hu9) (cwV 4 hts (gV q4_224 q4_226 qs4_6 q1_11 q4_227) rfl rfl rfl hd_X8_finds ⟨Nat.le_of_ble_eq_true rfl, Nat.le_of_ble_eq_true rfl⟩) (va_recv hk.1 hP (ci := 8) (q0 := 0) rfl rfl) rfl hl.1 rfl (Nat.le_of_ble_eq_true rfl) dX8_atPoints_96 ⟨Nat.zero_le _, Nat.zero_le _⟩) hS (fun _ h => h) (fun H locs hz96 hP hS => ?_)
          have hP : va_P D vwCl (mw ad cI cL cZ m_w m_h m_c m_s m_le m_un m_he m_ro m_wi u9.2.1 u9.2.2.1 u9.2.2.2.1 m_rn m_rw m_rh m_n m_l m_b m_to u9.2.2.2.2 m_ho m_tx m_ik m_wt m_ac m_ap m_pa m_im m_ri) H := hP
          subst hr
          exact ret_z hx hb hrt hlocks (by first | assumption | exact bz_ok (by assumption)) hP hS dX8_atPoints_99
        · have hr := (if_neg c62).symm.trans hr
          refine lv_iload_n hx hb dX8_atPoints_65 rfl (lv_at hl 2 rfl) ?_
          refine lv_if_ne (tgt := 79) hx hb dX8_atPoints_66 (by decide) (fun c66 => ?_) (fun c66 => ?_)
          · have hr := (if_neg c66).symm.trans hr
            refine lv_iload_n hx hb dX8_atPoints_79 rfl (lv_at hl 2 rfl) ?_
            refine lv_iconst (v := 1) hx hb dX8_atPoints_80 (by decide) ?_
            refine lv_icmp_ne (tgt := 94) hx hb dX8_atPoints_81 (by decide) (fun c81 => ?_) (fun c81 => ?_)
            · have hr := (if_neg c81).symm.trans hr
              refine lv_iconst (v := 0) hx hb dX8_atPoints_94 (by decide) ?_
              refine lv_lload_n hx hb dX8_atPoints_95 rfl (lv_at hl 1 rfl) ?_
              obtain ⟨u10, hu10⟩ : ∃ z, f_X8_finds 1 p1 0 ((m_ap p1.toNatClampNeg) &&& (f_X8_open m_s m_l m_b)) = z := ⟨_, rfl⟩
              have hr := (bd_eq hu10).symm.trans hr
              refine go_z (ru_V (n := 4) ⟨hx, hb, hml, hown, hts⟩ hk hP (c_X8_finds l D cI cL cZ ad m_w m_h m_c m_s m_le m_un m_he m_ro m_wi m_hi m_hr m_hp m_rn m_rw m_rh m_n m_l m_b m_to m_hs m_ho m_tx m_ik m_wt m_ac m_ap m_pa m_im m_ri hAd 1 p1 0 ((m_ap p1.toNatClampNeg) &&& (f_X8_open m_s m_l m_b)) _ hu10) (cwV 4 hts (gV q4_224 q4_226 qs4_6 q1_11 q4_227) rfl rfl rfl hd_X8_finds ⟨Nat.le_of_ble_eq_true rfl, Nat.le_of_ble_eq_true rfl⟩) (va_recv hk.1 hP (ci := 8) (q0 := 0) rfl rfl) rfl hl.1 rfl (Nat.le_of_ble_eq_true rfl) dX8_atPoints_96 ⟨Nat.zero_le _, Nat.zero_le _⟩) hS (fun _ h => h) (fun H locs hz96 hP hS => ?_)
              have hP : va_P D vwCl (mw ad cI cL cZ m_w m_h m_c m_s m_le m_un m_he m_ro m_wi u10.2.1 u10.2.2.1 u10.2.2.2.1 m_rn m_rw m_rh m_n m_l m_b m_to u10.2.2.2.2 m_ho m_tx m_ik m_wt m_ac m_ap m_pa m_im m_ri) H := hP
              subst hr
              exact ret_z hx hb hrt hlocks (by first | assumption | exact bz_ok (by assumption)) hP hS dX8_atPoints_99
            · have hr := (if_pos c81).symm.trans hr
              refine lv_iload hx hb dX8_atPoints_84 (lv_at hl 0 rfl) ?_
              refine lv_iconst (v := 1) hx hb dX8_atPoints_86 (by decide) ?_
              refine lv_icmp_ne (tgt := 94) hx hb dX8_atPoints_87 (by decide) (fun c87 => ?_) (fun c87 => ?_)
              · have hr := (if_neg c87).symm.trans hr
                refine lv_iconst (v := 0) hx hb dX8_atPoints_94 (by decide) ?_
                refine lv_lload_n hx hb dX8_atPoints_95 rfl (lv_at hl 1 rfl) ?_
                obtain ⟨u11, hu11⟩ : ∃ z, f_X8_finds 1 p1 0 ((m_ap p1.toNatClampNeg) &&& (f_X8_open m_s m_l m_b)) = z := ⟨_, rfl⟩
                have hr := (bd_eq hu11).symm.trans hr
                refine go_z (ru_V (n := 4) ⟨hx, hb, hml, hown, hts⟩ hk hP (c_X8_finds l D cI cL cZ ad m_w m_h m_c m_s m_le m_un m_he m_ro m_wi m_hi m_hr m_hp m_rn m_rw m_rh m_n m_l m_b m_to m_hs m_ho m_tx m_ik m_wt m_ac m_ap m_pa m_im m_ri hAd 1 p1 0 ((m_ap p1.toNatClampNeg) &&& (f_X8_open m_s m_l m_b)) _ hu11) (cwV 4 hts (gV q4_224 q4_226 qs4_6 q1_11 q4_227) rfl rfl rfl hd_X8_finds ⟨Nat.le_of_ble_eq_true rfl, Nat.le_of_ble_eq_true rfl⟩) (va_recv hk.1 hP (ci := 8) (q0 := 0) rfl rfl) rfl hl.1 rfl (Nat.le_of_ble_eq_true rfl) dX8_atPoints_96 ⟨Nat.zero_le _, Nat.zero_le _⟩) hS (fun _ h => h) (fun H locs hz96 hP hS => ?_)
                have hP : va_P D vwCl (mw ad cI cL cZ m_w m_h m_c m_s m_le m_un m_he m_ro m_wi u11.2.1 u11.2.2.1 u11.2.2.2.1 m_rn m_rw m_rh m_n m_l m_b m_to u11.2.2.2.2 m_ho m_tx m_ik m_wt m_ac m_ap m_pa m_im m_ri) H := hP
                subst hr
                exact ret_z hx hb hrt hlocks (by first | assumption | exact bz_ok (by assumption)) hP hS dX8_atPoints_99
              · have hr := (if_pos c87).symm.trans hr
                refine lv_iconst (v := 2) hx hb dX8_atPoints_90 (by decide) ?_
                refine lv_goto (tgt := 95) hx hb dX8_atPoints_91 (by decide) ?_
                refine lv_lload_n hx hb dX8_atPoints_95 rfl (lv_at hl 1 rfl) ?_
                obtain ⟨u12, hu12⟩ : ∃ z, f_X8_finds 1 p1 2 ((m_ap p1.toNatClampNeg) &&& (f_X8_open m_s m_l m_b)) = z := ⟨_, rfl⟩
                have hr := (bd_eq hu12).symm.trans hr
                refine go_z (ru_V (n := 4) ⟨hx, hb, hml, hown, hts⟩ hk hP (c_X8_finds l D cI cL cZ ad m_w m_h m_c m_s m_le m_un m_he m_ro m_wi m_hi m_hr m_hp m_rn m_rw m_rh m_n m_l m_b m_to m_hs m_ho m_tx m_ik m_wt m_ac m_ap m_pa m_im m_ri hAd 1 p1 2 ((m_ap p1.toNatClampNeg) &&& (f_X8_open m_s m_l m_b)) _ hu12) (cwV 4 hts (gV q4_224 q4_226 qs4_6 q1_11 q4_227) rfl rfl rfl hd_X8_finds ⟨Nat.le_of_ble_eq_true rfl, Nat.le_of_ble_eq_true rfl⟩) (va_recv hk.1 hP (ci := 8) (q0 := 0) rfl rfl) rfl hl.1 rfl (Nat.le_of_ble_eq_true rfl) dX8_atPoints_96 ⟨Nat.zero_le _, Nat.zero_le _⟩) hS (fun _ h => h) (fun H locs hz96 hP hS => ?_)
                have hP : va_P D vwCl (mw ad cI cL cZ m_w m_h m_c m_s m_le m_un m_he m_ro m_wi u12.2.1 u12.2.2.1 u12.2.2.2.1 m_rn m_rw m_rh m_n m_l m_b m_to u12.2.2.2.2 m_ho m_tx m_ik m_wt m_ac m_ap m_pa m_im m_ri) H := hP
                subst hr
                exact ret_z hx hb hrt hlocks (by first | assumption | exact bz_ok (by assumption)) hP hS dX8_atPoints_99
          · have hr := (if_pos c66).symm.trans hr
            refine lv_iload hx hb dX8_atPoints_69 (lv_at hl 0 rfl) ?_
            refine lv_iconst (v := 1) hx hb dX8_atPoints_71 (by decide) ?_
            refine lv_icmp_ne (tgt := 79) hx hb dX8_atPoints_72 (by decide) (fun c72 => ?_) (fun c72 => ?_)
            · have hr := (if_neg c72).symm.trans hr
              refine lv_iload_n hx hb dX8_atPoints_79 rfl (lv_at hl 2 rfl) ?_
              refine lv_iconst (v := 1) hx hb dX8_atPoints_80 (by decide) ?_
              refine lv_icmp_ne (tgt := 94) hx hb dX8_atPoints_81 (by decide) (fun c81 => ?_) (fun c81 => ?_)
              · have hr := (if_neg c81).symm.trans hr
                refine lv_iconst (v := 0) hx hb dX8_atPoints_94 (by decide) ?_
                refine lv_lload_n hx hb dX8_atPoints_95 rfl (lv_at hl 1 rfl) ?_
                obtain ⟨u13, hu13⟩ : ∃ z, f_X8_finds 1 p1 0 ((m_ap p1.toNatClampNeg) &&& (f_X8_open m_s m_l m_b)) = z := ⟨_, rfl⟩
                have hr := (bd_eq hu13).symm.trans hr
                refine go_z (ru_V (n := 4) ⟨hx, hb, hml, hown, hts⟩ hk hP (c_X8_finds l D cI cL cZ ad m_w m_h m_c m_s m_le m_un m_he m_ro m_wi m_hi m_hr m_hp m_rn m_rw m_rh m_n m_l m_b m_to m_hs m_ho m_tx m_ik m_wt m_ac m_ap m_pa m_im m_ri hAd 1 p1 0 ((m_ap p1.toNatClampNeg) &&& (f_X8_open m_s m_l m_b)) _ hu13) (cwV 4 hts (gV q4_224 q4_226 qs4_6 q1_11 q4_227) rfl rfl rfl hd_X8_finds ⟨Nat.le_of_ble_eq_true rfl, Nat.le_of_ble_eq_true rfl⟩) (va_recv hk.1 hP (ci := 8) (q0 := 0) rfl rfl) rfl hl.1 rfl (Nat.le_of_ble_eq_true rfl) dX8_atPoints_96 ⟨Nat.zero_le _, Nat.zero_le _⟩) hS (fun _ h => h) (fun H locs hz96 hP hS => ?_)
                have hP : va_P D vwCl (mw ad cI cL cZ m_w m_h m_c m_s m_le m_un m_he m_ro m_wi u13.2.1 u13.2.2.1 u13.2.2.2.1 m_rn m_rw m_rh m_n m_l m_b m_to u13.2.2.2.2 m_ho m_tx m_ik m_wt m_ac m_ap m_pa m_im m_ri) H := hP
                subst hr
                exact ret_z hx hb hrt hlocks (by first | assumption | exact bz_ok (by assumption)) hP hS dX8_atPoints_99
              · have hr := (if_pos c81).symm.trans hr
                refine lv_iload hx hb dX8_atPoints_84 (lv_at hl 0 rfl) ?_
                refine lv_iconst (v := 1) hx hb dX8_atPoints_86 (by decide) ?_
                refine lv_icmp_ne (tgt := 94) hx hb dX8_atPoints_87 (by decide) (fun c87 => ?_) (fun c87 => ?_)
                · have hr := (if_neg c87).symm.trans hr
                  refine lv_iconst (v := 0) hx hb dX8_atPoints_94 (by decide) ?_
                  refine lv_lload_n hx hb dX8_atPoints_95 rfl (lv_at hl 1 rfl) ?_
                  obtain ⟨u14, hu14⟩ : ∃ z, f_X8_finds 1 p1 0 ((m_ap p1.toNatClampNeg) &&& (f_X8_open m_s m_l m_b)) = z := ⟨_, rfl⟩
                  have hr := (bd_eq hu14).symm.trans hr
                  refine go_z (ru_V (n := 4) ⟨hx, hb, hml, hown, hts⟩ hk hP (c_X8_finds l D cI cL cZ ad m_w m_h m_c m_s m_le m_un m_he m_ro m_wi m_hi m_hr m_hp m_rn m_rw m_rh m_n m_l m_b m_to m_hs m_ho m_tx m_ik m_wt m_ac m_ap m_pa m_im m_ri hAd 1 p1 0 ((m_ap p1.toNatClampNeg) &&& (f_X8_open m_s m_l m_b)) _ hu14) (cwV 4 hts (gV q4_224 q4_226 qs4_6 q1_11 q4_227) rfl rfl rfl hd_X8_finds ⟨Nat.le_of_ble_eq_true rfl, Nat.le_of_ble_eq_true rfl⟩) (va_recv hk.1 hP (ci := 8) (q0 := 0) rfl rfl) rfl hl.1 rfl (Nat.le_of_ble_eq_true rfl) dX8_atPoints_96 ⟨Nat.zero_le _, Nat.zero_le _⟩) hS (fun _ h => h) (fun H locs hz96 hP hS => ?_)
                  have hP : va_P D vwCl (mw ad cI cL cZ m_w m_h m_c m_s m_le m_un m_he m_ro m_wi u14.2.1 u14.2.2.1 u14.2.2.2.1 m_rn m_rw m_rh m_n m_l m_b m_to u14.2.2.2.2 m_ho m_tx m_ik m_wt m_ac m_ap m_pa m_im m_ri) H := hP
                  subst hr
                  exact ret_z hx hb hrt hlocks (by first | assumption | exact bz_ok (by assumption)) hP hS dX8_atPoints_99
                · have hr := (if_pos c87).symm.trans hr
                  refine lv_iconst (v := 2) hx hb dX8_atPoints_90 (by decide) ?_
                  refine lv_goto (tgt := 95) hx hb dX8_atPoints_91 (by decide) ?_
                  refine lv_lload_n hx hb dX8_atPoints_95 rfl (lv_at hl 1 rfl) ?_
                  obtain ⟨u15, hu15⟩ : ∃ z, f_X8_finds 1 p1 2 ((m_ap p1.toNatClampNeg) &&& (f_X8_open m_s m_l m_b)) = z := ⟨_, rfl⟩
                  have hr := (bd_eq hu15).symm.trans hr
                  refine go_z (ru_V (n := 4) ⟨hx, hb, hml, hown, hts⟩ hk hP (c_X8_finds l D cI cL cZ ad m_w m_h m_c m_s m_le m_un m_he m_ro m_wi m_hi m_hr m_hp m_rn m_rw m_rh m_n m_l m_b m_to m_hs m_ho m_tx m_ik m_wt m_ac m_ap m_pa m_im m_ri hAd 1 p1 2 ((m_ap p1.toNatClampNeg) &&& (f_X8_open m_s m_l m_b)) _ hu15) (cwV 4 hts (gV q4_224 q4_226 qs4_6 q1_11 q4_227) rfl rfl rfl hd_X8_finds ⟨Nat.le_of_ble_eq_true rfl, Nat.le_of_ble_eq_true rfl⟩) (va_recv hk.1 hP (ci := 8) (q0 := 0) rfl rfl) rfl hl.1 rfl (Nat.le_of_ble_eq_true rfl) dX8_atPoints_96 ⟨Nat.zero_le _, Nat.zero_le _⟩) hS (fun _ h => h) (fun H locs hz96 hP hS => ?_)
                  have hP : va_P D vwCl (mw ad cI cL cZ m_w m_h m_c m_s m_le m_un m_he m_ro m_wi u15.2.1 u15.2.2.1 u15.2.2.2.1 m_rn m_rw m_rh m_n m_l m_b m_to u15.2.2.2.2 m_ho m_tx m_ik m_wt m_ac m_ap m_pa m_im m_ri) H := hP
                  subst hr
                  exact ret_z hx hb hrt hlocks (by first | assumption | exact bz_ok (by assumption)) hP hS dX8_atPoints_99
            · have hr := (if_pos c72).symm.trans hr
              refine lv_iconst (v := 1) hx hb dX8_atPoints_75 (by decide) ?_
              refine lv_goto (tgt := 95) hx hb dX8_atPoints_76 (by decide) ?_
              refine lv_lload_n hx hb dX8_atPoints_95 rfl (lv_at hl 1 rfl) ?_
              obtain ⟨u16, hu16⟩ : ∃ z, f_X8_finds 1 p1 1 ((m_ap p1.toNatClampNeg) &&& (f_X8_open m_s m_l m_b)) = z := ⟨_, rfl⟩
              have hr := (bd_eq hu16).symm.trans hr
              refine go_z (ru_V (n := 4) ⟨hx, hb, hml, hown, hts⟩ hk hP (c_X8_finds l D cI cL cZ ad m_w m_h m_c m_s m_le m_un m_he m_ro m_wi m_hi m_hr m_hp m_rn m_rw m_rh m_n m_l m_b m_to m_hs m_ho m_tx m_ik m_wt m_ac m_ap m_pa m_im m_ri hAd 1 p1 1 ((m_ap p1.toNatClampNeg) &&& (f_X8_open m_s m_l m_b)) _ hu16) (cwV 4 hts (gV q4_224 q4_226 qs4_6 q1_11 q4_227) rfl rfl rfl hd_X8_finds ⟨Nat.le_of_ble_eq_true rfl, Nat.le_of_ble_eq_true rfl⟩) (va_recv hk.1 hP (ci := 8) (q0 := 0) rfl rfl) rfl hl.1 rfl (Nat.le_of_ble_eq_true rfl) dX8_atPoints_96 ⟨Nat.zero_le _, Nat.zero_le _⟩) hS (fun _ h => h) (fun H locs hz96 hP hS => ?_)
              have hP : va_P D vwCl (mw ad cI cL cZ m_w m_h m_c m_s m_le m_un m_he m_ro m_wi u16.2.1 u16.2.2.1 u16.2.2.2.1 m_rn m_rw m_rh m_n m_l m_b m_to u16.2.2.2.2 m_ho m_tx m_ik m_wt m_ac m_ap m_pa m_im m_ri) H := hP
              subst hr
              exact ret_z hx hb hrt hlocks (by first | assumption | exact bz_ok (by assumption)) hP hS dX8_atPoints_99
    · have hr := (if_pos c43).symm.trans hr
      refine lv_iload hx hb dX8_atPoints_46 (lv_at hl 0 rfl) ?_
      refine lv_if_ne (tgt := 55) hx hb dX8_atPoints_48 (by decide) (fun c48 => ?_) (fun c48 => ?_)
      · have hr := (if_neg c48).symm.trans hr
        refine lv_iload_n hx hb dX8_atPoints_55 rfl (lv_at hl 2 rfl) ?_
        refine lv_iconst (v := 2) hx hb dX8_atPoints_56 (by decide) ?_
        refine lv_icmp_ne (tgt := 65) hx hb dX8_atPoints_57 (by decide) (fun c57 => ?_) (fun c57 => ?_)
        · have hr := (if_neg c57).symm.trans hr
          refine lv_iload_n hx hb dX8_atPoints_65 rfl (lv_at hl 2 rfl) ?_
          refine lv_if_ne (tgt := 79) hx hb dX8_atPoints_66 (by decide) (fun c66 => ?_) (fun c66 => ?_)
          · have hr := (if_neg c66).symm.trans hr
            refine lv_iload_n hx hb dX8_atPoints_79 rfl (lv_at hl 2 rfl) ?_
            refine lv_iconst (v := 1) hx hb dX8_atPoints_80 (by decide) ?_
            refine lv_icmp_ne (tgt := 94) hx hb dX8_atPoints_81 (by decide) (fun c81 => ?_) (fun c81 => ?_)
            · have hr := (if_neg c81).symm.trans hr
              refine lv_iconst (v := 0) hx hb dX8_atPoints_94 (by decide) ?_
              refine lv_lload_n hx hb dX8_atPoints_95 rfl (lv_at hl 1 rfl) ?_
              obtain ⟨u17, hu17⟩ : ∃ z, f_X8_finds 1 p1 0 ((m_ap p1.toNatClampNeg) &&& (f_X8_open m_s m_l m_b)) = z := ⟨_, rfl⟩
              have hr := (bd_eq hu17).symm.trans hr
              refine go_z (ru_V (n := 4) ⟨hx, hb, hml, hown, hts⟩ hk hP (c_X8_finds l D cI cL cZ ad m_w m_h m_c m_s m_le m_un m_he m_ro m_wi m_hi m_hr m_hp m_rn m_rw m_rh m_n m_l m_b m_to m_hs m_ho m_tx m_ik m_wt m_ac m_ap m_pa m_im m_ri hAd 1 p1 0 ((m_ap p1.toNatClampNeg) &&& (f_X8_open m_s m_l m_b)) _ hu17) (cwV 4 hts (gV q4_224 q4_226 qs4_6 q1_11 q4_227) rfl rfl rfl hd_X8_finds ⟨Nat.le_of_ble_eq_true rfl, Nat.le_of_ble_eq_true rfl⟩) (va_recv hk.1 hP (ci := 8) (q0 := 0) rfl rfl) rfl hl.1 rfl (Nat.le_of_ble_eq_true rfl) dX8_atPoints_96 ⟨Nat.zero_le _, Nat.zero_le _⟩) hS (fun _ h => h) (fun H locs hz96 hP hS => ?_)
              have hP : va_P D vwCl (mw ad cI cL cZ m_w m_h m_c m_s m_le m_un m_he m_ro m_wi u17.2.1 u17.2.2.1 u17.2.2.2.1 m_rn m_rw m_rh m_n m_l m_b m_to u17.2.2.2.2 m_ho m_tx m_ik m_wt m_ac m_ap m_pa m_im m_ri) H := hP
              subst hr
              exact ret_z hx hb hrt hlocks (by first | assumption | exact bz_ok (by assumption)) hP hS dX8_atPoints_99
            · have hr := (if_pos c81).symm.trans hr
              refine lv_iload hx hb dX8_atPoints_84 (lv_at hl 0 rfl) ?_
              refine lv_iconst (v := 1) hx hb dX8_atPoints_86 (by decide) ?_
              refine lv_icmp_ne (tgt := 94) hx hb dX8_atPoints_87 (by decide) (fun c87 => ?_) (fun c87 => ?_)
              · have hr := (if_neg c87).symm.trans hr
                refine lv_iconst (v := 0) hx hb dX8_atPoints_94 (by decide) ?_
                refine lv_lload_n hx hb dX8_atPoints_95 rfl (lv_at hl 1 rfl) ?_
                obtain ⟨u18, hu18⟩ : ∃ z, f_X8_finds 1 p1 0 ((m_ap p1.toNatClampNeg) &&& (f_X8_open m_s m_l m_b)) = z := ⟨_, rfl⟩
                have hr := (bd_eq hu18).symm.trans hr
                refine go_z (ru_V (n := 4) ⟨hx, hb, hml, hown, hts⟩ hk hP (c_X8_finds l D cI cL cZ ad m_w m_h m_c m_s m_le m_un m_he m_ro m_wi m_hi m_hr m_hp m_rn m_rw m_rh m_n m_l m_b m_to m_hs m_ho m_tx m_ik m_wt m_ac m_ap m_pa m_im m_ri hAd 1 p1 0 ((m_ap p1.toNatClampNeg) &&& (f_X8_open m_s m_l m_b)) _ hu18) (cwV 4 hts (gV q4_224 q4_226 qs4_6 q1_11 q4_227) rfl rfl rfl hd_X8_finds ⟨Nat.le_of_ble_eq_true rfl, Nat.le_of_ble_eq_true rfl⟩) (va_recv hk.1 hP (ci := 8) (q0 := 0) rfl rfl) rfl hl.1 rfl (Nat.le_of_ble_eq_true rfl) dX8_atPoints_96 ⟨Nat.zero_le _, Nat.zero_le _⟩) hS (fun _ h => h) (fun H locs hz96 hP hS => ?_)
                have hP : va_P D vwCl (mw ad cI cL cZ m_w m_h m_c m_s m_le m_un m_he m_ro m_wi u18.2.1 u18.2.2.1 u18.2.2.2.1 m_rn m_rw m_rh m_n m_l m_b m_to u18.2.2.2.2 m_ho m_tx m_ik m_wt m_ac m_ap m_pa m_im m_ri) H := hP
                subst hr
                exact ret_z hx hb hrt hlocks (by first | assumption | exact bz_ok (by assumption)) hP hS dX8_atPoints_99
              · have hr := (if_pos c87).symm.trans hr
                refine lv_iconst (v := 2) hx hb dX8_atPoints_90 (by decide) ?_
                refine lv_goto (tgt := 95) hx hb dX8_atPoints_91 (by decide) ?_
                refine lv_lload_n hx hb dX8_atPoints_95 rfl (lv_at hl 1 rfl) ?_
                obtain ⟨u19, hu19⟩ : ∃ z, f_X8_finds 1 p1 2 ((m_ap p1.toNatClampNeg) &&& (f_X8_open m_s m_l m_b)) = z := ⟨_, rfl⟩
                have hr := (bd_eq hu19).symm.trans hr
                refine go_z (ru_V (n := 4) ⟨hx, hb, hml, hown, hts⟩ hk hP (c_X8_finds l D cI cL cZ ad m_w m_h m_c m_s m_le m_un m_he m_ro m_wi m_hi m_hr m_hp m_rn m_rw m_rh m_n m_l m_b m_to m_hs m_ho m_tx m_ik m_wt m_ac m_ap m_pa m_im m_ri hAd 1 p1 2 ((m_ap p1.toNatClampNeg) &&& (f_X8_open m_s m_l m_b)) _ hu19) (cwV 4 hts (gV q4_224 q4_226 qs4_6 q1_11 q4_227) rfl rfl rfl hd_X8_finds ⟨Nat.le_of_ble_eq_true rfl, Nat.le_of_ble_eq_true rfl⟩) (va_recv hk.1 hP (ci := 8) (q0 := 0) rfl rfl) rfl hl.1 rfl (Nat.le_of_ble_eq_true rfl) dX8_atPoints_96 ⟨Nat.zero_le _, Nat.zero_le _⟩) hS (fun _ h => h) (fun H locs hz96 hP hS => ?_)
                have hP : va_P D vwCl (mw ad cI cL cZ m_w m_h m_c m_s m_le m_un m_he m_ro m_wi u19.2.1 u19.2.2.1 u19.2.2.2.1 m_rn m_rw m_rh m_n m_l m_b m_to u19.2.2.2.2 m_ho m_tx m_ik m_wt m_ac m_ap m_pa m_im m_ri) H := hP
                subst hr
                exact ret_z hx hb hrt hlocks (by first | assumption | exact bz_ok (by assumption)) hP hS dX8_atPoints_99
          · have hr := (if_pos c66).symm.trans hr
            refine lv_iload hx hb dX8_atPoints_69 (lv_at hl 0 rfl) ?_
            refine lv_iconst (v := 1) hx hb dX8_atPoints_71 (by decide) ?_
            refine lv_icmp_ne (tgt := 79) hx hb dX8_atPoints_72 (by decide) (fun c72 => ?_) (fun c72 => ?_)
            · have hr := (if_neg c72).symm.trans hr
              refine lv_iload_n hx hb dX8_atPoints_79 rfl (lv_at hl 2 rfl) ?_
              refine lv_iconst (v := 1) hx hb dX8_atPoints_80 (by decide) ?_
              refine lv_icmp_ne (tgt := 94) hx hb dX8_atPoints_81 (by decide) (fun c81 => ?_) (fun c81 => ?_)
              · have hr := (if_neg c81).symm.trans hr
                refine lv_iconst (v := 0) hx hb dX8_atPoints_94 (by decide) ?_
                refine lv_lload_n hx hb dX8_atPoints_95 rfl (lv_at hl 1 rfl) ?_
                obtain ⟨u20, hu20⟩ : ∃ z, f_X8_finds 1 p1 0 ((m_ap p1.toNatClampNeg) &&& (f_X8_open m_s m_l m_b)) = z := ⟨_, rfl⟩
                have hr := (bd_eq hu20).symm.trans hr
                refine go_z (ru_V (n := 4) ⟨hx, hb, hml, hown, hts⟩ hk hP (c_X8_finds l D cI cL cZ ad m_w m_h m_c m_s m_le m_un m_he m_ro m_wi m_hi m_hr m_hp m_rn m_rw m_rh m_n m_l m_b m_to m_hs m_ho m_tx m_ik m_wt m_ac m_ap m_pa m_im m_ri hAd 1 p1 0 ((m_ap p1.toNatClampNeg) &&& (f_X8_open m_s m_l m_b)) _ hu20) (cwV 4 hts (gV q4_224 q4_226 qs4_6 q1_11 q4_227) rfl rfl rfl hd_X8_finds ⟨Nat.le_of_ble_eq_true rfl, Nat.le_of_ble_eq_true rfl⟩) (va_recv hk.1 hP (ci := 8) (q0 := 0) rfl rfl) rfl hl.1 rfl (Nat.le_of_ble_eq_true rfl) dX8_atPoints_96 ⟨Nat.zero_le _, Nat.zero_le _⟩) hS (fun _ h => h) (fun H locs hz96 hP hS => ?_)
                have hP : va_P D vwCl (mw ad cI cL cZ m_w m_h m_c m_s m_le m_un m_he m_ro m_wi u20.2.1 u20.2.2.1 u20.2.2.2.1 m_rn m_rw m_rh m_n m_l m_b m_to u20.2.2.2.2 m_ho m_tx m_ik m_wt m_ac m_ap m_pa m_im m_ri) H := hP
                subst hr
                exact ret_z hx hb hrt hlocks (by first | assumption | exact bz_ok (by assumption)) hP hS dX8_atPoints_99
              · have hr := (if_pos c81).symm.trans hr
                refine lv_iload hx hb dX8_atPoints_84 (lv_at hl 0 rfl) ?_
                refine lv_iconst (v := 1) hx hb dX8_atPoints_86 (by decide) ?_
                refine lv_icmp_ne (tgt := 94) hx hb dX8_atPoints_87 (by decide) (fun c87 => ?_) (fun c87 => ?_)
                · have hr := (if_neg c87).symm.trans hr
                  refine lv_iconst (v := 0) hx hb dX8_atPoints_94 (by decide) ?_
                  refine lv_lload_n hx hb dX8_atPoints_95 rfl (lv_at hl 1 rfl) ?_
                  obtain ⟨u21, hu21⟩ : ∃ z, f_X8_finds 1 p1 0 ((m_ap p1.toNatClampNeg) &&& (f_X8_open m_s m_l m_b)) = z := ⟨_, rfl⟩
                  have hr := (bd_eq hu21).symm.trans hr
                  refine go_z (ru_V (n := 4) ⟨hx, hb, hml, hown, hts⟩ hk hP (c_X8_finds l D cI cL cZ ad m_w m_h m_c m_s m_le m_un m_he m_ro m_wi m_hi m_hr m_hp m_rn m_rw m_rh m_n m_l m_b m_to m_hs m_ho m_tx m_ik m_wt m_ac m_ap m_pa m_im m_ri hAd 1 p1 0 ((m_ap p1.toNatClampNeg) &&& (f_X8_open m_s m_l m_b)) _ hu21) (cwV 4 hts (gV q4_224 q4_226 qs4_6 q1_11 q4_227) rfl rfl rfl hd_X8_finds ⟨Nat.le_of_ble_eq_true rfl, Nat.le_of_ble_eq_true rfl⟩) (va_recv hk.1 hP (ci := 8) (q0 := 0) rfl rfl) rfl hl.1 rfl (Nat.le_of_ble_eq_true rfl) dX8_atPoints_96 ⟨Nat.zero_le _, Nat.zero_le _⟩) hS (fun _ h => h) (fun H locs hz96 hP hS => ?_)
                  have hP : va_P D vwCl (mw ad cI cL cZ m_w m_h m_c m_s m_le m_un m_he m_ro m_wi u21.2.1 u21.2.2.1 u21.2.2.2.1 m_rn m_rw m_rh m_n m_l m_b m_to u21.2.2.2.2 m_ho m_tx m_ik m_wt m_ac m_ap m_pa m_im m_ri) H := hP
                  subst hr
                  exact ret_z hx hb hrt hlocks (by first | assumption | exact bz_ok (by assumption)) hP hS dX8_atPoints_99
                · have hr := (if_pos c87).symm.trans hr
                  refine lv_iconst (v := 2) hx hb dX8_atPoints_90 (by decide) ?_
                  refine lv_goto (tgt := 95) hx hb dX8_atPoints_91 (by decide) ?_
                  refine lv_lload_n hx hb dX8_atPoints_95 rfl (lv_at hl 1 rfl) ?_
                  obtain ⟨u22, hu22⟩ : ∃ z, f_X8_finds 1 p1 2 ((m_ap p1.toNatClampNeg) &&& (f_X8_open m_s m_l m_b)) = z := ⟨_, rfl⟩
                  have hr := (bd_eq hu22).symm.trans hr
                  refine go_z (ru_V (n := 4) ⟨hx, hb, hml, hown, hts⟩ hk hP (c_X8_finds l D cI cL cZ ad m_w m_h m_c m_s m_le m_un m_he m_ro m_wi m_hi m_hr m_hp m_rn m_rw m_rh m_n m_l m_b m_to m_hs m_ho m_tx m_ik m_wt m_ac m_ap m_pa m_im m_ri hAd 1 p1 2 ((m_ap p1.toNatClampNeg) &&& (f_X8_open m_s m_l m_b)) _ hu22) (cwV 4 hts (gV q4_224 q4_226 qs4_6 q1_11 q4_227) rfl rfl rfl hd_X8_finds ⟨Nat.le_of_ble_eq_true rfl, Nat.le_of_ble_eq_true rfl⟩) (va_recv hk.1 hP (ci := 8) (q0 := 0) rfl rfl) rfl hl.1 rfl (Nat.le_of_ble_eq_true rfl) dX8_atPoints_96 ⟨Nat.zero_le _, Nat.zero_le _⟩) hS (fun _ h => h) (fun H locs hz96 hP hS => ?_)
                  have hP : va_P D vwCl (mw ad cI cL cZ m_w m_h m_c m_s m_le m_un m_he m_ro m_wi u22.2.1 u22.2.2.1 u22.2.2.2.1 m_rn m_rw m_rh m_n m_l m_b m_to u22.2.2.2.2 m_ho m_tx m_ik m_wt m_ac m_ap m_pa m_im m_ri) H := hP
                  subst hr
                  exact ret_z hx hb hrt hlocks (by first | assumption | exact bz_ok (by assumption)) hP hS dX8_atPoints_99
            · have hr := (if_pos c72).symm.trans hr
              refine lv_iconst (v := 1) hx hb dX8_atPoints_75 (by decide) ?_
              refine lv_goto (tgt := 95) hx hb dX8_atPoints_76 (by decide) ?_
              refine lv_lload_n hx hb dX8_atPoints_95 rfl (lv_at hl 1 rfl) ?_
              obtain ⟨u23, hu23⟩ : ∃ z, f_X8_finds 1 p1 1 ((m_ap p1.toNatClampNeg) &&& (f_X8_open m_s m_l m_b)) = z := ⟨_, rfl⟩
              have hr := (bd_eq hu23).symm.trans hr
              refine go_z (ru_V (n := 4) ⟨hx, hb, hml, hown, hts⟩ hk hP (c_X8_finds l D cI cL cZ ad m_w m_h m_c m_s m_le m_un m_he m_ro m_wi m_hi m_hr m_hp m_rn m_rw m_rh m_n m_l m_b m_to m_hs m_ho m_tx m_ik m_wt m_ac m_ap m_pa m_im m_ri hAd 1 p1 1 ((m_ap p1.toNatClampNeg) &&& (f_X8_open m_s m_l m_b)) _ hu23) (cwV 4 hts (gV q4_224 q4_226 qs4_6 q1_11 q4_227) rfl rfl rfl hd_X8_finds ⟨Nat.le_of_ble_eq_true rfl, Nat.le_of_ble_eq_true rfl⟩) (va_recv hk.1 hP (ci := 8) (q0 := 0) rfl rfl) rfl hl.1 rfl (Nat.le_of_ble_eq_true rfl) dX8_atPoints_96 ⟨Nat.zero_le _, Nat.zero_le _⟩) hS (fun _ h => h) (fun H locs hz96 hP hS => ?_)
              have hP : va_P D vwCl (mw ad cI cL cZ m_w m_h m_c m_s m_le m_un m_he m_ro m_wi u23.2.1 u23.2.2.1 u23.2.2.2.1 m_rn m_rw m_rh m_n m_l m_b m_to u23.2.2.2.2 m_ho m_tx m_ik m_wt m_ac m_ap m_pa m_im m_ri) H := hP
              subst hr
              exact ret_z hx hb hrt hlocks (by first | assumption | exact bz_ok (by assumption)) hP hS dX8_atPoints_99
        · have hr := (if_pos c57).symm.trans hr
          refine lv_iload hx hb dX8_atPoints_60 (lv_at hl 0 rfl) ?_
          refine lv_if_gt (tgt := 75) hx hb dX8_atPoints_62 (by decide) (fun c62 => ?_) (fun c62 => ?_)
          · have hr := (if_pos c62).symm.trans hr
            refine lv_iconst (v := 1) hx hb dX8_atPoints_75 (by decide) ?_
            refine lv_goto (tgt := 95) hx hb dX8_atPoints_76 (by decide) ?_
            refine lv_lload_n hx hb dX8_atPoints_95 rfl (lv_at hl 1 rfl) ?_
            obtain ⟨u24, hu24⟩ : ∃ z, f_X8_finds 1 p1 1 ((m_ap p1.toNatClampNeg) &&& (f_X8_open m_s m_l m_b)) = z := ⟨_, rfl⟩
            have hr := (bd_eq hu24).symm.trans hr
            refine go_z (ru_V (n := 4) ⟨hx, hb, hml, hown, hts⟩ hk hP (c_X8_finds l D cI cL cZ ad m_w m_h m_c m_s m_le m_un m_he m_ro m_wi m_hi m_hr m_hp m_rn m_rw m_rh m_n m_l m_b m_to m_hs m_ho m_tx m_ik m_wt m_ac m_ap m_pa m_im m_ri hAd 1 p1 1 ((m_ap p1.toNatClampNeg) &&& (f_X8_open m_s m_l m_b)) _ hu24) (cwV 4 hts (gV q4_224 q4_226 qs4_6 q1_11 q4_227) rfl rfl rfl hd_X8_finds ⟨Nat.le_of_ble_eq_true rfl, Nat.le_of_ble_eq_true rfl⟩) (va_recv hk.1 hP (ci := 8) (q0 := 0) rfl rfl) rfl hl.1 rfl (Nat.le_of_ble_eq_true rfl) dX8_atPoints_96 ⟨Nat.zero_le _, Nat.zero_le _⟩) hS (fun _ h => h) (fun H locs hz96 hP hS => ?_)
            have hP : va_P D vwCl (mw ad cI cL cZ m_w m_h m_c m_s m_le m_un m_he m_ro m_wi u24.2.1 u24.2.2.1 u24.2.2.2.1 m_rn m_rw m_rh m_n m_l m_b m_to u24.2.2.2.2 m_ho m_tx m_ik m_wt m_ac m_ap m_pa m_im m_ri) H := hP
            subst hr
            exact ret_z hx hb hrt hlocks (by first | assumption | exact bz_ok (by assumption)) hP hS dX8_atPoints_99
          · have hr := (if_neg c62).symm.trans hr
            refine lv_iload_n hx hb dX8_atPoints_65 rfl (lv_at hl 2 rfl) ?_
            refine lv_if_ne (tgt := 79) hx hb dX8_atPoints_66 (by decide) (fun c66 => ?_) (fun c66 => ?_)
            · have hr := (if_neg c66).symm.trans hr
              refine lv_iload_n hx hb dX8_atPoints_79 rfl (lv_at hl 2 rfl) ?_
              refine lv_iconst (v := 1) hx hb dX8_atPoints_80 (by decide) ?_
              refine lv_icmp_ne (tgt := 94) hx hb dX8_atPoints_81 (by decide) (fun c81 => ?_) (fun c81 => ?_)
              · have hr := (if_neg c81).symm.trans hr
                refine lv_iconst (v := 0) hx hb dX8_atPoints_94 (by decide) ?_
                refine lv_lload_n hx hb dX8_atPoints_95 rfl (lv_at hl 1 rfl) ?_
                obtain ⟨u25, hu25⟩ : ∃ z, f_X8_finds 1 p1 0 ((m_ap p1.toNatClampNeg) &&& (f_X8_open m_s m_l m_b)) = z := ⟨_, rfl⟩
                have hr := (bd_eq hu25).symm.trans hr
                refine go_z (ru_V (n := 4) ⟨hx, hb, hml, hown, hts⟩ hk hP (c_X8_finds l D cI cL cZ ad m_w m_h m_c m_s m_le m_un m_he m_ro m_wi m_hi m_hr m_hp m_rn m_rw m_rh m_n m_l m_b m_to m_hs m_ho m_tx m_ik m_wt m_ac m_ap m_pa m_im m_ri hAd 1 p1 0 ((m_ap p1.toNatClampNeg) &&& (f_X8_open m_s m_l m_b)) _ hu25) (cwV 4 hts (gV q4_224 q4_226 qs4_6 q1_11 q4_227) rfl rfl rfl hd_X8_finds ⟨Nat.le_of_ble_eq_true rfl, Nat.le_of_ble_eq_true rfl⟩) (va_recv hk.1 hP (ci := 8) (q0 := 0) rfl rfl) rfl hl.1 rfl (Nat.le_of_ble_eq_true rfl) dX8_atPoints_96 ⟨Nat.zero_le _, Nat.zero_le _⟩) hS (fun _ h => h) (fun H locs hz96 hP hS => ?_)
                have hP : va_P D vwCl (mw ad cI cL cZ m_w m_h m_c m_s m_le m_un m_he m_ro m_wi u25.2.1 u25.2.2.1 u25.2.2.2.1 m_rn m_rw m_rh m_n m_l m_b m_to u25.2.2.2.2 m_ho m_tx m_ik m_wt m_ac m_ap m_pa m_im m_ri) H := hP
                subst hr
                exact ret_z hx hb hrt hlocks (by first | assumption | exact bz_ok (by assumption)) hP hS dX8_atPoints_99
              · have hr := (if_pos c81).symm.trans hr
                refine lv_iload hx hb dX8_atPoints_84 (lv_at hl 0 rfl) ?_
                refine lv_iconst (v := 1) hx hb dX8_atPoints_86 (by decide) ?_
                refine lv_icmp_ne (tgt := 94) hx hb dX8_atPoints_87 (by decide) (fun c87 => ?_) (fun c87 => ?_)
                · have hr := (if_neg c87).symm.trans hr
                  refine lv_iconst (v := 0) hx hb dX8_atPoints_94 (by decide) ?_
                  refine lv_lload_n hx hb dX8_atPoints_95 rfl (lv_at hl 1 rfl) ?_
                  obtain ⟨u26, hu26⟩ : ∃ z, f_X8_finds 1 p1 0 ((m_ap p1.toNatClampNeg) &&& (f_X8_open m_s m_l m_b)) = z := ⟨_, rfl⟩
                  have hr := (bd_eq hu26).symm.trans hr
                  refine go_z (ru_V (n := 4) ⟨hx, hb, hml, hown, hts⟩ hk hP (c_X8_finds l D cI cL cZ ad m_w m_h m_c m_s m_le m_un m_he m_ro m_wi m_hi m_hr m_hp m_rn m_rw m_rh m_n m_l m_b m_to m_hs m_ho m_tx m_ik m_wt m_ac m_ap m_pa m_im m_ri hAd 1 p1 0 ((m_ap p1.toNatClampNeg) &&& (f_X8_open m_s m_l m_b)) _ hu26) (cwV 4 hts (gV q4_224 q4_226 qs4_6 q1_11 q4_227) rfl rfl rfl hd_X8_finds ⟨Nat.le_of_ble_eq_true rfl, Nat.le_of_ble_eq_true rfl⟩) (va_recv hk.1 hP (ci := 8) (q0 := 0) rfl rfl) rfl hl.1 rfl (Nat.le_of_ble_eq_true rfl) dX8_atPoints_96 ⟨Nat.zero_le _, Nat.zero_le _⟩) hS (fun _ h => h) (fun H locs hz96 hP hS => ?_)
                  have hP : va_P D vwCl (mw ad cI cL cZ m_w m_h m_c m_s m_le m_un m_he m_ro m_wi u26.2.1 u26.2.2.1 u26.2.2.2.1 m_rn m_rw m_rh m_n m_l m_b m_to u26.2.2.2.2 m_ho m_tx m_ik m_wt m_ac m_ap m_pa m_im m_ri) H := hP
                  subst hr
                  exact ret_z hx hb hrt hlocks (by first | assumption | exact bz_ok (by assumption)) hP hS dX8_atPoints_99
                · have hr := (if_pos c87).symm.trans hr
                  refine lv_iconst (v := 2) hx hb dX8_atPoints_90 (by decide) ?_
                  refine lv_goto (tgt := 95) hx hb dX8_atPoints_91 (by decide) ?_
                  refine lv_lload_n hx hb dX8_atPoints_95 rfl (lv_at hl 1 rfl) ?_
                  obtain ⟨u27, hu27⟩ : ∃ z, f_X8_finds 1 p1 2 ((m_ap p1.toNatClampNeg) &&& (f_X8_open m_s m_l m_b)) = z := ⟨_, rfl⟩
                  have hr := (bd_eq hu27).symm.trans hr
                  refine go_z (ru_V (n := 4) ⟨hx, hb, hml, hown, hts⟩ hk hP (c_X8_finds l D cI cL cZ ad m_w m_h m_c m_s m_le m_un m_he m_ro m_wi m_hi m_hr m_hp m_rn m_rw m_rh m_n m_l m_b m_to m_hs m_ho m_tx m_ik m_wt m_ac m_ap m_pa m_im m_ri hAd 1 p1 2 ((m_ap p1.toNatClampNeg) &&& (f_X8_open m_s m_l m_b)) _ hu27) (cwV 4 hts (gV q4_224 q4_226 qs4_6 q1_11 q4_227) rfl rfl rfl hd_X8_finds ⟨Nat.le_of_ble_eq_true rfl, Nat.le_of_ble_eq_true rfl⟩) (va_recv hk.1 hP (ci := 8) (q0 := 0) rfl rfl) rfl hl.1 rfl (Nat.le_of_ble_eq_true rfl) dX8_atPoints_96 ⟨Nat.zero_le _, Nat.zero_le _⟩) hS (fun _ h => h) (fun H locs hz96 hP hS => ?_)
                  have hP : va_P D vwCl (mw ad cI cL cZ m_w m_h m_c m_s m_le m_un m_he m_ro m_wi u27.2.1 u27.2.2.1 u27.2.2.2.1 m_rn m_rw m_rh m_n m_l m_b m_to u27.2.2.2.2 m_ho m_tx m_ik m_wt m_ac m_ap m_pa m_im m_ri) H := hP
                  subst hr
                  exact ret_z hx hb hrt hlocks (by first | assumption | exact bz_ok (by assumption)) hP hS dX8_atPoints_99
            · have hr := (if_pos c66).symm.trans hr
              refine lv_iload hx hb dX8_atPoints_69 (lv_at hl 0 rfl) ?_
              refine lv_iconst (v := 1) hx hb dX8_atPoints_71 (by decide) ?_
              refine lv_icmp_ne (tgt := 79) hx hb dX8_atPoints_72 (by decide) (fun c72 => ?_) (fun c72 => ?_)
              · have hr := (if_neg c72).symm.trans hr
                refine lv_iload_n hx hb dX8_atPoints_79 rfl (lv_at hl 2 rfl) ?_
                refine lv_iconst (v := 1) hx hb dX8_atPoints_80 (by decide) ?_
                refine lv_icmp_ne (tgt := 94) hx hb dX8_atPoints_81 (by decide) (fun c81 => ?_) (fun c81 => ?_)
                · have hr := (if_neg c81).symm.trans hr
                  refine lv_iconst (v := 0) hx hb dX8_atPoints_94 (by decide) ?_
                  refine lv_lload_n hx hb dX8_atPoints_95 rfl (lv_at hl 1 rfl) ?_
                  obtain ⟨u28, hu28⟩ : ∃ z, f_X8_finds 1 p1 0 ((m_ap p1.toNatClampNeg) &&& (f_X8_open m_s m_l m_b)) = z := ⟨_, rfl⟩
                  have hr := (bd_eq hu28).symm.trans hr
                  refine go_z (ru_V (n := 4) ⟨hx, hb, hml, hown, hts⟩ hk hP (c_X8_finds l D cI cL cZ ad m_w m_h m_c m_s m_le m_un m_he m_ro m_wi m_hi m_hr m_hp m_rn m_rw m_rh m_n m_l m_b m_to m_hs m_ho m_tx m_ik m_wt m_ac m_ap m_pa m_im m_ri hAd 1 p1 0 ((m_ap p1.toNatClampNeg) &&& (f_X8_open m_s m_l m_b)) _ hu28) (cwV 4 hts (gV q4_224 q4_226 qs4_6 q1_11 q4_227) rfl rfl rfl hd_X8_finds ⟨Nat.le_of_ble_eq_true rfl, Nat.le_of_ble_eq_true rfl⟩) (va_recv hk.1 hP (ci := 8) (q0 := 0) rfl rfl) rfl hl.1 rfl (Nat.le_of_ble_eq_true rfl) dX8_atPoints_96 ⟨Nat.zero_le _, Nat.zero_le _⟩) hS (fun _ h => h) (fun H locs hz96 hP hS => ?_)
                  have hP : va_P D vwCl (mw ad cI cL cZ m_w m_h m_c m_s m_le m_un m_he m_ro m_wi u28.2.1 u28.2.2.1 u28.2.2.2.1 m_rn m_rw m_rh m_n m_l m_b m_to u28.2.2.2.2 m_ho m_tx m_ik m_wt m_ac m_ap m_pa m_im m_ri) H := hP
                  subst hr
                  exact ret_z hx hb hrt hlocks (by first | assumption | exact bz_ok (by assumption)) hP hS dX8_atPoints_99
                · have hr := (if_pos c81).symm.trans hr
                  refine lv_iload hx hb dX8_atPoints_84 (lv_at hl 0 rfl) ?_
                  refine lv_iconst (v := 1) hx hb dX8_atPoints_86 (by decide) ?_
                  refine lv_icmp_ne (tgt := 94) hx hb dX8_atPoints_87 (by decide) (fun c87 => ?_) (fun c87 => ?_)
                  · have hr := (if_neg c87).symm.trans hr
                    refine lv_iconst (v := 0) hx hb dX8_atPoints_94 (by decide) ?_
                    refine lv_lload_n hx hb dX8_atPoints_95 rfl (lv_at hl 1 rfl) ?_
                    obtain ⟨u29, hu29⟩ : ∃ z, f_X8_finds 1 p1 0 ((m_ap p1.toNatClampNeg) &&& (f_X8_open m_s m_l m_b)) = z := ⟨_, rfl⟩
                    have hr := (bd_eq hu29).symm.trans hr
                    refine go_z (ru_V (n := 4) ⟨hx, hb, hml, hown, hts⟩ hk hP (c_X8_finds l D cI cL cZ ad m_w m_h m_c m_s m_le m_un m_he m_ro m_wi m_hi m_hr m_hp m_rn m_rw m_rh m_n m_l m_b m_to m_hs m_ho m_tx m_ik m_wt m_ac m_ap m_pa m_im m_ri hAd 1 p1 0 ((m_ap p1.toNatClampNeg) &&& (f_X8_open m_s m_l m_b)) _ hu29) (cwV 4 hts (gV q4_224 q4_226 qs4_6 q1_11 q4_227) rfl rfl rfl hd_X8_finds ⟨Nat.le_of_ble_eq_true rfl, Nat.le_of_ble_eq_true rfl⟩) (va_recv hk.1 hP (ci := 8) (q0 := 0) rfl rfl) rfl hl.1 rfl (Nat.le_of_ble_eq_true rfl) dX8_atPoints_96 ⟨Nat.zero_le _, Nat.zero_le _⟩) hS (fun _ h => h) (fun H locs hz96 hP hS => ?_)
                    have hP : va_P D vwCl (mw ad cI cL cZ m_w m_h m_c m_s m_le m_un m_he m_ro m_wi u29.2.1 u29.2.2.1 u29.2.2.2.1 m_rn m_rw m_rh m_n m_l m_b m_to u29.2.2.2.2 m_ho m_tx m_ik m_wt m_ac m_ap m_pa m_im m_ri) H := hP
                    subst hr
                    exact ret_z hx hb hrt hlocks (by first | assumption | exact bz_ok (by assumption)) hP hS dX8_atPoints_99
                  · have hr := (if_pos c87).symm.trans hr
                    refine lv_iconst (v := 2) hx hb dX8_atPoints_90 (by decide) ?_
                    refine lv_goto (tgt := 95) hx hb dX8_atPoints_91 (by decide) ?_
                    refine lv_lload_n hx hb dX8_atPoints_95 rfl (lv_at hl 1 rfl) ?_
                    obtain ⟨u30, hu30⟩ : ∃ z, f_X8_finds 1 p1 2 ((m_ap p1.toNatClampNeg) &&& (f_X8_open m_s m_l m_b)) = z := ⟨_, rfl⟩
                    have hr := (bd_eq hu30).symm.trans hr
                    refine go_z (ru_V (n := 4) ⟨hx, hb, hml, hown, hts⟩ hk hP (c_X8_finds l D cI cL cZ ad m_w m_h m_c m_s m_le m_un m_he m_ro m_wi m_hi m_hr m_hp m_rn m_rw m_rh m_n m_l m_b m_to m_hs m_ho m_tx m_ik m_wt m_ac m_ap m_pa m_im m_ri hAd 1 p1 2 ((m_ap p1.toNatClampNeg) &&& (f_X8_open m_s m_l m_b)) _ hu30) (cwV 4 hts (gV q4_224 q4_226 qs4_6 q1_11 q4_227) rfl rfl rfl hd_X8_finds ⟨Nat.le_of_ble_eq_true rfl, Nat.le_of_ble_eq_true rfl⟩) (va_recv hk.1 hP (ci := 8) (q0 := 0) rfl rfl) rfl hl.1 rfl (Nat.le_of_ble_eq_true rfl) dX8_atPoints_96 ⟨Nat.zero_le _, Nat.zero_le _⟩) hS (fun _ h => h) (fun H locs hz96 hP hS => ?_)
                    have hP : va_P D vwCl (mw ad cI cL cZ m_w m_h m_c m_s m_le m_un m_he m_ro m_wi u30.2.1 u30.2.2.1 u30.2.2.2.1 m_rn m_rw m_rh m_n m_l m_b m_to u30.2.2.2.2 m_ho m_tx m_ik m_wt m_ac m_ap m_pa m_im m_ri) H := hP
                    subst hr
                    exact ret_z hx hb hrt hlocks (by first | assumption | exact bz_ok (by assumption)) hP hS dX8_atPoints_99
              · have hr := (if_pos c72).symm.trans hr
                refine lv_iconst (v := 1) hx hb dX8_atPoints_75 (by decide) ?_
                refine lv_goto (tgt := 95) hx hb dX8_atPoints_76 (by decide) ?_
                refine lv_lload_n hx hb dX8_atPoints_95 rfl (lv_at hl 1 rfl) ?_
                obtain ⟨u31, hu31⟩ : ∃ z, f_X8_finds 1 p1 1 ((m_ap p1.toNatClampNeg) &&& (f_X8_open m_s m_l m_b)) = z := ⟨_, rfl⟩
                have hr := (bd_eq hu31).symm.trans hr
                refine go_z (ru_V (n := 4) ⟨hx, hb, hml, hown, hts⟩ hk hP (c_X8_finds l D cI cL cZ ad m_w m_h m_c m_s m_le m_un m_he m_ro m_wi m_hi m_hr m_hp m_rn m_rw m_rh m_n m_l m_b m_to m_hs m_ho m_tx m_ik m_wt m_ac m_ap m_pa m_im m_ri hAd 1 p1 1 ((m_ap p1.toNatClampNeg) &&& (f_X8_open m_s m_l m_b)) _ hu31) (cwV 4 hts (gV q4_224 q4_226 qs4_6 q1_11 q4_227) rfl rfl rfl hd_X8_finds ⟨Nat.le_of_ble_eq_true rfl, Nat.le_of_ble_eq_true rfl⟩) (va_recv hk.1 hP (ci := 8) (q0 := 0) rfl rfl) rfl hl.1 rfl (Nat.le_of_ble_eq_true rfl) dX8_atPoints_96 ⟨Nat.zero_le _, Nat.zero_le _⟩) hS (fun _ h => h) (fun H locs hz96 hP hS => ?_)
                have hP : va_P D vwCl (mw ad cI cL cZ m_w m_h m_c m_s m_le m_un m_he m_ro m_wi u31.2.1 u31.2.2.1 u31.2.2.2.1 m_rn m_rw m_rh m_n m_l m_b m_to u31.2.2.2.2 m_ho m_tx m_ik m_wt m_ac m_ap m_pa m_im m_ri) H := hP
                subst hr
                exact ret_z hx hb hrt hlocks (by first | assumption | exact bz_ok (by assumption)) hP hS dX8_atPoints_99
      · have hr := (if_pos c48).symm.trans hr
        refine lv_iconst (v := 3) hx hb dX8_atPoints_51 (by decide) ?_
        refine lv_goto (tgt := 95) hx hb dX8_atPoints_52 (by decide) ?_
        refine lv_lload_n hx hb dX8_atPoints_95 rfl (lv_at hl 1 rfl) ?_
        obtain ⟨u32, hu32⟩ : ∃ z, f_X8_finds 1 p1 3 ((m_ap p1.toNatClampNeg) &&& (f_X8_open m_s m_l m_b)) = z := ⟨_, rfl⟩
        have hr := (bd_eq hu32).symm.trans hr
        refine go_z (ru_V (n := 4) ⟨hx, hb, hml, hown, hts⟩ hk hP (c_X8_finds l D cI cL cZ ad m_w m_h m_c m_s m_le m_un m_he m_ro m_wi m_hi m_hr m_hp m_rn m_rw m_rh m_n m_l m_b m_to m_hs m_ho m_tx m_ik m_wt m_ac m_ap m_pa m_im m_ri hAd 1 p1 3 ((m_ap p1.toNatClampNeg) &&& (f_X8_open m_s m_l m_b)) _ hu32) (cwV 4 hts (gV q4_224 q4_226 qs4_6 q1_11 q4_227) rfl rfl rfl hd_X8_finds ⟨Nat.le_of_ble_eq_true rfl, Nat.le_of_ble_eq_true rfl⟩) (va_recv hk.1 hP (ci := 8) (q0 := 0) rfl rfl) rfl hl.1 rfl (Nat.le_of_ble_eq_true rfl) dX8_atPoints_96 ⟨Nat.zero_le _, Nat.zero_le _⟩) hS (fun _ h => h) (fun H locs hz96 hP hS => ?_)
        have hP : va_P D vwCl (mw ad cI cL cZ m_w m_h m_c m_s m_le m_un m_he m_ro m_wi u32.2.1 u32.2.2.1 u32.2.2.2.1 m_rn m_rw m_rh m_n m_l m_b m_to u32.2.2.2.2 m_ho m_tx m_ik m_wt m_ac m_ap m_pa m_im m_ri) H := hP
        subst hr
        exact ret_z hx hb hrt hlocks (by first | assumption | exact bz_ok (by assumption)) hP hS dX8_atPoints_99
