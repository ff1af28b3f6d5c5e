theorem hd_X4_lying : yX4_lying.cls = RX4 ∧ yX4_lying.cls ≠ "java/lang/invoke/MethodHandle" ∧ yX4_lying.cls ≠ "java/lang/invoke/VarHandle" ∧ (parseMethodDescriptor yX4_lying.desc).map (fun d => d.parameters.length) = some 2 := by decide +kernel
def f_X4_lying (p1 : Int32) (p2 : Int32) (s_w : Int32) : Int32 := (p2 * s_w) + p1
set_option maxHeartbeats 4000000 in
set_option maxRecDepth 100000 in
theorem c_X4_lying (l : Launch) (D : va_G) (cI cL cZ : ClassId) (ad : Nat → Nat) (c_sr t_n t_r t_w s_w s_h s_c s_p s_s p_nx p_sz r_k r_r r_p l_z q_z : Int32) (t_t b_l b_b b_n r_t l_l l_b l_n q_l q_b q_n : Int64) (t_le s_cs s_ps s_ha s_en pk ik : Nat → Int32) (s_ro s_me s_be s_se s_co pl pb pn il ib im l_a q_a : Nat → Int64) (hAd : cInj ad) (p1 p2 : Int32) (r : Int32) (hr : f_X4_lying p1 p2 s_w = r) : MI l yX4_lying (Cond.code yX4_lying cX4_lying 3 (some .int) :: W0) 0 0 D cI cL cZ (cAd ad) [.ref (ad 3), .int p1, .int p2] (cw ad cI cL cZ c_sr t_n t_r t_w s_w s_h s_c s_p s_s p_nx p_sz r_k r_r r_p l_z q_z t_t b_l b_b b_n r_t l_l l_b l_n q_l q_b q_n t_le s_cs s_ps s_ha s_en pk ik s_ro s_me s_be s_se s_co pl pb pn il ib im l_a q_a) r (cw ad cI cL cZ c_sr t_n t_r t_w s_w s_h s_c s_p s_s p_nx p_sz r_k r_r r_p l_z q_z t_t b_l b_b b_n r_t l_l l_b l_n q_l q_b q_n t_le s_cs s_ps s_ha s_en pk ik s_ro s_me s_be s_se s_co pl pb pn il ib im l_a q_a) := by
  refine mk_start (cc := cX4_lying) (maxL := 3) (ret := (some .int)) (by decide) rfl (Nat.le_of_ble_eq_true rfl) ?_
  intro p e s m below meth c ls C hP hS hl
  obtain ⟨hx, hb, hml, hrt, hlocks, hown, hts, hk⟩ := C
  have hown : s.vm.findClass RX4 = some m.cls := hown
  have hl : lv_has ls 3 [(0, .ref (ad 3)), (1, .int p1), (2, .int p2)] := hl
  rw [f_X4_lying] at hr
  refine lv_iload_n hx hb dX4_lying_0 rfl (lv_at hl 2 rfl) ?_
  refine lv_aload_n hx hb dX4_lying_1 rfl (lv_at hl 0 rfl) ?_
  refine va_get (D := D) (ci := 4) (v := .int s_w) (C := RX4) (T := TX4) (N := 14) hx hb hts u_X4 hown hk.1 hP 3 rfl rfl 0 (by decide) (hts _ q1_56) (fun _ h9 => h9) rfl dX4_lying_2 ?_
  refine lv_imul hx hb dX4_lying_5 ?_
  refine lv_iload_n hx hb dX4_lying_6 rfl (lv_at hl 1 rfl) ?_
  refine lv_iadd hx hb dX4_lying_7 ?_
  subst hr
  exact ret_i hx hb hrt hlocks hP hS dX4_lying_8
theorem hd_X4_standing : yX4_standing.cls = RX4 ∧ yX4_standing.cls ≠ "java/lang/invoke/MethodHandle" ∧ yX4_standing.cls ≠ "java/lang/invoke/VarHandle" ∧ (parseMethodDescriptor yX4_standing.desc).map (fun d => d.parameters.length) = some 2 := by decide +kernel
def f_X4_standing (p1 : Int32) (p2 : Int32) (s_w : Int32) (s_h : Int32) : Int32 := ((s_w * (s_h + 1)) + (p2 * (s_w + 1))) + p1
set_option maxHeartbeats 4000000 in
set_option maxRecDepth 100000 in
theorem c_X4_standing (l : Launch) (D : va_G) (cI cL cZ : ClassId) (ad : Nat → Nat) (c_sr t_n t_r t_w s_w s_h s_c s_p s_s p_nx p_sz r_k r_r r_p l_z q_z : Int32) (t_t b_l b_b b_n r_t l_l l_b l_n q_l q_b q_n : Int64) (t_le s_cs s_ps s_ha s_en pk ik : Nat → Int32) (s_ro s_me s_be s_se s_co pl pb pn il ib im l_a q_a : Nat → Int64) (hAd : cInj ad) (p1 p2 : Int32) (r : Int32) (hr : f_X4_standing p1 p2 s_w s_h = r) : MI l yX4_standing (Cond.code yX4_standing cX4_standing 3 (some .int) :: W0) 0 0 D cI cL cZ (cAd ad) [.ref (ad 3), .int p1, .int p2] (cw ad cI cL cZ c_sr t_n t_r t_w s_w s_h s_c s_p s_s p_nx p_sz r_k r_r r_p l_z q_z t_t b_l b_b b_n r_t l_l l_b l_n q_l q_b q_n t_le s_cs s_ps s_ha s_en pk ik s_ro s_me s_be s_se s_co pl pb pn il ib im l_a q_a) r (cw ad cI cL cZ c_sr t_n t_r t_w s_w s_h s_c s_p s_s p_nx p_sz r_k r_r r_p l_z q_z t_t b_l b_b b_n r_t l_l l_b l_n q_l q_b q_n t_le s_cs s_ps s_ha s_en pk ik s_ro s_me s_be s_se s_co pl pb pn il ib im l_a q_a) := by
  refine mk_start (cc := cX4_standing) (maxL := 3) (ret := (some .int)) (by decide) rfl (Nat.le_of_ble_eq_true rfl) ?_
  intro p e s m below meth c ls C hP hS hl
  obtain ⟨hx, hb, hml, hrt, hlocks, hown, hts, hk⟩ := C
  have hown : s.vm.findClass RX4 = some m.cls := hown
  have hl : lv_has ls 3 [(0, .ref (ad 3)), (1, .int p1), (2, .int p2)] := hl
  rw [f_X4_standing] at hr
  refine lv_aload_n hx hb dX4_standing_0 rfl (lv_at hl 0 rfl) ?_
  refine va_get (D := D) (ci := 4) (v := .int s_w) (C := RX4) (T := TX4) (N := 14) hx hb hts u_X4 hown hk.1 hP 3 rfl rfl 0 (by decide) (hts _ q1_56) (fun _ h9 => h9) rfl dX4_standing_1 ?_
  refine lv_aload_n hx hb dX4_standing_4 rfl (lv_at hl 0 rfl) ?_
  refine va_get (D := D) (ci := 4) (v := .int s_h) (C := RX4) (T := TX4) (N := 14) hx hb hts u_X4 hown hk.1 hP 3 rfl rfl 1 (by decide) (hts _ q1_58) (fun _ h9 => h9) rfl dX4_standing_5 ?_
  refine lv_iconst (v := 1) hx hb dX4_standing_8 (by decide) ?_
  refine lv_iadd hx hb dX4_standing_9 ?_
  refine lv_imul hx hb dX4_standing_10 ?_
  refine lv_iload_n hx hb dX4_standing_11 rfl (lv_at hl 2 rfl) ?_
  refine lv_aload_n hx hb dX4_standing_12 rfl (lv_at hl 0 rfl) ?_
  refine va_get (D := D) (ci := 4) (v := .int s_w) (C := RX4) (T := TX4) (N := 14) hx hb hts u_X4 hown hk.1 hP 3 rfl rfl 0 (by decide) (hts _ q1_56) (fun _ h9 => h9) rfl dX4_standing_13 ?_
  refine lv_iconst (v := 1) hx hb dX4_standing_16 (by decide) ?_
  refine lv_iadd hx hb dX4_standing_17 ?_
  refine lv_imul hx hb dX4_standing_18 ?_
  refine lv_iadd hx hb dX4_standing_19 ?_
  refine lv_iload_n hx hb dX4_standing_20 rfl (lv_at hl 1 rfl) ?_
  refine lv_iadd hx hb dX4_standing_21 ?_
  subst hr
  exact ret_i hx hb hrt hlocks hP hS dX4_standing_22
theorem hd_X4_roundCell : yX4_roundCell.cls = RX4 ∧ yX4_roundCell.cls ≠ "java/lang/invoke/MethodHandle" ∧ yX4_roundCell.cls ≠ "java/lang/invoke/VarHandle" ∧ (parseMethodDescriptor yX4_roundCell.desc).map (fun d => d.parameters.length) = some 1 := by decide +kernel
def f_X4_roundCell (p1 : Int32) (s_ro : Nat → Int64) : Int64 := (if p1 < 0 then 0 else (if 17 ≤ p1 then 0 else s_ro p1.toNatClampNeg))
set_option maxHeartbeats 4000000 in
set_option maxRecDepth 100000 in
theorem c_X4_roundCell (l : Launch) (D : va_G) (cI cL cZ : ClassId) (ad : Nat → Nat) (c_sr t_n t_r t_w s_w s_h s_c s_p s_s p_nx p_sz r_k r_r r_p l_z q_z : Int32) (t_t b_l b_b b_n r_t l_l l_b l_n q_l q_b q_n : Int64) (t_le s_cs s_ps s_ha s_en pk ik : Nat → Int32) (s_ro s_me s_be s_se s_co pl pb pn il ib im l_a q_a : Nat → Int64) (hAd : cInj ad) (p1 : Int32) (r : Int64) (hr : f_X4_roundCell p1 s_ro = r) : ML l yX4_roundCell (Cond.code yX4_roundCell cX4_roundCell 2 (some .long) :: W0) 0 0 D cI cL cZ (cAd ad) [.ref (ad 3), .int p1] (cw ad cI cL cZ c_sr t_n t_r t_w s_w s_h s_c s_p s_s p_nx p_sz r_k r_r r_p l_z q_z t_t b_l b_b b_n r_t l_l l_b l_n q_l q_b q_n t_le s_cs s_ps s_ha s_en pk ik s_ro s_me s_be s_se s_co pl pb pn il ib im l_a q_a) r (cw ad cI cL cZ c_sr t_n t_r t_w s_w s_h s_c s_p s_s p_nx p_sz r_k r_r r_p l_z q_z t_t b_l b_b b_n r_t l_l l_b l_n q_l q_b q_n t_le s_cs s_ps s_ha s_en pk ik s_ro s_me s_be s_se s_co pl pb pn il ib im l_a q_a) := by
  refine mk_start (cc := cX4_roundCell) (maxL := 2) (ret := (some .long)) (by decide) rfl (Nat.le_of_ble_eq_true rfl) ?_
  intro p e s m below meth c ls C hP hS hl
  obtain ⟨hx, hb, hml, hrt, hlocks, hown, hts, hk⟩ := C
  have hown : s.vm.findClass RX4 = some m.cls := hown
  have hl : lv_has ls 2 [(0, .ref (ad 3)), (1, .int p1)] := hl
  rw [f_X4_roundCell] at hr
  refine lv_iload_n hx hb dX4_roundCell_0 rfl (lv_at hl 1 rfl) ?_
  refine lv_if_lt (tgt := 22) hx hb dX4_roundCell_1 (by decide) (fun c1 => ?_) (fun c1 => ?_)
  · have hr := (if_pos c1).symm.trans hr
    refine lv_lconst (v := 0) hx hb dX4_roundCell_22 (by decide) ?_
    subst hr
    exact ret_l hx hb hrt hlocks hP hS dX4_roundCell_23
  · have hr := (if_neg c1).symm.trans hr
    refine lv_iload_n hx hb dX4_roundCell_4 rfl (lv_at hl 1 rfl) ?_
    refine lv_aload_n hx hb dX4_roundCell_5 rfl (lv_at hl 0 rfl) ?_
    refine va_get (D := D) (ci := 4) (v := .ref (ad 8)) (C := RX4) (T := TX4) (N := 14) hx hb hts u_X4 hown hk.1 hP 3 rfl rfl 9 (by decide) (hts _ q1_73) (fun _ h9 => h9) rfl dX4_roundCell_6 ?_
    refine va_alen (v := 17) hx hb hk.1 hP 8 1 rfl rfl rfl dX4_roundCell_9 ?_
    refine lv_icmp_ge (tgt := 22) hx hb dX4_roundCell_10 (by decide) (fun c10 => ?_) (fun c10 => ?_)
    · have hr := (if_pos c10).symm.trans hr
      refine lv_lconst (v := 0) hx hb dX4_roundCell_22 (by decide) ?_
      subst hr
      exact ret_l hx hb hrt hlocks hP hS dX4_roundCell_23
    · have hr := (if_neg c10).symm.trans hr
      refine lv_aload_n hx hb dX4_roundCell_13 rfl (lv_at hl 0 rfl) ?_
      refine va_get (D := D) (ci := 4) (v := .ref (ad 8)) (C := RX4) (T := TX4) (N := 14) hx hb hts u_X4 hown hk.1 hP 3 rfl rfl 9 (by decide) (hts _ q1_73) (fun _ h9 => h9) rfl dX4_roundCell_14 ?_
      refine lv_iload_n hx hb dX4_roundCell_17 rfl (lv_at hl 1 rfl) ?_
      refine va_lald hx hb hk.1 hP 8 1 (rfl) rfl (vin_c (nn_of c1) c10 (by decide)) dX4_roundCell_18 ?_
      refine lv_goto (tgt := 23) hx hb dX4_roundCell_19 (by decide) ?_
      subst hr
      exact ret_l hx hb hrt hlocks hP hS dX4_roundCell_23
theorem hd_X4_atPoint : yX4_atPoint.cls = RX4 ∧ yX4_atPoint.cls ≠ "java/lang/invoke/MethodHandle" ∧ yX4_atPoint.cls ≠ "java/lang/invoke/VarHandle" ∧ (parseMethodDescriptor yX4_atPoint.desc).map (fun d => d.parameters.length) = some 1 := by decide +kernel
def f_X4_atPoint (p1 : Int32) (s_me : Nat → Int64) : Int64 := (if p1 < 0 then 0 else (if 25 ≤ p1 then 0 else s_me p1.toNatClampNeg))
set_option maxHeartbeats 4000000 in
set_option maxRecDepth 100000 in
theorem c_X4_atPoint (l : Launch) (D : va_G) (cI cL cZ : ClassId) (ad : Nat → Nat) (c_sr t_n t_r t_w s_w s_h s_c s_p s_s p_nx p_sz r_k r_r r_p l_z q_z : Int32) (t_t b_l b_b b_n r_t l_l l_b l_n q_l q_b q_n : Int64) (t_le s_cs s_ps s_ha s_en pk ik : Nat → Int32) (s_ro s_me s_be s_se s_co pl pb pn il ib im l_a q_a : Nat → Int64) (hAd : cInj ad) (p1 : Int32) (r : Int64) (hr : f_X4_atPoint p1 s_me = r) : ML l yX4_atPoint (Cond.code yX4_atPoint cX4_atPoint 2 (some .long) :: W0) 0 0 D cI cL cZ (cAd ad) [.ref (ad 3), .int p1] (cw ad cI cL cZ c_sr t_n t_r t_w s_w s_h s_c s_p s_s p_nx p_sz r_k r_r r_p l_z q_z t_t b_l b_b b_n r_t l_l l_b l_n q_l q_b q_n t_le s_cs s_ps s_ha s_en pk ik s_ro s_me s_be s_se s_co pl pb pn il ib im l_a q_a) r (cw ad cI cL cZ c_sr t_n t_r t_w s_w s_h s_c s_p s_s p_nx p_sz r_k r_r r_p l_z q_z t_t b_l b_b b_n r_t l_l l_b l_n q_l q_b q_n t_le s_cs s_ps s_ha s_en pk ik s_ro s_me s_be s_se s_co pl pb pn il ib im l_a q_a) := by
  refine mk_start (cc := cX4_atPoint) (maxL := 2) (ret := (some .long)) (by decide) rfl (Nat.le_of_ble_eq_true rfl) ?_
  intro p e s m below meth c ls C hP hS hl
  obtain ⟨hx, hb, hml, hrt, hlocks, hown, hts, hk⟩ := C
  have hown : s.vm.findClass RX4 = some m.cls := hown
  have hl : lv_has ls 2 [(0, .ref (ad 3)), (1, .int p1)] := hl
  rw [f_X4_atPoint] at hr
  refine lv_iload_n hx hb dX4_atPoint_0 rfl (lv_at hl 1 rfl) ?_
  refine lv_if_lt (tgt := 22) hx hb dX4_atPoint_1 (by decide) (fun c1 => ?_) (fun c1 => ?_)
  · have hr := (if_pos c1).symm.trans hr
    refine lv_lconst (v := 0) hx hb dX4_atPoint_22 (by decide) ?_
    subst hr
    exact ret_l hx hb hrt hlocks hP hS dX4_atPoint_23
  · have hr := (if_neg c1).symm.trans hr
    refine lv_iload_n hx hb dX4_atPoint_4 rfl (lv_at hl 1 rfl) ?_
    refine lv_aload_n hx hb dX4_atPoint_5 rfl (lv_at hl 0 rfl) ?_
    refine va_get (D := D) (ci := 4) (v := .ref (ad 9)) (C := RX4) (T := TX4) (N := 14) hx hb hts u_X4 hown hk.1 hP 3 rfl rfl 10 (by decide) (hts _ q1_74) (fun _ h9 => h9) rfl dX4_atPoint_6 ?_
    refine va_alen (v := 25) hx hb hk.1 hP 9 1 rfl rfl rfl dX4_atPoint_9 ?_
    refine lv_icmp_ge (tgt := 22) hx hb dX4_atPoint_10 (by decide) (fun c10 => ?_) (fun c10 => ?_)
    · have hr := (if_pos c10).symm.trans hr
      refine lv_lconst (v := 0) hx hb dX4_atPoint_22 (by decide) ?_
      subst hr
      exact ret_l hx hb hrt hlocks hP hS dX4_atPoint_23
    · have hr := (if_neg c10).symm.trans hr
      refine lv_aload_n hx hb dX4_atPoint_13 rfl (lv_at hl 0 rfl) ?_
      refine va_get (D := D) (ci := 4) (v := .ref (ad 9)) (C := RX4) (T := TX4) (N := 14) hx hb hts u_X4 hown hk.1 hP 3 rfl rfl 10 (by decide) (hts _ q1_74) (fun _ h9 => h9) rfl dX4_atPoint_14 ?_
      refine lv_iload_n hx hb dX4_atPoint_17 rfl (lv_at hl 1 rfl) ?_
      refine va_lald hx hb hk.1 hP 9 1 (rfl) rfl (vin_c (nn_of c1) c10 (by decide)) dX4_atPoint_18 ?_
      refine lv_goto (tgt := 23) hx hb dX4_atPoint_19 (by decide) ?_
      subst hr
      exact ret_l hx hb hrt hlocks hP hS dX4_atPoint_23
theorem hd_X4_settledFrom : yX4_settledFrom.cls = RX4 ∧ yX4_settledFrom.cls ≠ "java/lang/invoke/MethodHandle" ∧ yX4_settledFrom.cls ≠ "java/lang/invoke/VarHandle" ∧ (parseMethodDescriptor yX4_settledFrom.desc).map (fun d => d.parameters.length) = some 1 := by decide +kernel
def f_X4_settledFrom (p1 : Int32) (s_se : Nat → Int64) : Int64 := (if p1 < 0 then 0 else (if 16 ≤ p1 then 0 else s_se p1.toNatClampNeg))
set_option maxHeartbeats 4000000 in
set_option maxRecDepth 100000 in
theorem c_X4_settledFrom (l : Launch) (D : va_G) (cI cL cZ : ClassId) (ad : Nat → Nat) (c_sr t_n t_r t_w s_w s_h s_c s_p s_s p_nx p_sz r_k r_r r_p l_z q_z : Int32) (t_t b_l b_b b_n r_t l_l l_b l_n q_l q_b q_n : Int64) (t_le s_cs s_ps s_ha s_en pk ik : Nat → Int32) (s_ro s_me s_be s_se s_co pl pb pn il ib im l_a q_a : Nat → Int64) (hAd : cInj ad) (p1 : Int32) (r : Int64) (hr : f_X4_settledFrom p1 s_se = r) : ML l yX4_settledFrom (Cond.code yX4_settledFrom cX4_settledFrom 2 (some .long) :: W0) 0 0 D cI cL cZ (cAd ad) [.ref (ad 3), .int p1] (cw ad cI cL cZ c_sr t_n t_r t_w s_w s_h s_c s_p s_s p_nx p_sz r_k r_r r_p l_z q_z t_t b_l b_b b_n r_t l_l l_b l_n q_l q_b q_n t_le s_cs s_ps s_ha s_en pk ik s_ro s_me s_be s_se s_co pl pb pn il ib im l_a q_a) r (cw ad cI cL cZ c_sr t_n t_r t_w s_w s_h s_c s_p s_s p_nx p_sz r_k r_r r_p l_z q_z t_t b_l b_b b_n r_t l_l l_b l_n q_l q_b q_n t_le s_cs s_ps s_ha s_en pk ik s_ro s_me s_be s_se s_co pl pb pn il ib im l_a q_a) := by
  refine mk_start (cc := cX4_settledFrom) (maxL := 2) (ret := (some .long)) (by decide) rfl (Nat.le_of_ble_eq_true rfl) ?_
  intro p e s m below meth c ls C hP hS hl
  obtain ⟨hx, hb, hml, hrt, hlocks, hown, hts, hk⟩ := C
  have hown : s.vm.findClass RX4 = some m.cls := hown
  have hl : lv_has ls 2 [(0, .ref (ad 3)), (1, .int p1)] := hl
  rw [f_X4_settledFrom] at hr
  refine lv_iload_n hx hb dX4_settledFrom_0 rfl (lv_at hl 1 rfl) ?_
  refine lv_if_lt (tgt := 22) hx hb dX4_settledFrom_1 (by decide) (fun c1 => ?_) (fun c1 => ?_)
  · have hr := (if_pos c1).symm.trans hr
    refine lv_lconst (v := 0) hx hb dX4_settledFrom_22 (by decide) ?_
    subst hr
    exact ret_l hx hb hrt hlocks hP hS dX4_settledFrom_23
  · have hr := (if_neg c1).symm.trans hr
    refine lv_iload_n hx hb dX4_settledFrom_4 rfl (lv_at hl 1 rfl) ?_
    refine lv_aload_n hx hb dX4_settledFrom_5 rfl (lv_at hl 0 rfl) ?_
    refine va_get (D := D) (ci := 4) (v := .ref (ad 11)) (C := RX4) (T := TX4) (N := 14) hx hb hts u_X4 hown hk.1 hP 3 rfl rfl 12 (by decide) (hts _ q1_76) (fun _ h9 => h9) rfl dX4_settledFrom_6 ?_
    refine va_alen (v := 16) hx hb hk.1 hP 11 1 rfl rfl rfl dX4_settledFrom_9 ?_
    refine lv_icmp_ge (tgt := 22) hx hb dX4_settledFrom_10 (by decide) (fun c10 => ?_) (fun c10 => ?_)
    · have hr := (if_pos c10).symm.trans hr
      refine lv_lconst (v := 0) hx hb dX4_settledFrom_22 (by decide) ?_
      subst hr
      exact ret_l hx hb hrt hlocks hP hS dX4_settledFrom_23
    · have hr := (if_neg c10).symm.trans hr
      refine lv_aload_n hx hb dX4_settledFrom_13 rfl (lv_at hl 0 rfl) ?_
      refine va_get (D := D) (ci := 4) (v := .ref (ad 11)) (C := RX4) (T := TX4) (N := 14) hx hb hts u_X4 hown hk.1 hP 3 rfl rfl 12 (by decide) (hts _ q1_76) (fun _ h9 => h9) rfl dX4_settledFrom_14 ?_
      refine lv_iload_n hx hb dX4_settledFrom_17 rfl (lv_at hl 1 rfl) ?_
      refine va_lald hx hb hk.1 hP 11 1 (rfl) rfl (vin_c (nn_of c1) c10 (by decide)) dX4_settledFrom_18 ?_
      refine lv_goto (tgt := 23) hx hb dX4_settledFrom_19 (by decide) ?_
      subst hr
      exact ret_l hx hb hrt hlocks hP hS dX4_settledFrom_23
theorem hd_X4_atCorner : yX4_atCorner.cls = RX4 ∧ yX4_atCorner.cls ≠ "java/lang/invoke/MethodHandle" ∧ yX4_atCorner.cls ≠ "java/lang/invoke/VarHandle" ∧ (parseMethodDescriptor yX4_atCorner.desc).map (fun d => d.parameters.length) = some 1 := by decide +kernel
def f_X4_atCorner (p1 : Int32) (s_co : Nat → Int64) : Int64 := (if p1 < 0 then 0 else (if 16 ≤ p1 then 0 else s_co p1.toNatClampNeg))
set_option maxHeartbeats 4000000 in
set_option maxRecDepth 100000 in
theorem c_X4_atCorner (l : Launch) (D : va_G) (cI cL cZ : ClassId) (ad : Nat → Nat) (c_sr t_n t_r t_w s_w s_h s_c s_p s_s p_nx p_sz r_k r_r r_p l_z q_z : Int32) (t_t b_l b_b b_n r_t l_l l_b l_n q_l q_b q_n : Int64) (t_le s_cs s_ps s_ha s_en pk ik : Nat → Int32) (s_ro s_me s_be s_se s_co pl pb pn il ib im l_a q_a : Nat → Int64) (hAd : cInj ad) (p1 : Int32) (r : Int64) (hr : f_X4_atCorner p1 s_co = r) : ML l yX4_atCorner (Cond.code yX4_atCorner cX4_atCorner 2 (some .long) :: W0) 0 0 D cI cL cZ (cAd ad) [.ref (ad 3), .int p1] (cw ad cI cL cZ c_sr t_n t_r t_w s_w s_h s_c s_p s_s p_nx p_sz r_k r_r r_p l_z q_z t_t b_l b_b b_n r_t l_l l_b l_n q_l q_b q_n t_le s_cs s_ps s_ha s_en pk ik s_ro s_me s_be s_se s_co pl pb pn il ib im l_a q_a) r (cw ad cI cL cZ c_sr t_n t_r t_w s_w s_h s_c s_p s_s p_nx p_sz r_k r_r r_p l_z q_z t_t b_l b_b b_n r_t l_l l_b l_n q_l q_b q_n t_le s_cs s_ps s_ha s_en pk ik s_ro s_me s_be s_se s_co pl pb pn il ib im l_a q_a) := by
  refine mk_start (cc := cX4_atCorner) (maxL := 2) (ret := (some .long)) (by decide) rfl (Nat.le_of_ble_eq_true rfl) ?_
  intro p e s m below meth c ls C hP hS hl
  obtain ⟨hx, hb, hml, hrt, hlocks, hown, hts, hk⟩ := C
  have hown : s.vm.findClass RX4 = some m.cls := hown
  have hl : lv_has ls 2 [(0, .ref (ad 3)), (1, .int p1)] := hl
  rw [f_X4_atCorner] at hr
  refine lv_iload_n hx hb dX4_atCorner_0 rfl (lv_at hl 1 rfl) ?_
  refine lv_if_lt (tgt := 22) hx hb dX4_atCorner_1 (by decide) (fun c1 => ?_) (fun c1 => ?_)
  · have hr := (if_pos c1).symm.trans hr
    refine lv_lconst (v := 0) hx hb dX4_atCorner_22 (by decide) ?_
    subst hr
    exact ret_l hx hb hrt hlocks hP hS dX4_atCorner_23
  · have hr := (if_neg c1).symm.trans hr
    refine lv_iload_n hx hb dX4_atCorner_4 rfl (lv_at hl 1 rfl) ?_
    refine lv_aload_n hx hb dX4_atCorner_5 rfl (lv_at hl 0 rfl) ?_
    refine va_get (D := D) (ci := 4) (v := .ref (ad 12)) (C := RX4) (T := TX4) (N := 14) hx hb hts u_X4 hown hk.1 hP 3 rfl rfl 13 (by decide) (hts _ q1_77) (fun _ h9 => h9) rfl dX4_atCorner_6 ?_
    refine va_alen (v := 16) hx hb hk.1 hP 12 1 rfl rfl rfl dX4_atCorner_9 ?_
    refine lv_icmp_ge (tgt := 22) hx hb dX4_atCorner_10 (by decide) (fun c10 => ?_) (fun c10 => ?_)
    · have hr := (if_pos c10).symm.trans hr
      refine lv_lconst (v := 0) hx hb dX4_atCorner_22 (by decide) ?_
      subst hr
      exact ret_l hx hb hrt hlocks hP hS dX4_atCorner_23
    · have hr := (if_neg c10).symm.trans hr
      refine lv_aload_n hx hb dX4_atCorner_13 rfl (lv_at hl 0 rfl) ?_
      refine va_get (D := D) (ci := 4) (v := .ref (ad 12)) (C := RX4) (T := TX4) (N := 14) hx hb hts u_X4 hown hk.1 hP 3 rfl rfl 13 (by decide) (hts _ q1_77) (fun _ h9 => h9) rfl dX4_atCorner_14 ?_
      refine lv_iload_n hx hb dX4_atCorner_17 rfl (lv_at hl 1 rfl) ?_
      refine va_lald hx hb hk.1 hP 12 1 (rfl) rfl (vin_c (nn_of c1) c10 (by decide)) dX4_atCorner_18 ?_
      refine lv_goto (tgt := 23) hx hb dX4_atCorner_19 (by decide) ?_
      subst hr
      exact ret_l hx hb hrt hlocks hP hS dX4_atCorner_23
theorem hd_X4_hand : yX4_hand.cls = RX4 ∧ yX4_hand.cls ≠ "java/lang/invoke/MethodHandle" ∧ yX4_hand.cls ≠ "java/lang/invoke/VarHandle" ∧ (parseMethodDescriptor yX4_hand.desc).map (fun d => d.parameters.length) = some 2 := by decide +kernel
def f_X4_hand (p1 : Int32) (p2 : Int32) (s_ha : Nat → Int32) : Int32 := f_X7_at ((p1 * 2) + p2) 80 s_ha
set_option maxHeartbeats 4000000 in
set_option maxRecDepth 100000 in
theorem c_X4_hand (l : Launch) (D : va_G) (cI cL cZ : ClassId) (ad : Nat → Nat) (c_sr t_n t_r t_w s_w s_h s_c s_p s_s p_nx p_sz r_k r_r r_p l_z q_z : Int32) (t_t b_l b_b b_n r_t l_l l_b l_n q_l q_b q_n : Int64) (t_le s_cs s_ps s_ha s_en pk ik : Nat → Int32) (s_ro s_me s_be s_se s_co pl pb pn il ib im l_a q_a : Nat → Int64) (hAd : cInj ad) (p1 p2 : Int32) (r : Int32) (hr : f_X4_hand p1 p2 s_ha = r) : MI l yX4_hand (Cond.code yX4_hand cX4_hand 3 (some .int) :: W0) 1 21 D cI cL cZ (cAd ad) [.ref (ad 3), .int p1, .int p2] (cw ad cI cL cZ c_sr t_n t_r t_w s_w s_h s_c s_p s_s p_nx p_sz r_k r_r r_p l_z q_z t_t b_l b_b b_n r_t l_l l_b l_n q_l q_b q_n t_le s_cs s_ps s_ha s_en pk ik s_ro s_me s_be s_se s_co pl pb pn il ib im l_a q_a) r (cw ad cI cL cZ c_sr t_n t_r t_w s_w s_h s_c s_p s_s p_nx p_sz r_k r_r r_p l_z q_z t_t b_l b_b b_n r_t l_l l_b l_n q_l q_b q_n t_le s_cs s_ps s_ha s_en pk ik s_ro s_me s_be s_se s_co pl pb pn il ib im l_a q_a) := by
  refine mk_start (cc := cX4_hand) (maxL := 3) (ret := (some .int)) (by decide) rfl (Nat.le_of_ble_eq_true rfl) ?_
  intro p e s m below meth c ls C hP hS hl
  obtain ⟨hx, hb, hml, hrt, hlocks, hown, hts, hk⟩ := C
  have hown : s.vm.findClass RX4 = some m.cls := hown
  have hl : lv_has ls 3 [(0, .ref (ad 3)), (1, .int p1), (2, .int p2)] := hl
  rw [f_X4_hand] at hr
  refine lv_aload_n hx hb dX4_hand_0 rfl (lv_at hl 0 rfl) ?_
  refine va_get (D := D) (ci := 4) (v := .ref (ad 6)) (C := RX4) (T := TX4) (N := 14) hx hb hts u_X4 hown hk.1 hP 3 rfl rfl 7 (by decide) (hts _ q1_71) (fun _ h9 => h9) rfl dX4_hand_1 ?_
  refine lv_iload_n hx hb dX4_hand_4 rfl (lv_at hl 1 rfl) ?_
  refine lv_iconst (v := 2) hx hb dX4_hand_5 (by decide) ?_
  refine lv_imul hx hb dX4_hand_6 ?_
  refine lv_iload_n hx hb dX4_hand_7 rfl (lv_at hl 2 rfl) ?_
  refine lv_iadd hx hb dX4_hand_8 ?_
  refine go_i (ru_N (n := 2) ⟨hx, hb, hml, hown, hts⟩ hk hP (c_X7_at l D cI cL cZ (cAd ad) (cw ad cI cL cZ c_sr t_n t_r t_w s_w s_h s_c s_p s_s p_nx p_sz r_k r_r r_p l_z q_z t_t b_l b_b b_n r_t l_l l_b l_n q_l q_b q_n t_le s_cs s_ps s_ha s_en pk ik s_ro s_me s_be s_se s_co pl pb pn il ib im l_a q_a) 6 (ad 6) 80 _ rfl (cw_D hAd) s_ha ((p1 * 2) + p2) _ rfl (by decide)) ⟨va_cnB 2 hts (gN q2_37) rfl rfl rfl (hk.2 _ nwm_X4_132) (hts _ q1_1) hd_X7_at ⟨Nat.le_of_ble_eq_true rfl, Nat.le_of_ble_eq_true rfl⟩, hts _ q2_36, trivial⟩ rfl hl.1 rfl (Nat.le_of_ble_eq_true rfl) dX4_hand_9 ⟨Nat.zero_le _, Nat.zero_le _⟩) hS (fun _ h => h) (fun H locs hP hS => ?_)
  have hP : va_P D vwCl (cw ad cI cL cZ c_sr t_n t_r t_w s_w s_h s_c s_p s_s p_nx p_sz r_k r_r r_p l_z q_z t_t b_l b_b b_n r_t l_l l_b l_n q_l q_b q_n t_le s_cs s_ps s_ha s_en pk ik s_ro s_me s_be s_se s_co pl pb pn il ib im l_a q_a) H := hP
  subst hr
  exact ret_i hx hb hrt hlocks hP hS dX4_hand_12
theorem hd_X4_end : yX4_end.cls = RX4 ∧ yX4_end.cls ≠ "java/lang/invoke/MethodHandle" ∧ yX4_end.cls ≠ "java/lang/invoke/VarHandle" ∧ (parseMethodDescriptor yX4_end.desc).map (fun d => d.parameters.length) = some 2 := by decide +kernel
def f_X4_end (p1 : Int32) (p2 : Int32) (s_en : Nat → Int32) : Int32 := f_X7_at ((p1 * 2) + p2) 80 s_en
set_option maxHeartbeats 4000000 in
set_option maxRecDepth 100000 in
theorem c_X4_end (l : Launch) (D : va_G) (cI cL cZ : ClassId) (ad : Nat → Nat) (c_sr t_n t_r t_w s_w s_h s_c s_p s_s p_nx p_sz r_k r_r r_p l_z q_z : Int32) (t_t b_l b_b b_n r_t l_l l_b l_n q_l q_b q_n : Int64) (t_le s_cs s_ps s_ha s_en pk ik : Nat → Int32) (s_ro s_me s_be s_se s_co pl pb pn il ib im l_a q_a : Nat → Int64) (hAd : cInj ad) (p1 p2 : Int32) (r : Int32) (hr : f_X4_end p1 p2 s_en = r) : MI l yX4_end (Cond.code yX4_end cX4_end 3 (some .int) :: W0) 1 21 D cI cL cZ (cAd ad) [.ref (ad 3), .int p1, .int p2] (cw ad cI cL cZ c_sr t_n t_r t_w s_w s_h s_c s_p s_s p_nx p_sz r_k r_r r_p l_z q_z t_t b_l b_b b_n r_t l_l l_b l_n q_l q_b q_n t_le s_cs s_ps s_ha s_en pk ik s_ro s_me s_be s_se s_co pl pb pn il ib im l_a q_a) r (cw ad cI cL cZ c_sr t_n t_r t_w s_w s_h s_c s_p s_s p_nx p_sz r_k r_r r_p l_z q_z t_t b_l b_b b_n r_t l_l l_b l_n q_l q_b q_n t_le s_cs s_ps s_ha s_en pk ik s_ro s_me s_be s_se s_co pl pb pn il ib im l_a q_a) := by
  refine mk_start (cc := cX4_end) (maxL := 3) (ret := (some .int)) (by decide) rfl (Nat.le_of_ble_eq_true rfl) ?_
  intro p e s m below meth c ls C hP hS hl
  obtain ⟨hx, hb, hml, hrt, hlocks, hown, hts, hk⟩ := C
  have hown : s.vm.findClass RX4 = some m.cls := hown
  have hl : lv_has ls 3 [(0, .ref (ad 3)), (1, .int p1), (2, .int p2)] := hl
  rw [f_X4_end] at hr
  refine lv_aload_n hx hb dX4_end_0 rfl (lv_at hl 0 rfl) ?_
  refine va_get (D := D) (ci := 4) (v := .ref (ad 7)) (C := RX4) (T := TX4) (N := 14) hx hb hts u_X4 hown hk.1 hP 3 rfl rfl 8 (by decide) (hts _ q1_72) (fun _ h9 => h9) rfl dX4_end_1 ?_
  refine lv_iload_n hx hb dX4_end_4 rfl (lv_at hl 1 rfl) ?_
  refine lv_iconst (v := 2) hx hb dX4_end_5 (by decide) ?_
  refine lv_imul hx hb dX4_end_6 ?_
  refine lv_iload_n hx hb dX4_end_7 rfl (lv_at hl 2 rfl) ?_
  refine lv_iadd hx hb dX4_end_8 ?_
  refine go_i (ru_N (n := 2) ⟨hx, hb, hml, hown, hts⟩ hk hP (c_X7_at l D cI cL cZ (cAd ad) (cw ad cI cL cZ c_sr t_n t_r t_w s_w s_h s_c s_p s_s p_nx p_sz r_k r_r r_p l_z q_z t_t b_l b_b b_n r_t l_l l_b l_n q_l q_b q_n t_le s_cs s_ps s_ha s_en pk ik s_ro s_me s_be s_se s_co pl pb pn il ib im l_a q_a) 7 (ad 7) 80 _ rfl (cw_D hAd) s_en ((p1 * 2) + p2) _ rfl (by decide)) ⟨va_cnB 2 hts (gN q2_37) rfl rfl rfl (hk.2 _ nwm_X4_132) (hts _ q1_1) hd_X7_at ⟨Nat.le_of_ble_eq_true rfl, Nat.le_of_ble_eq_true rfl⟩, hts _ q2_36, trivial⟩ rfl hl.1 rfl (Nat.le_of_ble_eq_true rfl) dX4_end_9 ⟨Nat.zero_le _, Nat.zero_le _⟩) hS (fun _ h => h) (fun H locs hP hS => ?_)
  have hP : va_P D vwCl (cw ad cI cL cZ c_sr t_n t_r t_w s_w s_h s_c s_p s_s p_nx p_sz r_k r_r r_p l_z q_z t_t b_l b_b b_n r_t l_l l_b l_n q_l q_b q_n t_le s_cs s_ps s_ha s_en pk ik s_ro s_me s_be s_se s_co pl pb pn il ib im l_a q_a) H := hP
  subst hr
  exact ret_i hx hb hrt hlocks hP hS dX4_end_12
theorem hd_X4_sideOfCell : yX4_sideOfCell.cls = RX4 ∧ yX4_sideOfCell.cls ≠ "java/lang/invoke/MethodHandle" ∧ yX4_sideOfCell.cls ≠ "java/lang/invoke/VarHandle" ∧ (parseMethodDescriptor yX4_sideOfCell.desc).map (fun d => d.parameters.length) = some 2 := by decide +kernel
def f_X4_sideOfCell (p1 : Int32) (p2 : Int32) (s_cs : Nat → Int32) : Int32 := f_X7_at ((p1 * 4) + p2) 64 s_cs
set_option maxHeartbeats 4000000 in
set_option maxRecDepth 100000 in
theorem c_X4_sideOfCell (l : Launch) (D : va_G) (cI cL cZ : ClassId) (ad : Nat → Nat) (c_sr t_n t_r t_w s_w s_h s_c s_p s_s p_nx p_sz r_k r_r r_p l_z q_z : Int32) (t_t b_l b_b b_n r_t l_l l_b l_n q_l q_b q_n : Int64) (t_le s_cs s_ps s_ha s_en pk ik : Nat → Int32) (s_ro s_me s_be s_se s_co pl pb pn il ib im l_a q_a : Nat → Int64) (hAd : cInj ad) (p1 p2 : Int32) (r : Int32) (hr : f_X4_sideOfCell p1 p2 s_cs = r) : MI l yX4_sideOfCell (Cond.code yX4_sideOfCell cX4_sideOfCell 3 (some .int) :: W0) 1 21 D cI cL cZ (cAd ad) [.ref (ad 3), .int p1, .int p2] (cw ad cI cL cZ c_sr t_n t_r t_w s_w s_h s_c s_p s_s p_nx p_sz r_k r_r r_p l_z q_z t_t b_l b_b b_n r_t l_l l_b l_n q_l q_b q_n t_le s_cs s_ps s_ha s_en pk ik s_ro s_me s_be s_se s_co pl pb pn il ib im l_a q_a) r (cw ad cI cL cZ c_sr t_n t_r t_w s_w s_h s_c s_p s_s p_nx p_sz r_k r_r r_p l_z q_z t_t b_l b_b b_n r_t l_l l_b l_n q_l q_b q_n t_le s_cs s_ps s_ha s_en pk ik s_ro s_me s_be s_se s_co pl pb pn il ib im l_a q_a) := by
  refine mk_start (cc := cX4_sideOfCell) (maxL := 3) (ret := (some .int)) (by decide) rfl (Nat.le_of_ble_eq_true rfl) ?_
  intro p e s m below meth c ls C hP hS hl
  obtain ⟨hx, hb, hml, hrt, hlocks, hown, hts, hk⟩ := C
  have hown : s.vm.findClass RX4 = some m.cls := hown
  have hl : lv_has ls 3 [(0, .ref (ad 3)), (1, .int p1), (2, .int p2)] := hl
  rw [f_X4_sideOfCell] at hr
  refine lv_aload_n hx hb dX4_sideOfCell_0 rfl (lv_at hl 0 rfl) ?_
  refine va_get (D := D) (ci := 4) (v := .ref (ad 4)) (C := RX4) (T := TX4) (N := 14) hx hb hts u_X4 hown hk.1 hP 3 rfl rfl 5 (by decide) (hts _ q1_69) (fun _ h9 => h9) rfl dX4_sideOfCell_1 ?_
  refine lv_iload_n hx hb dX4_sideOfCell_4 rfl (lv_at hl 1 rfl) ?_
  refine lv_iconst (v := 4) hx hb dX4_sideOfCell_5 (by decide) ?_
  refine lv_imul hx hb dX4_sideOfCell_6 ?_
  refine lv_iload_n hx hb dX4_sideOfCell_7 rfl (lv_at hl 2 rfl) ?_
  refine lv_iadd hx hb dX4_sideOfCell_8 ?_
  refine go_i (ru_N (n := 2) ⟨hx, hb, hml, hown, hts⟩ hk hP (c_X7_at l D cI cL cZ (cAd ad) (cw ad cI cL cZ c_sr t_n t_r t_w s_w s_h s_c s_p s_s p_nx p_sz r_k r_r r_p l_z q_z t_t b_l b_b b_n r_t l_l l_b l_n q_l q_b q_n t_le s_cs s_ps s_ha s_en pk ik s_ro s_me s_be s_se s_co pl pb pn il ib im l_a q_a) 4 (ad 4) 64 _ rfl (cw_D hAd) s_cs ((p1 * 4) + p2) _ rfl (by decide)) ⟨va_cnB 2 hts (gN q2_37) rfl rfl rfl (hk.2 _ nwm_X4_132) (hts _ q1_1) hd_X7_at ⟨Nat.le_of_ble_eq_true rfl, Nat.le_of_ble_eq_true rfl⟩, hts _ q2_36, trivial⟩ rfl hl.1 rfl (Nat.le_of_ble_eq_true rfl) dX4_sideOfCell_9 ⟨Nat.zero_le _, Nat.zero_le _⟩) hS (fun _ h => h) (fun H locs hP hS => ?_)
  have hP : va_P D vwCl (cw ad cI cL cZ c_sr t_n t_r t_w s_w s_h s_c s_p s_s p_nx p_sz r_k r_r r_p l_z q_z t_t b_l b_b b_n r_t l_l l_b l_n q_l q_b q_n t_le s_cs s_ps s_ha s_en pk ik s_ro s_me s_be s_se s_co pl pb pn il ib im l_a q_a) H := hP
  subst hr
  exact ret_i hx hb hrt hlocks hP hS dX4_sideOfCell_12
theorem hd_X4_sideOfPoint : yX4_sideOfPoint.cls = RX4 ∧ yX4_sideOfPoint.cls ≠ "java/lang/invoke/MethodHandle" ∧ yX4_sideOfPoint.cls ≠ "java/lang/invoke/VarHandle" ∧ (parseMethodDescriptor yX4_sideOfPoint.desc).map (fun d => d.parameters.length) = some 2 := by decide +kernel
def f_X4_sideOfPoint (p1 : Int32) (p2 : Int32) (s_ps : Nat → Int32) : Int32 := f_X7_at ((p1 * 4) + p2) 100 s_ps
set_option maxHeartbeats 4000000 in
set_option maxRecDepth 100000 in
theorem c_X4_sideOfPoint (l : Launch) (D : va_G) (cI cL cZ : ClassId) (ad : Nat → Nat) (c_sr t_n t_r t_w s_w s_h s_c s_p s_s p_nx p_sz r_k r_r r_p l_z q_z : Int32) (t_t b_l b_b b_n r_t l_l l_b l_n q_l q_b q_n : Int64) (t_le s_cs s_ps s_ha s_en pk ik : Nat → Int32) (s_ro s_me s_be s_se s_co pl pb pn il ib im l_a q_a : Nat → Int64) (hAd : cInj ad) (p1 p2 : Int32) (r : Int32) (hr : f_X4_sideOfPoint p1 p2 s_ps = r) : MI l yX4_sideOfPoint (Cond.code yX4_sideOfPoint cX4_sideOfPoint 3 (some .int) :: W0) 1 21 D cI cL cZ (cAd ad) [.ref (ad 3), .int p1, .int p2] (cw ad cI cL cZ c_sr t_n t_r t_w s_w s_h s_c s_p s_s p_nx p_sz r_k r_r r_p l_z q_z t_t b_l b_b b_n r_t l_l l_b l_n q_l q_b q_n t_le s_cs s_ps s_ha s_en pk ik s_ro s_me s_be s_se s_co pl pb pn il ib im l_a q_a) r (cw ad cI cL cZ c_sr t_n t_r t_w s_w s_h s_c s_p s_s p_nx p_sz r_k r_r r_p l_z q_z t_t b_l b_b b_n r_t l_l l_b l_n q_l q_b q_n t_le s_cs s_ps s_ha s_en pk ik s_ro s_me s_be s_se s_co pl pb pn il ib im l_a q_a) := by
  refine mk_start (cc := cX4_sideOfPoint) (maxL := 3) (ret := (some .int)) (by decide) rfl (Nat.le_of_ble_eq_true rfl) ?_
  intro p e s m below meth c ls C hP hS hl
  obtain ⟨hx, hb, hml, hrt, hlocks, hown, hts, hk⟩ := C
  have hown : s.vm.findClass RX4 = some m.cls := hown
  have hl : lv_has ls 3 [(0, .ref (ad 3)), (1, .int p1), (2, .int p2)] := hl
  rw [f_X4_sideOfPoint] at hr
  refine lv_aload_n hx hb dX4_sideOfPoint_0 rfl (lv_at hl 0 rfl) ?_
  refine va_get (D := D) (ci := 4) (v := .ref (ad 5)) (C := RX4) (T := TX4) (N := 14) hx hb hts u_X4 hown hk.1 hP 3 rfl rfl 6 (by decide) (hts _ q1_70) (fun _ h9 => h9) rfl dX4_sideOfPoint_1 ?_
  refine lv_iload_n hx hb dX4_sideOfPoint_4 rfl (lv_at hl 1 rfl) ?_
  refine lv_iconst (v := 4) hx hb dX4_sideOfPoint_5 (by decide) ?_
  refine lv_imul hx hb dX4_sideOfPoint_6 ?_
  refine lv_iload_n hx hb dX4_sideOfPoint_7 rfl (lv_at hl 2 rfl) ?_
  refine lv_iadd hx hb dX4_sideOfPoint_8 ?_
  refine go_i (ru_N (n := 2) ⟨hx, hb, hml, hown, hts⟩ hk hP (c_X7_at l D cI cL cZ (cAd ad) (cw ad cI cL cZ c_sr t_n t_r t_w s_w s_h s_c s_p s_s p_nx p_sz r_k r_r r_p l_z q_z t_t b_l b_b b_n r_t l_l l_b l_n q_l q_b q_n t_le s_cs s_ps s_ha s_en pk ik s_ro s_me s_be s_se s_co pl pb pn il ib im l_a q_a) 5 (ad 5) 100 _ rfl (cw_D hAd) s_ps ((p1 * 4) + p2) _ rfl (by decide)) ⟨va_cnB 2 hts (gN q2_37) rfl rfl rfl (hk.2 _ nwm_X4_132) (hts _ q1_1) hd_X7_at ⟨Nat.le_of_ble_eq_true rfl, Nat.le_of_ble_eq_true rfl⟩, hts _ q2_36, trivial⟩ rfl hl.1 rfl (Nat.le_of_ble_eq_true rfl) dX4_sideOfPoint_9 ⟨Nat.zero_le _, Nat.zero_le _⟩) hS (fun _ h => h) (fun H locs hP hS => ?_)
  have hP : va_P D vwCl (cw ad cI cL cZ c_sr t_n t_r t_w s_w s_h s_c s_p s_s p_nx p_sz r_k r_r r_p l_z q_z t_t b_l b_b b_n r_t l_l l_b l_n q_l q_b q_n t_le s_cs s_ps s_ha s_en pk ik s_ro s_me s_be s_se s_co pl pb pn il ib im l_a q_a) H := hP
  subst hr
  exact ret_i hx hb hrt hlocks hP hS dX4_sideOfPoint_12
theorem hd_X4_hasCell : yX4_hasCell.cls = RX4 ∧ yX4_hasCell.cls ≠ "java/lang/invoke/MethodHandle" ∧ yX4_hasCell.cls ≠ "java/lang/invoke/VarHandle" ∧ (parseMethodDescriptor yX4_hasCell.desc).map (fun d => d.parameters.length) = some 1 := by decide +kernel
def f_X4_hasCell (p1 : Int32) (s_c : Int32) : Int32 := (if p1 < 0 then 0 else (if s_c ≤ p1 then 0 else 1))
set_option maxHeartbeats 4000000 in
set_option maxRecDepth 100000 in
theorem c_X4_hasCell (l : Launch) (D : va_G) (cI cL cZ : ClassId) (ad : Nat → Nat) (c_sr t_n t_r t_w s_w s_h s_c s_p s_s p_nx p_sz r_k r_r r_p l_z q_z : Int32) (t_t b_l b_b b_n r_t l_l l_b l_n q_l q_b q_n : Int64) (t_le s_cs s_ps s_ha s_en pk ik : Nat → Int32) (s_ro s_me s_be s_se s_co pl pb pn il ib im l_a q_a : Nat → Int64) (hAd : cInj ad) (p1 : Int32) (r : Int32) (hr : f_X4_hasCell p1 s_c = r) : MZ l yX4_hasCell (Cond.code yX4_hasCell cX4_hasCell 2 (some .boolean) :: W0) 0 0 D cI cL cZ (cAd ad) [.ref (ad 3), .int p1] (cw ad cI cL cZ c_sr t_n t_r t_w s_w s_h s_c s_p s_s p_nx p_sz r_k r_r r_p l_z q_z t_t b_l b_b b_n r_t l_l l_b l_n q_l q_b q_n t_le s_cs s_ps s_ha s_en pk ik s_ro s_me s_be s_se s_co pl pb pn il ib im l_a q_a) r (cw ad cI cL cZ c_sr t_n t_r t_w s_w s_h s_c s_p s_s p_nx p_sz r_k r_r r_p l_z q_z t_t b_l b_b b_n r_t l_l l_b l_n q_l q_b q_n t_le s_cs s_ps s_ha s_en pk ik s_ro s_me s_be s_se s_co pl pb pn il ib im l_a q_a) := by
  refine mk_start (cc := cX4_hasCell) (maxL := 2) (ret := (some .boolean)) (by decide) rfl (Nat.le_of_ble_eq_true rfl) ?_
  intro p e s m below meth c ls C hP hS hl
  obtain ⟨hx, hb, hml, hrt, hlocks, hown, hts, hk⟩ := C
  have hown : s.vm.findClass RX4 = some m.cls := hown
  have hl : lv_has ls 2 [(0, .ref (ad 3)), (1, .int p1)] := hl
  rw [f_X4_hasCell] at hr
  refine lv_iload_n hx hb dX4_hasCell_0 rfl (lv_at hl 1 rfl) ?_
  refine lv_if_lt (tgt := 16) hx hb dX4_hasCell_1 (by decide) (fun c1 => ?_) (fun c1 => ?_)
  · have hr := (if_pos c1).symm.trans hr
    refine lv_iconst (v := 0) hx hb dX4_hasCell_16 (by decide) ?_
    subst hr
    exact ret_z hx hb hrt hlocks bz_0 hP hS dX4_hasCell_17
  · have hr := (if_neg c1).symm.trans hr
    refine lv_iload_n hx hb dX4_hasCell_4 rfl (lv_at hl 1 rfl) ?_
    refine lv_aload_n hx hb dX4_hasCell_5 rfl (lv_at hl 0 rfl) ?_
    refine va_get (D := D) (ci := 4) (v := .int s_c) (C := RX4) (T := TX4) (N := 14) hx hb hts u_X4 hown hk.1 hP 3 rfl rfl 2 (by decide) (hts _ q1_60) (fun _ h9 => h9) rfl dX4_hasCell_6 ?_
    refine lv_icmp_ge (tgt := 16) hx hb dX4_hasCell_9 (by decide) (fun c9 => ?_) (fun c9 => ?_)
    · have hr := (if_pos c9).symm.trans hr
      refine lv_iconst (v := 0) hx hb dX4_hasCell_16 (by decide) ?_
      subst hr
      exact ret_z hx hb hrt hlocks bz_0 hP hS dX4_hasCell_17
    · have hr := (if_neg c9).symm.trans hr
      refine lv_iconst (v := 1) hx hb dX4_hasCell_12 (by decide) ?_
      refine lv_goto (tgt := 17) hx hb dX4_hasCell_13 (by decide) ?_
      subst hr
      exact ret_z hx hb hrt hlocks bz_1 hP hS dX4_hasCell_17
theorem hd_X4_hasPoint : yX4_hasPoint.cls = RX4 ∧ yX4_hasPoint.cls ≠ "java/lang/invoke/MethodHandle" ∧ yX4_hasPoint.cls ≠ "java/lang/invoke/VarHandle" ∧ (parseMethodDescriptor yX4_hasPoint.desc).map (fun d => d.parameters.length) = some 1 := by decide +kernel
def f_X4_hasPoint (p1 : Int32) (s_p : Int32) : Int32 := (if p1 < 0 then 0 else (if s_p ≤ p1 then 0 else 1))
set_option maxHeartbeats 4000000 in
set_option maxRecDepth 100000 in
theorem c_X4_hasPoint (l : Launch) (D : va_G) (cI cL cZ : ClassId) (ad : Nat → Nat) (c_sr t_n t_r t_w s_w s_h s_c s_p s_s p_nx p_sz r_k r_r r_p l_z q_z : Int32) (t_t b_l b_b b_n r_t l_l l_b l_n q_l q_b q_n : Int64) (t_le s_cs s_ps s_ha s_en pk ik : Nat → Int32) (s_ro s_me s_be s_se s_co pl pb pn il ib im l_a q_a : Nat → Int64) (hAd : cInj ad) (p1 : Int32) (r : Int32) (hr : f_X4_hasPoint p1 s_p = r) : MZ l yX4_hasPoint (Cond.code yX4_hasPoint cX4_hasPoint 2 (some .boolean) :: W0) 0 0 D cI cL cZ (cAd ad) [.ref (ad 3), .int p1] (cw ad cI cL cZ c_sr t_n t_r t_w s_w s_h s_c s_p s_s p_nx p_sz r_k r_r r_p l_z q_z t_t b_l b_b b_n r_t l_l l_b l_n q_l q_b q_n t_le s_cs s_ps s_ha s_en pk ik s_ro s_me s_be s_se s_co pl pb pn il ib im l_a q_a) r (cw ad cI cL cZ c_sr t_n t_r t_w s_w s_h s_c s_p s_s p_nx p_sz r_k r_r r_p l_z q_z t_t b_l b_b b_n r_t l_l l_b l_n q_l q_b q_n t_le s_cs s_ps s_ha s_en pk ik s_ro s_me s_be s_se s_co pl pb pn il ib im l_a q_a) := by
  refine mk_start (cc := cX4_hasPoint) (maxL := 2) (ret := (some .boolean)) (by decide) rfl (Nat.le_of_ble_eq_true rfl) ?_
  intro p e s m below meth c ls C hP hS hl
  obtain ⟨hx, hb, hml, hrt, hlocks, hown, hts, hk⟩ := C
  have hown : s.vm.findClass RX4 = some m.cls := hown
  have hl : lv_has ls 2 [(0, .ref (ad 3)), (1, .int p1)] := hl
  rw [f_X4_hasPoint] at hr
  refine lv_iload_n hx hb dX4_hasPoint_0 rfl (lv_at hl 1 rfl) ?_
  refine lv_if_lt (tgt := 16) hx hb dX4_hasPoint_1 (by decide) (fun c1 => ?_) (fun c1 => ?_)
  · have hr := (if_pos c1).symm.trans hr
    refine lv_iconst (v := 0) hx hb dX4_hasPoint_16 (by decide) ?_
    subst hr
    exact ret_z hx hb hrt hlocks bz_0 hP hS dX4_hasPoint_17
  · have hr := (if_neg c1).symm.trans hr
    refine lv_iload_n hx hb dX4_hasPoint_4 rfl (lv_at hl 1 rfl) ?_
    refine lv_aload_n hx hb dX4_hasPoint_5 rfl (lv_at hl 0 rfl) ?_
    refine va_get (D := D) (ci := 4) (v := .int s_p) (C := RX4) (T := TX4) (N := 14) hx hb hts u_X4 hown hk.1 hP 3 rfl rfl 3 (by decide) (hts _ q1_64) (fun _ h9 => h9) rfl dX4_hasPoint_6 ?_
    refine lv_icmp_ge (tgt := 16) hx hb dX4_hasPoint_9 (by decide) (fun c9 => ?_) (fun c9 => ?_)
    · have hr := (if_pos c9).symm.trans hr
      refine lv_iconst (v := 0) hx hb dX4_hasPoint_16 (by decide) ?_
      subst hr
      exact ret_z hx hb hrt hlocks bz_0 hP hS dX4_hasPoint_17
    · have hr := (if_neg c9).symm.trans hr
      refine lv_iconst (v := 1) hx hb dX4_hasPoint_12 (by decide) ?_
      refine lv_goto (tgt := 17) hx hb dX4_hasPoint_13 (by decide) ?_
      subst hr
      exact ret_z hx hb hrt hlocks bz_1 hP hS dX4_hasPoint_17
theorem hd_X4_hasSide : yX4_hasSide.cls = RX4 ∧ yX4_hasSide.cls ≠ "java/lang/invoke/MethodHandle" ∧ yX4_hasSide.cls ≠ "java/lang/invoke/VarHandle" ∧ (parseMethodDescriptor yX4_hasSide.desc).map (fun d => d.parameters.length) = some 1 := by decide +kernel
def f_X4_hasSide (p1 : Int32) (s_s : Int32) : Int32 := (if p1 < 0 then 0 else (if s_s ≤ p1 then 0 else 1))
set_option maxHeartbeats 4000000 in
set_option maxRecDepth 100000 in
theorem c_X4_hasSide (l : Launch) (D : va_G) (cI cL cZ : ClassId) (ad : Nat → Nat) (c_sr t_n t_r t_w s_w s_h s_c s_p s_s p_nx p_sz r_k r_r r_p l_z q_z : Int32) (t_t b_l b_b b_n r_t l_l l_b l_n q_l q_b q_n : Int64) (t_le s_cs s_ps s_ha s_en pk ik : Nat → Int32) (s_ro s_me s_be s_se s_co pl pb pn il ib im l_a q_a : Nat → Int64) (hAd : cInj ad) (p1 : Int32) (r : Int32) (hr : f_X4_hasSide p1 s_s = r) : MZ l yX4_hasSide (Cond.code yX4_hasSide cX4_hasSide 2 (some .boolean) :: W0) 0 0 D cI cL cZ (cAd ad) [.ref (ad 3), .int p1] (cw ad cI cL cZ c_sr t_n t_r t_w s_w s_h s_c s_p s_s p_nx p_sz r_k r_r r_p l_z q_z t_t b_l b_b b_n r_t l_l l_b l_n q_l q_b q_n t_le s_cs s_ps s_ha s_en pk ik s_ro s_me s_be s_se s_co pl pb pn il ib im l_a q_a) r (cw ad cI cL cZ c_sr t_n t_r t_w s_w s_h s_c s_p s_s p_nx p_sz r_k r_r r_p l_z q_z t_t b_l b_b b_n r_t l_l l_b l_n q_l q_b q_n t_le s_cs s_ps s_ha s_en pk ik s_ro s_me s_be s_se s_co pl pb pn il ib im l_a q_a) := by
  refine mk_start (cc := cX4_hasSide) (maxL := 2) (ret := (some .boolean)) (by decide) rfl (Nat.le_of_ble_eq_true rfl) ?_
  intro p e s m below meth c ls C hP hS hl
  obtain ⟨hx, hb, hml, hrt, hlocks, hown, hts, hk⟩ := C
  have hown : s.vm.findClass RX4 = some m.cls := hown
  have hl : lv_has ls 2 [(0, .ref (ad 3)), (1, .int p1)] := hl
  rw [f_X4_hasSide] at hr
  refine lv_iload_n hx hb dX4_hasSide_0 rfl (lv_at hl 1 rfl) ?_
  refine lv_if_lt (tgt := 16) hx hb dX4_hasSide_1 (by decide) (fun c1 => ?_) (fun c1 => ?_)
  · have hr := (if_pos c1).symm.trans hr
    refine lv_iconst (v := 0) hx hb dX4_hasSide_16 (by decide) ?_
    subst hr
    exact ret_z hx hb hrt hlocks bz_0 hP hS dX4_hasSide_17
  · have hr := (if_neg c1).symm.trans hr
    refine lv_iload_n hx hb dX4_hasSide_4 rfl (lv_at hl 1 rfl) ?_
    refine lv_aload_n hx hb dX4_hasSide_5 rfl (lv_at hl 0 rfl) ?_
    refine va_get (D := D) (ci := 4) (v := .int s_s) (C := RX4) (T := TX4) (N := 14) hx hb hts u_X4 hown hk.1 hP 3 rfl rfl 4 (by decide) (hts _ q1_66) (fun _ h9 => h9) rfl dX4_hasSide_6 ?_
    refine lv_icmp_ge (tgt := 16) hx hb dX4_hasSide_9 (by decide) (fun c9 => ?_) (fun c9 => ?_)
    · have hr := (if_pos c9).symm.trans hr
      refine lv_iconst (v := 0) hx hb dX4_hasSide_16 (by decide) ?_
      subst hr
      exact ret_z hx hb hrt hlocks bz_0 hP hS dX4_hasSide_17
    · have hr := (if_neg c9).symm.trans hr
      refine lv_iconst (v := 1) hx hb dX4_hasSide_12 (by decide) ?_
      refine lv_goto (tgt := 17) hx hb dX4_hasSide_13 (by decide) ?_
      subst hr
      exact ret_z hx hb hrt hlocks bz_1 hP hS dX4_hasSide_17
theorem hd_X4_allSides : yX4_allSides.cls = RX4 ∧ yX4_allSides.cls ≠ "java/lang/invoke/MethodHandle" ∧ yX4_allSides.cls ≠ "java/lang/invoke/VarHandle" ∧ (parseMethodDescriptor yX4_allSides.desc).map (fun d => d.parameters.length) = some 0 := by decide +kernel
def f_X4_allSides (s_s : Int32) : Int64 := (f_X7_bit s_s) - 1
set_option maxHeartbeats 4000000 in
set_option maxRecDepth 100000 in
theorem c_X4_allSides (l : Launch) (D : va_G) (cI cL cZ : ClassId) (ad : Nat → Nat) (c_sr t_n t_r t_w s_w s_h s_c s_p s_s p_nx p_sz r_k r_r r_p l_z q_z : Int32) (t_t b_l b_b b_n r_t l_l l_b l_n q_l q_b q_n : Int64) (t_le s_cs s_ps s_ha s_en pk ik : Nat → Int32) (s_ro s_me s_be s_se s_co pl pb pn il ib im l_a q_a : Nat → Int64) (hAd : cInj ad) (r : Int64) (hr : f_X4_allSides s_s = r) : ML l yX4_allSides (Cond.code yX4_allSides cX4_allSides 1 (some .long) :: W0) 1 20 D cI cL cZ (cAd ad) [.ref (ad 3)] (cw ad cI cL cZ c_sr t_n t_r t_w s_w s_h s_c s_p s_s p_nx p_sz r_k r_r r_p l_z q_z t_t b_l b_b b_n r_t l_l l_b l_n q_l q_b q_n t_le s_cs s_ps s_ha s_en pk ik s_ro s_me s_be s_se s_co pl pb pn il ib im l_a q_a) r (cw ad cI cL cZ c_sr t_n t_r t_w s_w s_h s_c s_p s_s p_nx p_sz r_k r_r r_p l_z q_z t_t b_l b_b b_n r_t l_l l_b l_n q_l q_b q_n t_le s_cs s_ps s_ha s_en pk ik s_ro s_me s_be s_se s_co pl pb pn il ib im l_a q_a) := by
  refine mk_start (cc := cX4_allSides) (maxL := 1) (ret := (some .long)) (by decide) rfl (Nat.le_of_ble_eq_true rfl) ?_
  intro p e s m below meth c ls C hP hS hl
  obtain ⟨hx, hb, hml, hrt, hlocks, hown, hts, hk⟩ := C
  have hown : s.vm.findClass RX4 = some m.cls := hown
  have hl : lv_has ls 1 [(0, .ref (ad 3))] := hl
  rw [f_X4_allSides] at hr
  refine lv_aload_n hx hb dX4_allSides_0 rfl (lv_at hl 0 rfl) ?_
  refine va_get (D := D) (ci := 4) (v := .int s_s) (C := RX4) (T := TX4) (N := 14) hx hb hts u_X4 hown hk.1 hP 3 rfl rfl 4 (by decide) (hts _ q1_66) (fun _ h9 => h9) rfl dX4_allSides_1 ?_
  refine go_l (ru_N (n := 1) ⟨hx, hb, hml, hown, hts⟩ hk hP (c_X7_bit l D cI cL cZ (cAd ad) (cw ad cI cL cZ c_sr t_n t_r t_w s_w s_h s_c s_p s_s p_nx p_sz r_k r_r r_p l_z q_z t_t b_l b_b b_n r_t l_l l_b l_n q_l q_b q_n t_le s_cs s_ps s_ha s_en pk ik s_ro s_me s_be s_se s_co pl pb pn il ib im l_a q_a) s_s _ rfl) ⟨va_cnB 1 hts (gN q2_20) rfl rfl rfl (hk.2 _ nwm_X4_98) (hts _ q1_1) hd_X7_bit ⟨Nat.le_of_ble_eq_true rfl, Nat.le_of_ble_eq_true rfl⟩, hts _ q2_19, trivial⟩ rfl hl.1 rfl (Nat.le_of_ble_eq_true rfl) dX4_allSides_4 ⟨Nat.zero_le _, Nat.zero_le _⟩) hS (fun _ h => h) (fun H locs hP hS => ?_)
  have hP : va_P D vwCl (cw ad cI cL cZ c_sr t_n t_r t_w s_w s_h s_c s_p s_s p_nx p_sz r_k r_r r_p l_z q_z t_t b_l b_b b_n r_t l_l l_b l_n q_l q_b q_n t_le s_cs s_ps s_ha s_en pk ik s_ro s_me s_be s_se s_co pl pb pn il ib im l_a q_a) H := hP
  refine lv_lconst (v := 1) hx hb dX4_allSides_7 (by decide) ?_
  refine lv_lsub hx hb dX4_allSides_8 ?_
  subst hr
  exact ret_l hx hb hrt hlocks hP hS dX4_allSides_9
theorem hd_X4_layCellSide : yX4_layCellSide.cls = RX4 ∧ yX4_layCellSide.cls ≠ "java/lang/invoke/MethodHandle" ∧ yX4_layCellSide.cls ≠ "java/lang/invoke/VarHandle" ∧ (parseMethodDescriptor yX4_layCellSide.desc).map (fun d => d.parameters.length) = some 3 := by decide +kernel
def f_X4_layCellSide (p1 : Int32) (p2 : Int32) (p3 : Int32) (s_cs : Nat → Int32) (s_ha : Nat → Int32) (s_ro : Nat → Int64) : (Nat → Int32) × (Nat → Int32) × (Nat → Int64) := (f_X7_put ((p1 * 4) + p2) p3 64 s_cs, f_X7_put ((p3 * 2) + (f_X4_firstOrSecond p2)) p1 80 s_ha, f_X7_put_ p1 ((f_X4_roundCell p1 s_ro) ||| (f_X7_bit p3)) 17 s_ro)
set_option maxHeartbeats 4000000 in
set_option maxRecDepth 100000 in
theorem c_X4_layCellSide (l : Launch) (D : va_G) (cI cL cZ : ClassId) (ad : Nat → Nat) (c_sr t_n t_r t_w s_w s_h s_c s_p s_s p_nx p_sz r_k r_r r_p l_z q_z : Int32) (t_t b_l b_b b_n r_t l_l l_b l_n q_l q_b q_n : Int64) (t_le s_cs s_ps s_ha s_en pk ik : Nat → Int32) (s_ro s_me s_be s_se s_co pl pb pn il ib im l_a q_a : Nat → Int64) (hAd : cInj ad) (p1 p2 p3 : Int32) (r : (Nat → Int32) × (Nat → Int32) × (Nat → Int64)) (hr : f_X4_layCellSide p1 p2 p3 s_cs s_ha s_ro = r) : MV l yX4_layCellSide (Cond.code yX4_layCellSide cX4_layCellSide 4 none :: W0) 1 23 D cI cL cZ (cAd ad) [.ref (ad 3), .int p1, .int p2, .int p3] (cw ad cI cL cZ c_sr t_n t_r t_w s_w s_h s_c s_p s_s p_nx p_sz r_k r_r r_p l_z q_z t_t b_l b_b b_n r_t l_l l_b l_n q_l q_b q_n t_le s_cs s_ps s_ha s_en pk ik s_ro s_me s_be s_se s_co pl pb pn il ib im l_a q_a) (cw ad cI cL cZ c_sr t_n t_r t_w s_w s_h s_c s_p s_s p_nx p_sz r_k r_r r_p l_z q_z t_t b_l b_b b_n r_t l_l l_b l_n q_l q_b q_n t_le r.1 s_ps r.2.1 s_en pk ik r.2.2 s_me s_be s_se s_co pl pb pn il ib im l_a q_a) := by
  refine mk_start (cc := cX4_layCellSide) (maxL := 4) (ret := none) (by decide) rfl (Nat.le_of_ble_eq_true rfl) ?_
  intro p e s m below meth c ls C hP hS hl
  obtain ⟨hx, hb, hml, hrt, hlocks, hown, hts, hk⟩ := C
  have hown : s.vm.findClass RX4 = some m.cls := hown
  have hl : lv_has ls 4 [(0, .ref (ad 3)), (1, .int p1), (2, .int p2), (3, .int p3)] := hl
  rw [f_X4_layCellSide] at hr
  refine lv_aload_n hx hb dX4_layCellSide_0 rfl (lv_at hl 0 rfl) ?_
  refine va_get (D := D) (ci := 4) (v := .ref (ad 4)) (C := RX4) (T := TX4) (N := 14) hx hb hts u_X4 hown hk.1 hP 3 rfl rfl 5 (by decide) (hts _ q1_69) (fun _ h9 => h9) rfl dX4_layCellSide_1 ?_
  refine lv_iload_n hx hb dX4_layCellSide_4 rfl (lv_at hl 1 rfl) ?_
  refine lv_iconst (v := 4) hx hb dX4_layCellSide_5 (by decide) ?_
  refine lv_imul hx hb dX4_layCellSide_6 ?_
  refine lv_iload_n hx hb dX4_layCellSide_7 rfl (lv_at hl 2 rfl) ?_
  refine lv_iadd hx hb dX4_layCellSide_8 ?_
  refine lv_iload_n hx hb dX4_layCellSide_9 rfl (lv_at hl 3 rfl) ?_
  refine go_v (ru_N (n := 3) ⟨hx, hb, hml, hown, hts⟩ hk hP (c_X7_put l D cI cL cZ (cAd ad) (cw ad cI cL cZ c_sr t_n t_r t_w s_w s_h s_c s_p s_s p_nx p_sz r_k r_r r_p l_z q_z t_t b_l b_b b_n r_t l_l l_b l_n q_l q_b q_n t_le s_cs s_ps s_ha s_en pk ik s_ro s_me s_be s_se s_co pl pb pn il ib im l_a q_a) 4 (ad 4) 64 _ rfl (cw_D hAd) s_cs ((p1 * 4) + p2) p3 _ rfl (by decide)) ⟨va_cnB 3 hts (gN q2_13) rfl rfl rfl (hk.2 _ nwm_X4_108) (hts _ q1_1) hd_X7_put ⟨Nat.le_of_ble_eq_true rfl, Nat.le_of_ble_eq_true rfl⟩, hts _ q2_12, trivial⟩ rfl hl.1 rfl (Nat.le_of_ble_eq_true rfl) dX4_layCellSide_10 ⟨Nat.zero_le _, Nat.zero_le _⟩) hS (fun _ h => h) (fun H locs hP hS => ?_)
  have hP : va_P D vwCl (cw ad cI cL cZ c_sr t_n t_r t_w s_w s_h s_c s_p s_s p_nx p_sz r_k r_r r_p l_z q_z t_t b_l b_b b_n r_t l_l l_b l_n q_l q_b q_n t_le (f_X7_put ((p1 * 4) + p2) p3 64 s_cs) s_ps s_ha s_en pk ik s_ro s_me s_be s_se s_co pl pb pn il ib im l_a q_a) H := hP
  refine lv_aload_n hx hb dX4_layCellSide_13 rfl (lv_at hl 0 rfl) ?_
  refine va_get (D := D) (ci := 4) (v := .ref (ad 8)) (C := RX4) (T := TX4) (N := 14) hx hb hts u_X4 hown hk.1 hP 3 rfl rfl 9 (by decide) (hts _ q1_73) (fun _ h9 => h9) rfl dX4_layCellSide_14 ?_
  refine lv_iload_n hx hb dX4_layCellSide_17 rfl (lv_at hl 1 rfl) ?_
  refine lv_aload_n hx hb dX4_layCellSide_18 rfl (lv_at hl 0 rfl) ?_
  refine lv_iload_n hx hb dX4_layCellSide_19 rfl (lv_at hl 1 rfl) ?_
  refine go_l (ru_V (n := 1) ⟨hx, hb, hml, hown, hts⟩ hk hP (c_X4_roundCell l D cI cL cZ ad c_sr t_n t_r t_w s_w s_h s_c s_p s_s p_nx p_sz r_k r_r r_p l_z q_z t_t b_l b_b b_n r_t l_l l_b l_n q_l q_b q_n t_le (f_X7_put ((p1 * 4) + p2) p3 64 s_cs) s_ps s_ha s_en pk ik s_ro s_me s_be s_se s_co pl pb pn il ib im l_a q_a hAd p1 _ rfl) (cwV 1 hts (gV q2_14 q2_15 q2_16 q1_3 q2_17) rfl rfl rfl hd_X4_roundCell ⟨Nat.le_of_ble_eq_true rfl, Nat.le_of_ble_eq_true rfl⟩) (va_recv hk.1 hP (ci := 4) (q0 := 3) rfl rfl) rfl hl.1 rfl (Nat.le_of_ble_eq_true rfl) dX4_layCellSide_20 ⟨Nat.zero_le _, Nat.zero_le _⟩) hS (fun _ h => h) (fun H locs hP hS => ?_)
  have hP : va_P D vwCl (cw ad cI cL cZ c_sr t_n t_r t_w s_w s_h s_c s_p s_s p_nx p_sz r_k r_r r_p l_z q_z t_t b_l b_b b_n r_t l_l l_b l_n q_l q_b q_n t_le (f_X7_put ((p1 * 4) + p2) p3 64 s_cs) s_ps s_ha s_en pk ik s_ro s_me s_be s_se s_co pl pb pn il ib im l_a q_a) H := hP
  refine lv_iload_n hx hb dX4_layCellSide_23 rfl (lv_at hl 3 rfl) ?_
  refine go_l (ru_N (n := 1) ⟨hx, hb, hml, hown, hts⟩ hk hP (c_X7_bit l D cI cL cZ (cAd ad) (cw ad cI cL cZ c_sr t_n t_r t_w s_w s_h s_c s_p s_s p_nx p_sz r_k r_r r_p l_z q_z t_t b_l b_b b_n r_t l_l l_b l_n q_l q_b q_n t_le (f_X7_put ((p1 * 4) + p2) p3 64 s_cs) s_ps s_ha s_en pk ik s_ro s_me s_be s_se s_co pl pb pn il ib im l_a q_a) p3 _ rfl) ⟨va_cnB 1 hts (gN q2_20) rfl rfl rfl (hk.2 _ nwm_X4_98) (hts _ q1_1) hd_X7_bit ⟨Nat.le_of_ble_eq_true rfl, Nat.le_of_ble_eq_true rfl⟩, hts _ q2_19, trivial⟩ rfl hl.1 rfl (Nat.le_of_ble_eq_true rfl) dX4_layCellSide_24 ⟨Nat.zero_le _, Nat.zero_le _⟩) hS (fun _ h => h) (fun H locs hP hS => ?_)
  have hP : va_P D vwCl (cw ad cI cL cZ c_sr t_n t_r t_w s_w s_h s_c s_p s_s p_nx p_sz r_k r_r r_p l_z q_z t_t b_l b_b b_n r_t l_l l_b l_n q_l q_b q_n t_le (f_X7_put ((p1 * 4) + p2) p3 64 s_cs) s_ps s_ha s_en pk ik s_ro s_me s_be s_se s_co pl pb pn il ib im l_a q_a) H := hP
  refine lv_lor hx hb dX4_layCellSide_27 ?_
  refine go_v (ru_N (n := 3) ⟨hx, hb, hml, hown, hts⟩ hk hP (c_X7_put_ l D cI cL cZ (cAd ad) (cw ad cI cL cZ c_sr t_n t_r t_w s_w s_h s_c s_p s_s p_nx p_sz r_k r_r r_p l_z q_z t_t b_l b_b b_n r_t l_l l_b l_n q_l q_b q_n t_le (f_X7_put ((p1 * 4) + p2) p3 64 s_cs) s_ps s_ha s_en pk ik s_ro s_me s_be s_se s_co pl pb pn il ib im l_a q_a) 8 (ad 8) 17 _ rfl (cw_D hAd) s_ro p1 ((f_X4_roundCell p1 s_ro) ||| (f_X7_bit p3)) _ rfl (by decide)) ⟨va_cnB 3 hts (gN q2_23) rfl rfl rfl (hk.2 _ nwm_X4_101) (hts _ q1_1) hd_X7_put_ ⟨Nat.le_of_ble_eq_true rfl, Nat.le_of_ble_eq_true rfl⟩, hts _ q2_22, trivial⟩ rfl hl.1 rfl (Nat.le_of_ble_eq_true rfl) dX4_layCellSide_28 ⟨Nat.zero_le _, Nat.zero_le _⟩) hS (fun _ h => h) (fun H locs hP hS => ?_)
  have hP : va_P D vwCl (cw ad cI cL cZ c_sr t_n t_r t_w s_w s_h s_c s_p s_s p_nx p_sz r_k r_r r_p l_z q_z t_t b_l b_b b_n r_t l_l l_b l_n q_l q_b q_n t_le (f_X7_put ((p1 * 4) + p2) p3 64 s_cs) s_ps s_ha s_en pk ik (f_X7_put_ p1 ((f_X4_roundCell p1 s_ro) ||| (f_X7_bit p3)) 17 s_ro) s_me s_be s_se s_co pl pb pn il ib im l_a q_a) H := hP
  refine lv_aload_n hx hb dX4_layCellSide_31 rfl (lv_at hl 0 rfl) ?_
  refine va_get (D := D) (ci := 4) (v := .ref (ad 6)) (C := RX4) (T := TX4) (N := 14) hx hb hts u_X4 hown hk.1 hP 3 rfl rfl 7 (by decide) (hts _ q1_71) (fun _ h9 => h9) rfl dX4_layCellSide_32 ?_
  refine lv_iload_n hx hb dX4_layCellSide_35 rfl (lv_at hl 3 rfl) ?_
  refine lv_iconst (v := 2) hx hb dX4_layCellSide_36 (by decide) ?_
  refine lv_imul hx hb dX4_layCellSide_37 ?_
  refine lv_iload_n hx hb dX4_layCellSide_38 rfl (lv_at hl 2 rfl) ?_
  refine go_i (ru_S (n := 1) ⟨hx, hb, hml, hown, hts⟩ hk hP (c_X4_firstOrSecond l D cI cL cZ (cAd ad) (cw ad cI cL cZ c_sr t_n t_r t_w s_w s_h s_c s_p s_s p_nx p_sz r_k r_r r_p l_z q_z t_t b_l b_b b_n r_t l_l l_b l_n q_l q_b q_n t_le (f_X7_put ((p1 * 4) + p2) p3 64 s_cs) s_ps s_ha s_en pk ik (f_X7_put_ p1 ((f_X4_roundCell p1 s_ro) ||| (f_X7_bit p3)) 17 s_ro) s_me s_be s_se s_co pl pb pn il ib im l_a q_a) p2 _ rfl) (va_cwS 1 hts (gS q2_24 q2_25 q1_3 q2_26) rfl rfl rfl hd_X4_firstOrSecond ⟨Nat.le_of_ble_eq_true rfl, Nat.le_of_ble_eq_true rfl⟩) rfl hl.1 rfl (Nat.le_of_ble_eq_true rfl) dX4_layCellSide_39 ⟨Nat.zero_le _, Nat.zero_le _⟩) hS (fun _ h => h) (fun H locs hP hS => ?_)
  have hP : va_P D vwCl (cw ad cI cL cZ c_sr t_n t_r t_w s_w s_h s_c s_p s_s p_nx p_sz r_k r_r r_p l_z q_z t_t b_l b_b b_n r_t l_l l_b l_n q_l q_b q_n t_le (f_X7_put ((p1 * 4) + p2) p3 64 s_cs) s_ps s_ha s_en pk ik (f_X7_put_ p1 ((f_X4_roundCell p1 s_ro) ||| (f_X7_bit p3)) 17 s_ro) s_me s_be s_se s_co pl pb pn il ib im l_a q_a) H := hP
  refine lv_iadd hx hb dX4_layCellSide_42 ?_
  refine lv_iload_n hx hb dX4_layCellSide_43 rfl (lv_at hl 1 rfl) ?_
  refine go_v (ru_N (n := 3) ⟨hx, hb, hml, hown, hts⟩ hk hP (c_X7_put l D cI cL cZ (cAd ad) (cw ad cI cL cZ c_sr t_n t_r t_w s_w s_h s_c s_p s_s p_nx p_sz r_k r_r r_p l_z q_z t_t b_l b_b b_n r_t l_l l_b l_n q_l q_b q_n t_le (f_X7_put ((p1 * 4) + p2) p3 64 s_cs) s_ps s_ha s_en pk ik (f_X7_put_ p1 ((f_X4_roundCell p1 s_ro) ||| (f_X7_bit p3)) 17 s_ro) s_me s_be s_se s_co pl pb pn il ib im l_a q_a) 6 (ad 6) 80 _ rfl (cw_D hAd) s_ha ((p3 * 2) + (f_X4_firstOrSecond p2)) p1 _ rfl (by decide)) ⟨va_cnB 3 hts (gN q2_13) rfl rfl rfl (hk.2 _ nwm_X4_108) (hts _ q1_1) hd_X7_put ⟨Nat.le_of_ble_eq_true rfl, Nat.le_of_ble_eq_true rfl⟩, hts _ q2_12, trivial⟩ rfl hl.1 rfl (Nat.le_of_ble_eq_true rfl) dX4_layCellSide_44 ⟨Nat.zero_le _, Nat.zero_le _⟩) hS (fun _ h => h) (fun H locs hP hS => ?_)
  have hP : va_P D vwCl (cw ad cI cL cZ c_sr t_n t_r t_w s_w s_h s_c s_p s_s p_nx p_sz r_k r_r r_p l_z q_z t_t b_l b_b b_n r_t l_l l_b l_n q_l q_b q_n t_le (f_X7_put ((p1 * 4) + p2) p3 64 s_cs) s_ps (f_X7_put ((p3 * 2) + (f_X4_firstOrSecond p2)) p1 80 s_ha) s_en pk ik (f_X7_put_ p1 ((f_X4_roundCell p1 s_ro) ||| (f_X7_bit p3)) 17 s_ro) s_me s_be s_se s_co pl pb pn il ib im l_a q_a) H := hP
  subst hr
  exact ret_v hx hb hrt hlocks hP hS dX4_layCellSide_47
theorem hd_X4_layPointSide : yX4_layPointSide.cls = RX4 ∧ yX4_layPointSide.cls ≠ "java/lang/invoke/MethodHandle" ∧ yX4_layPointSide.cls ≠ "java/lang/invoke/VarHandle" ∧ (parseMethodDescriptor yX4_layPointSide.desc).map (fun d => d.parameters.length) = some 3 := by decide +kernel
def f_X4_layPointSide (p1 : Int32) (p2 : Int32) (p3 : Int32) (s_ps : Nat → Int32) (s_en : Nat → Int32) (s_me : Nat → Int64) : (Nat → Int32) × (Nat → Int32) × (Nat → Int64) := (if p3 = ((-9)) then (f_X7_put ((p1 * 4) + p2) p3 100 s_ps, s_en, s_me) else (f_X7_put ((p1 * 4) + p2) p3 100 s_ps, f_X7_put ((p3 * 2) + (f_X4_firstOrSecond p2)) p1 80 s_en, f_X7_put_ p1 ((f_X4_atPoint p1 s_me) ||| (f_X7_bit p3)) 25 s_me))
set_option maxHeartbeats 4000000 in
set_option maxRecDepth 100000 in
theorem c_X4_layPointSide (l : Launch) (D : va_G) (cI cL cZ : ClassId) (ad : Nat → Nat) (c_sr t_n t_r t_w s_w s_h s_c s_p s_s p_nx p_sz r_k r_r r_p l_z q_z : Int32) (t_t b_l b_b b_n r_t l_l l_b l_n q_l q_b q_n : Int64) (t_le s_cs s_ps s_ha s_en pk ik : Nat → Int32) (s_ro s_me s_be s_se s_co pl pb pn il ib im l_a q_a : Nat → Int64) (hAd : cInj ad) (p1 p2 p3 : Int32) (r : (Nat → Int32) × (Nat → Int32) × (Nat → Int64)) (hr : f_X4_layPointSide p1 p2 p3 s_ps s_en s_me = r) : MV l yX4_layPointSide (Cond.code yX4_layPointSide cX4_layPointSide 4 none :: W0) 1 23 D cI cL cZ (cAd ad) [.ref (ad 3), .int p1, .int p2, .int p3] (cw ad cI cL cZ c_sr t_n t_r t_w s_w s_h s_c s_p s_s p_nx p_sz r_k r_r r_p l_z q_z t_t b_l b_b b_n r_t l_l l_b l_n q_l q_b q_n t_le s_cs s_ps s_ha s_en pk ik s_ro s_me s_be s_se s_co pl pb pn il ib im l_a q_a) (cw ad cI cL cZ c_sr t_n t_r t_w s_w s_h s_c s_p s_s p_nx p_sz r_k r_r r_p l_z q_z t_t b_l b_b b_n r_t l_l l_b l_n q_l q_b q_n t_le s_cs r.1 s_ha r.2.1 pk ik s_ro r.2.2 s_be s_se s_co pl pb pn il ib im l_a q_a) := by
  refine mk_start (cc := cX4_layPointSide) (maxL := 4) (ret := none) (by decide) rfl (Nat.le_of_ble_eq_true rfl) ?_
  intro p e s m below meth c ls C hP hS hl
  obtain ⟨hx, hb, hml, hrt, hlocks, hown, hts, hk⟩ := C
  have hown : s.vm.findClass RX4 = some m.cls := hown
  have hl : lv_has ls 4 [(0, .ref (ad 3)), (1, .int p1), (2, .int p2), (3, .int p3)] := hl
  rw [f_X4_layPointSide] at hr
  refine lv_aload_n hx hb dX4_layPointSide_0 rfl (lv_at hl 0 rfl) ?_
  refine va_get (D := D) (ci := 4) (v := .ref (ad 5)) (C := RX4) (T := TX4) (N := 14) hx hb hts u_X4 hown hk.1 hP 3 rfl rfl 6 (by decide) (hts _ q1_70) (fun _ h9 => h9) rfl dX4_layPointSide_1 ?_
  refine lv_iload_n hx hb dX4_layPointSide_4 rfl (lv_at hl 1 rfl) ?_
  refine lv_iconst (v := 4) hx hb dX4_layPointSide_5 (by decide) ?_
  refine lv_imul hx hb dX4_layPointSide_6 ?_
  refine lv_iload_n hx hb dX4_layPointSide_7 rfl (lv_at hl 2 rfl) ?_
  refine lv_iadd hx hb dX4_layPointSide_8 ?_
  refine lv_iload_n hx hb dX4_layPointSide_9 rfl (lv_at hl 3 rfl) ?_
  refine go_v (ru_N (n := 3) ⟨hx, hb, hml, hown, hts⟩ hk hP (c_X7_put l D cI cL cZ (cAd ad) (cw ad cI cL cZ c_sr t_n t_r t_w s_w s_h s_c s_p s_s p_nx p_sz r_k r_r r_p l_z q_z t_t b_l b_b b_n r_t l_l l_b l_n q_l q_b q_n t_le s_cs s_ps s_ha s_en pk ik s_ro s_me s_be s_se s_co pl pb pn il ib im l_a q_a) 5 (ad 5) 100 _ rfl (cw_D hAd) s_ps ((p1 * 4) + p2) p3 _ rfl (by decide)) ⟨va_cnB 3 hts (gN q2_13) rfl rfl rfl (hk.2 _ nwm_X4_108) (hts _ q1_1) hd_X7_put ⟨Nat.le_of_ble_eq_true rfl, Nat.le_of_ble_eq_true rfl⟩, hts _ q2_12, trivial⟩ rfl hl.1 rfl (Nat.le_of_ble_eq_true rfl) dX4_layPointSide_10 ⟨Nat.zero_le _, Nat.zero_le _⟩) hS (fun _ h => h) (fun H locs hP hS => ?_)
  have hP : va_P D vwCl (cw ad cI cL cZ c_sr t_n t_r t_w s_w s_h s_c s_p s_s p_nx p_sz r_k r_r r_p l_z q_z t_t b_l b_b b_n r_t l_l l_b l_n q_l q_b q_n t_le s_cs (f_X7_put ((p1 * 4) + p2) p3 100 s_ps) s_ha s_en pk ik s_ro s_me s_be s_se s_co pl pb pn il ib im l_a q_a) H := hP
  refine lv_iload_n hx hb dX4_layPointSide_13 rfl (lv_at hl 3 rfl) ?_
  refine lv_bipush (v := (-9)) hx hb dX4_layPointSide_14 (by decide) ?_
  refine lv_icmp_eq (tgt := 53) hx hb dX4_layPointSide_16 (by decide) (fun c16 => ?_) (fun c16 => ?_)
  · have hr := (if_pos c16).symm.trans hr
    subst hr
    exact ret_v hx hb hrt hlocks hP hS dX4_layPointSide_53
  · have hr := (if_neg c16).symm.trans hr
    refine lv_aload_n hx hb dX4_layPointSide_19 rfl (lv_at hl 0 rfl) ?_
    refine va_get (D := D) (ci := 4) (v := .ref (ad 9)) (C := RX4) (T := TX4) (N := 14) hx hb hts u_X4 hown hk.1 hP 3 rfl rfl 10 (by decide) (hts _ q1_74) (fun _ h9 => h9) rfl dX4_layPointSide_20 ?_
    refine lv_iload_n hx hb dX4_layPointSide_23 rfl (lv_at hl 1 rfl) ?_
    refine lv_aload_n hx hb dX4_layPointSide_24 rfl (lv_at hl 0 rfl) ?_
    refine lv_iload_n hx hb dX4_layPointSide_25 rfl (lv_at hl 1 rfl) ?_
    refine go_l (ru_V (n := 1) ⟨hx, hb, hml, hown, hts⟩ hk hP (c_X4_atPoint l D cI cL cZ ad c_sr t_n t_r t_w s_w s_h s_c s_p s_s p_nx p_sz r_k r_r r_p l_z q_z t_t b_l b_b b_n r_t l_l l_b l_n q_l q_b q_n t_le s_cs (f_X7_put ((p1 * 4) + p2) p3 100 s_ps) s_ha s_en pk ik s_ro s_me s_be s_se s_co pl pb pn il ib im l_a q_a hAd p1 _ rfl) (cwV 1 hts (gV q2_46 q2_47 q2_48 q1_3 q2_49) rfl rfl rfl hd_X4_atPoint ⟨Nat.le_of_ble_eq_true rfl, Nat.le_of_ble_eq_true rfl⟩) (va_recv hk.1 hP (ci := 4) (q0 := 3) rfl rfl) rfl hl.1 rfl (Nat.le_of_ble_eq_true rfl) dX4_layPointSide_26 ⟨Nat.zero_le _, Nat.zero_le _⟩) hS (fun _ h => h) (fun H locs hP hS => ?_)
    have hP : va_P D vwCl (cw ad cI cL cZ c_sr t_n t_r t_w s_w s_h s_c s_p s_s p_nx p_sz r_k r_r r_p l_z q_z t_t b_l b_b b_n r_t l_l l_b l_n q_l q_b q_n t_le s_cs (f_X7_put ((p1 * 4) + p2) p3 100 s_ps) s_ha s_en pk ik s_ro s_me s_be s_se s_co pl pb pn il ib im l_a q_a) H := hP
    refine lv_iload_n hx hb dX4_layPointSide_29 rfl (lv_at hl 3 rfl) ?_
    refine go_l (ru_N (n := 1) ⟨hx, hb, hml, hown, hts⟩ hk hP (c_X7_bit l D cI cL cZ (cAd ad) (cw ad cI cL cZ c_sr t_n t_r t_w s_w s_h s_c s_p s_s p_nx p_sz r_k r_r r_p l_z q_z t_t b_l b_b b_n r_t l_l l_b l_n q_l q_b q_n t_le s_cs (f_X7_put ((p1 * 4) + p2) p3 100 s_ps) s_ha s_en pk ik s_ro s_me s_be s_se s_co pl pb pn il ib im l_a q_a) p3 _ rfl) ⟨va_cnB 1 hts (gN q2_20) rfl rfl rfl (hk.2 _ nwm_X4_98) (hts _ q1_1) hd_X7_bit ⟨Nat.le_of_ble_eq_true rfl, Nat.le_of_ble_eq_true rfl⟩, hts _ q2_19, trivial⟩ rfl hl.1 rfl (Nat.le_of_ble_eq_true rfl) dX4_layPointSide_30 ⟨Nat.zero_le _, Nat.zero_le _⟩) hS (fun _ h => h) (fun H locs hP hS => ?_)
    have hP : va_P D vwCl (cw ad cI cL cZ c_sr t_n t_r t_w s_w s_h s_c s_p s_s p_nx p_sz r_k r_r r_p l_z q_z t_t b_l b_b b_n r_t l_l l_b l_n q_l q_b q_n t_le s_cs (f_X7_put ((p1 * 4) + p2) p3 100 s_ps) s_ha s_en pk ik s_ro s_me s_be s_se s_co pl pb pn il ib im l_a q_a) H := hP
    refine lv_lor hx hb dX4_layPointSide_33 ?_
    refine go_v (ru_N (n := 3) ⟨hx, hb, hml, hown, hts⟩ hk hP (c_X7_put_ l D cI cL cZ (cAd ad) (cw ad cI cL cZ c_sr t_n t_r t_w s_w s_h s_c s_p s_s p_nx p_sz r_k r_r r_p l_z q_z t_t b_l b_b b_n r_t l_l l_b l_n q_l q_b q_n t_le s_cs (f_X7_put ((p1 * 4) + p2) p3 100 s_ps) s_ha s_en pk ik s_ro s_me s_be s_se s_co pl pb pn il ib im l_a q_a) 9 (ad 9) 25 _ rfl (cw_D hAd) s_me p1 ((f_X4_atPoint p1 s_me) ||| (f_X7_bit p3)) _ rfl (by decide)) ⟨va_cnB 3 hts (gN q2_23) rfl rfl rfl (hk.2 _ nwm_X4_101) (hts _ q1_1) hd_X7_put_ ⟨Nat.le_of_ble_eq_true rfl, Nat.le_of_ble_eq_true rfl⟩, hts _ q2_22, trivial⟩ rfl hl.1 rfl (Nat.le_of_ble_eq_true rfl) dX4_layPointSide_34 ⟨Nat.zero_le _, Nat.zero_le _⟩) hS (fun _ h => h) (fun H locs hP hS => ?_)
    have hP : va_P D vwCl (cw ad cI cL cZ c_sr t_n t_r t_w s_w s_h s_c s_p s_s p_nx p_sz r_k r_r r_p l_z q_z t_t b_l b_b b_n r_t l_l l_b l_n q_l q_b q_n t_le s_cs (f_X7_put ((p1 * 4) + p2) p3 100 s_ps) s_ha s_en pk ik s_ro (f_X7_put_ p1 ((f_X4_atPoint p1 s_me) ||| (f_X7_bit p3)) 25 s_me) s_be s_se s_co pl pb pn il ib im l_a q_a) H := hP
    refine lv_aload_n hx hb dX4_layPointSide_37 rfl (lv_at hl 0 rfl) ?_
    refine va_get (D := D) (ci := 4) (v := .ref (ad 7)) (C := RX4) (T := TX4) (N := 14) hx hb hts u_X4 hown hk.1 hP 3 rfl rfl 8 (by decide) (hts _ q1_72) (fun _ h9 => h9) rfl dX4_layPointSide_38 ?_
    refine lv_iload_n hx hb dX4_layPointSide_41 rfl (lv_at hl 3 rfl) ?_
    refine lv_iconst (v := 2) hx hb dX4_layPointSide_42 (by decide) ?_
    refine lv_imul hx hb dX4_layPointSide_43 ?_
    refine lv_iload_n hx hb dX4_layPointSide_44 rfl (lv_at hl 2 rfl) ?_
    refine go_i (ru_S (n := 1) ⟨hx, hb, hml, hown, hts⟩ hk hP (c_X4_firstOrSecond l D cI cL cZ (cAd ad) (cw ad cI cL cZ c_sr t_n t_r t_w s_w s_h s_c s_p s_s p_nx p_sz r_k r_r r_p l_z q_z t_t b_l b_b b_n r_t l_l l_b l_n q_l q_b q_n t_le s_cs (f_X7_put ((p1 * 4) + p2) p3 100 s_ps) s_ha s_en pk ik s_ro (f_X7_put_ p1 ((f_X4_atPoint p1 s_me) ||| (f_X7_bit p3)) 25 s_me) s_be s_se s_co pl pb pn il ib im l_a q_a) p2 _ rfl) (va_cwS 1 hts (gS q2_24 q2_25 q1_3 q2_26) rfl rfl rfl hd_X4_firstOrSecond ⟨Nat.le_of_ble_eq_true rfl, Nat.le_of_ble_eq_true rfl⟩) rfl hl.1 rfl (Nat.le_of_ble_eq_true rfl) dX4_layPointSide_45 ⟨Nat.zero_le _, Nat.zero_le _⟩) hS (fun _ h => h) (fun H locs hP hS => ?_)
    have hP : va_P D vwCl (cw ad cI cL cZ c_sr t_n t_r t_w s_w s_h s_c s_p s_s p_nx p_sz r_k r_r r_p l_z q_z t_t b_l b_b b_n r_t l_l l_b l_n q_l q_b q_n t_le s_cs (f_X7_put ((p1 * 4) + p2) p3 100 s_ps) s_ha s_en pk ik s_ro (f_X7_put_ p1 ((f_X4_atPoint p1 s_me) ||| (f_X7_bit p3)) 25 s_me) s_be s_se s_co pl pb pn il ib im l_a q_a) H := hP
    refine lv_iadd hx hb dX4_layPointSide_48 ?_
    refine lv_iload_n hx hb dX4_layPointSide_49 rfl (lv_at hl 1 rfl) ?_
    refine go_v (ru_N (n := 3) ⟨hx, hb, hml, hown, hts⟩ hk hP (c_X7_put l D cI cL cZ (cAd ad) (cw ad cI cL cZ c_sr t_n t_r t_w s_w s_h s_c s_p s_s p_nx p_sz r_k r_r r_p l_z q_z t_t b_l b_b b_n r_t l_l l_b l_n q_l q_b q_n t_le s_cs (f_X7_put ((p1 * 4) + p2) p3 100 s_ps) s_ha s_en pk ik s_ro (f_X7_put_ p1 ((f_X4_atPoint p1 s_me) ||| (f_X7_bit p3)) 25 s_me) s_be s_se s_co pl pb pn il ib im l_a q_a) 7 (ad 7) 80 _ rfl (cw_D hAd) s_en ((p3 * 2) + (f_X4_firstOrSecond p2)) p1 _ rfl (by decide)) ⟨va_cnB 3 hts (gN q2_13) rfl rfl rfl (hk.2 _ nwm_X4_108) (hts _ q1_1) hd_X7_put ⟨Nat.le_of_ble_eq_true rfl, Nat.le_of_ble_eq_true rfl⟩, hts _ q2_12, trivial⟩ rfl hl.1 rfl (Nat.le_of_ble_eq_true rfl) dX4_layPointSide_50 ⟨Nat.zero_le _, Nat.zero_le _⟩) hS (fun _ h => h) (fun H locs hP hS => ?_)
    have hP : va_P D vwCl (cw ad cI cL cZ c_sr t_n t_r t_w s_w s_h s_c s_p s_s p_nx p_sz r_k r_r r_p l_z q_z t_t b_l b_b b_n r_t l_l l_b l_n q_l q_b q_n t_le s_cs (f_X7_put ((p1 * 4) + p2) p3 100 s_ps) s_ha (f_X7_put ((p3 * 2) + (f_X4_firstOrSecond p2)) p1 80 s_en) pk ik s_ro (f_X7_put_ p1 ((f_X4_atPoint p1 s_me) ||| (f_X7_bit p3)) 25 s_me) s_be s_se s_co pl pb pn il ib im l_a q_a) H := hP
    subst hr
    exact ret_v hx hb hrt hlocks hP hS dX4_layPointSide_53
theorem hd_X4_chainOf : yX4_chainOf.cls = RX4 ∧ yX4_chainOf.cls ≠ "java/lang/invoke/MethodHandle" ∧ yX4_chainOf.cls ≠ "java/lang/invoke/VarHandle" ∧ (parseMethodDescriptor yX4_chainOf.desc).map (fun d => d.parameters.length) = some 2 := by decide +kernel
def F_X4_chainOf_13 (y1 : Int64) (s_be : Nat → Int64) {β : Type} (k0 : Int64 → β) : Nat → Int64 → Int64 → Int32 → β
  | 0, x4, x6, x8 => k0 x4
  | n + 1, x4, x6, x8 => (if 40 ≤ x8 then k0 x4 else (if (lg_cmp x6 0) = 0 then k0 x4 else (if 40 ≤ (f_J13_numberOfTrailingZeros_95d88 x6) then F_X4_chainOf_13 y1 s_be k0 n (x4 ||| 0) ((x6 &&& (x6 - 1)) ||| 0) (x8 + 1) else (bd (((s_be (f_J13_numberOfTrailingZeros_95d88 x6).toNatClampNeg) &&& y1) &&& (x4 ^^^ ((-1)))) (fun v1 => F_X4_chainOf_13 y1 s_be k0 n (x4 ||| v1) ((x6 &&& (x6 - 1)) ||| v1) (x8 + 1))))))
def f_X4_chainOf (p1 : Int64) (p3 : Int32) (s_be : Nat → Int64) : Int64 := F_X4_chainOf_13 p1 s_be (fun z2 => z2) (fu 40 (0 : Int32)) (f_X7_bit p3) (f_X7_bit p3) 0
set_option maxHeartbeats 4000000 in
set_option maxRecDepth 100000 in
theorem lp_X4_chainOf_13 (l : Launch) (D : va_G) (cI cL cZ : ClassId) (ad : Nat → Nat) (c_sr t_n t_r t_w s_w s_h s_c s_p s_s p_nx p_sz r_k r_r r_p l_z q_z : Int32) (t_t b_l b_b b_n r_t l_l l_b l_n q_l q_b q_n : Int64) (t_le s_cs s_ps s_ha s_en pk ik : Nat → Int32) (s_ro s_me s_be s_se s_co pl pb pn il ib im l_a q_a : Nat → Int64) {p : Program} {e : Env} {s : State} {m : MethodId} {args : Array Value} {below : List Frame} {meth : Method} {c : Code} {Q : State → Prop} (C : Cx p s m args meth c cX4_chainOf 12 (some .long) W0 RX4 D cI cL cZ) (hAd : cInj ad) (y1 : Int64) {β : Type} (k0 : Int64 → β) (r : β)
    (h0 : ∀ (e4 : Int64) (H : Heap) (locs : List Loc) (ls : Array Slot), k0 e4 = r → va_P D vwCl (cw ad cI cL cZ c_sr t_n t_r t_w s_w s_h s_c s_p s_s p_nx p_sz r_k r_r r_p l_z q_z t_t b_l b_b b_n r_t l_l l_b l_n q_l q_b q_n t_le s_cs s_ps s_ha s_en pk ik s_ro s_me s_be s_se s_co pl pb pn il ib im l_a q_a) H → va_S (cAd ad) s.heap H locs → lv_has ls 12 [(4, .long e4)] → W p l e (rmS 2 43) s m args below meth c H locs 0 0 Q (F0 m 91 ls [])) :
    ∀ (n : Nat) (x4 x6 : Int64) (x8 : Int32) (H : Heap) (locs : List Loc) (ls : Array Slot), fuU n 40 x8 → F_X4_chainOf_13 y1 s_be k0 n x4 x6 x8 = r → va_P D vwCl (cw ad cI cL cZ c_sr t_n t_r t_w s_w s_h s_c s_p s_s p_nx p_sz r_k r_r r_p l_z q_z t_t b_l b_b b_n r_t l_l l_b l_n q_l q_b q_n t_le s_cs s_ps s_ha s_en pk ik s_ro s_me s_be s_se s_co pl pb pn il ib im l_a q_a) H → va_S (cAd ad) s.heap H locs → lv_has ls 12 [(0, .ref (ad 3)), (1, .long y1), (4, .long x4), (6, .long x6), (8, .int x8)] → W p l e (rmS 2 43) s m args below meth c H locs 0 0 Q (F0 m 13 ls []) := by
  obtain ⟨hx, hb, hml, hrt, hlocks, hown, hts, hk⟩ := C
  intro n
  induction n with
  | zero =>
    intro x4 x6 x8 H locs ls hf
    exact absurd hf.1 (Nat.lt_irrefl 0)
  | succ n ih =>
    intro x4 x6 x8 H locs ls hf hr hP hS hl
    rw [F_X4_chainOf_13] at hr
    refine lv_iload hx hb dX4_chainOf_13 (lv_at hl 4 rfl) ?_
    refine lv_bipush (v := 40) hx hb dX4_chainOf_15 (by decide) ?_
    refine lv_icmp_ge (tgt := 91) hx hb dX4_chainOf_17 (by decide) (fun c17 => ?_) (fun c17 => ?_)
    · have hr := (if_pos c17).symm.trans hr
      exact h0 x4 _ _ _ hr hP hS (lv_sub hl [2] rfl)
    · have hr := (if_neg c17).symm.trans hr
      refine lv_lload hx hb dX4_chainOf_20 (lv_at hl 3 rfl) ?_
      refine lv_lconst (v := 0) hx hb dX4_chainOf_22 (by decide) ?_
      refine W.lcmp hx hb dX4_chainOf_23 ?_
      refine lv_if_eq (tgt := 91) hx hb dX4_chainOf_24 (by decide) (fun c24 => ?_) (fun c24 => ?_)
      · have hr := (if_pos c24).symm.trans hr
        exact h0 x4 _ _ _ hr hP hS (lv_sub hl [2] rfl)
      · have hr := (if_neg c24).symm.trans hr
        refine lv_lload hx hb dX4_chainOf_27 (lv_at hl 3 rfl) ?_
        refine go_i (ru_S (n := 1) ⟨hx, hb, hml, hown, hts⟩ hk hP (c_J13_numberOfTrailingZeros_95d88 l D cI cL cZ (cAd ad) (cw ad cI cL cZ c_sr t_n t_r t_w s_w s_h s_c s_p s_s p_nx p_sz r_k r_r r_p l_z q_z t_t b_l b_b b_n r_t l_l l_b l_n q_l q_b q_n t_le s_cs s_ps s_ha s_en pk ik s_ro s_me s_be s_se s_co pl pb pn il ib im l_a q_a) x6 _ rfl) (va_cwS 1 hts (gS q3_27 q3_28 q1_13 q3_29) rfl rfl rfl hd_J13_numberOfTrailingZeros_95d88 ⟨Nat.le_of_ble_eq_true rfl, Nat.le_of_ble_eq_true rfl⟩) rfl hl.1 rfl (Nat.le_of_ble_eq_true rfl) dX4_chainOf_29 ⟨Nat.zero_le _, Nat.zero_le _⟩) hS (fun _ h => h) (fun H locs hP hS => ?_)
        have hP : va_P D vwCl (cw ad cI cL cZ c_sr t_n t_r t_w s_w s_h s_c s_p s_s p_nx p_sz r_k r_r r_p l_z q_z t_t b_l b_b b_n r_t l_l l_b l_n q_l q_b q_n t_le s_cs s_ps s_ha s_en pk ik s_ro s_me s_be s_se s_co pl pb pn il ib im l_a q_a) H := hP
        refine lv_istore (lv' := [(9, .int (f_J13_numberOfTrailingZeros_95d88 x6)), (0, .ref (ad 3)), (1, .long y1), (4, .long x4), (6, .long x6), (8, .int x8)]) hx hb dX4_chainOf_32 hl (by decide) rfl (fun ls hl => ?_)
        refine lv_iload hx hb dX4_chainOf_34 (lv_at hl 0 rfl) ?_
        refine lv_aload_n hx hb dX4_chainOf_36 rfl (lv_at hl 1 rfl) ?_
        refine va_get (D := D) (ci := 4) (v := .ref (ad 10)) (C := RX4) (T := TX4) (N := 14) hx hb hts u_X4 hown hk.1 hP 3 rfl rfl 11 (by decide) (hts _ q1_75) (fun _ h9 => h9) rfl dX4_chainOf_37 ?_
        refine va_alen (v := 40) hx hb hk.1 hP 10 1 rfl rfl rfl dX4_chainOf_40 ?_
        refine lv_icmp_ge (tgt := 63) hx hb dX4_chainOf_41 (by decide) (fun c41 => ?_) (fun c41 => ?_)
        · have hr := (if_pos c41).symm.trans hr
          refine lv_lconst (v := 0) hx hb dX4_chainOf_63 (by decide) ?_
          refine lv_lstore (lv' := [(10, .long 0), (9, .int (f_J13_numberOfTrailingZeros_95d88 x6)), (0, .ref (ad 3)), (1, .long y1), (4, .long x4), (6, .long x6), (8, .int x8)]) hx hb dX4_chainOf_64 hl (by decide) rfl (fun ls hl => ?_)
          refine lv_lload hx hb dX4_chainOf_66 (lv_at hl 4 rfl) ?_
          refine lv_lload hx hb dX4_chainOf_68 (lv_at hl 0 rfl) ?_
          refine lv_lor hx hb dX4_chainOf_70 ?_
          refine lv_lstore (lv' := [(4, .long (x4 ||| 0)), (10, .long 0), (9, .int (f_J13_numberOfTrailingZeros_95d88 x6)), (0, .ref (ad 3)), (1, .long y1), (6, .long x6), (8, .int x8)]) hx hb dX4_chainOf_71 hl (by decide) rfl (fun ls hl => ?_)
          refine lv_lload hx hb dX4_chainOf_73 (lv_at hl 5 rfl) ?_
          refine lv_lload hx hb dX4_chainOf_75 (lv_at hl 5 rfl) ?_
          refine lv_lconst (v := 1) hx hb dX4_chainOf_77 (by decide) ?_
          refine lv_lsub hx hb dX4_chainOf_78 ?_
          refine lv_land hx hb dX4_chainOf_79 ?_
          refine lv_lload hx hb dX4_chainOf_80 (lv_at hl 1 rfl) ?_
          refine lv_lor hx hb dX4_chainOf_82 ?_
          refine lv_lstore (lv' := [(6, .long ((x6 &&& (x6 - 1)) ||| 0)), (4, .long (x4 ||| 0)), (10, .long 0), (9, .int (f_J13_numberOfTrailingZeros_95d88 x6)), (0, .ref (ad 3)), (1, .long y1), (8, .int x8)]) hx hb dX4_chainOf_83 hl (by decide) rfl (fun ls hl => ?_)
          refine lv_iinc (v := x8 + 1) (lv' := [(8, .int (x8 + 1)), (6, .long ((x6 &&& (x6 - 1)) ||| 0)), (4, .long (x4 ||| 0)), (10, .long 0), (9, .int (f_J13_numberOfTrailingZeros_95d88 x6)), (0, .ref (ad 3)), (1, .long y1)]) hx hb dX4_chainOf_85 hl (k := 6) rfl rfl (by decide) rfl (fun ls hl => ?_)
          refine lv_goto (tgt := 13) hx hb dX4_chainOf_88 (by decide) ?_
          exact ih (x4 ||| 0) ((x6 &&& (x6 - 1)) ||| 0) (x8 + 1) _ _ _ (fuU_s hf c17) hr hP hS (lv_sub hl [5, 6, 2, 1, 0] rfl)
        · have hr := (if_neg c41).symm.trans hr
          refine lv_aload_n hx hb dX4_chainOf_44 rfl (lv_at hl 1 rfl) ?_
          refine va_get (D := D) (ci := 4) (v := .ref (ad 10)) (C := RX4) (T := TX4) (N := 14) hx hb hts u_X4 hown hk.1 hP 3 rfl rfl 11 (by decide) (hts _ q1_75) (fun _ h9 => h9) rfl dX4_chainOf_45 ?_
          refine lv_iload hx hb dX4_chainOf_48 (lv_at hl 0 rfl) ?_
          refine va_lald hx hb hk.1 hP 10 1 (rfl) rfl (vin_c (ntz_nn _) c41 (by decide)) dX4_chainOf_50 ?_
          refine lv_lload_n hx hb dX4_chainOf_51 rfl (lv_at hl 2 rfl) ?_
          refine lv_land hx hb dX4_chainOf_52 ?_
          refine lv_lload hx hb dX4_chainOf_53 (lv_at hl 3 rfl) ?_
          refine lv_ldc2 hx hb hown (hts _ q3_34) dX4_chainOf_55 ?_
          refine lv_lxor hx hb dX4_chainOf_58 ?_
          refine lv_land hx hb dX4_chainOf_59 ?_
          refine lv_goto (tgt := 64) hx hb dX4_chainOf_60 (by decide) ?_
          refine lv_topl (fun v1 ev1 => ?_)
          have hr := (bd_eq ev1.symm).symm.trans hr
          refine lv_lstore (lv' := [(10, .long v1), (9, .int (f_J13_numberOfTrailingZeros_95d88 x6)), (0, .ref (ad 3)), (1, .long y1), (4, .long x4), (6, .long x6), (8, .int x8)]) hx hb dX4_chainOf_64 hl (by decide) rfl (fun ls hl => ?_)
          refine lv_lload hx hb dX4_chainOf_66 (lv_at hl 4 rfl) ?_
          refine lv_lload hx hb dX4_chainOf_68 (lv_at hl 0 rfl) ?_
          refine lv_lor hx hb dX4_chainOf_70 ?_
          refine lv_lstore (lv' := [(4, .long (x4 ||| v1)), (10, .long v1), (9, .int (f_J13_numberOfTrailingZeros_95d88 x6)), (0, .ref (ad 3)), (1, .long y1), (6, .long x6), (8, .int x8)]) hx hb dX4_chainOf_71 hl (by decide) rfl (fun ls hl => ?_)
          refine lv_lload hx hb dX4_chainOf_73 (lv_at hl 5 rfl) ?_
          refine lv_lload hx hb dX4_chainOf_75 (lv_at hl 5 rfl) ?_
          refine lv_lconst (v := 1) hx hb dX4_chainOf_77 (by decide) ?_
          refine lv_lsub hx hb dX4_chainOf_78 ?_
          refine lv_land hx hb dX4_chainOf_79 ?_
          refine lv_lload hx hb dX4_chainOf_80 (lv_at hl 1 rfl) ?_
          refine lv_lor hx hb dX4_chainOf_82 ?_
          refine lv_lstore (lv' := [(6, .long ((x6 &&& (x6 - 1)) ||| v1)), (4, .long (x4 ||| v1)), (10, .long v1), (9, .int (f_J13_numberOfTrailingZeros_95d88 x6)), (0, .ref (ad 3)), (1, .long y1), (8, .int x8)]) hx hb dX4_chainOf_83 hl (by decide) rfl (fun ls hl => ?_)
          refine lv_iinc (v := x8 + 1) (lv' := [(8, .int (x8 + 1)), (6, .long ((x6 &&& (x6 - 1)) ||| v1)), (4, .long (x4 ||| v1)), (10, .long v1), (9, .int (f_J13_numberOfTrailingZeros_95d88 x6)), (0, .ref (ad 3)), (1, .long y1)]) hx hb dX4_chainOf_85 hl (k := 6) rfl rfl (by decide) rfl (fun ls hl => ?_)
          refine lv_goto (tgt := 13) hx hb dX4_chainOf_88 (by decide) ?_
          exact ih (x4 ||| v1) ((x6 &&& (x6 - 1)) ||| v1) (x8 + 1) _ _ _ (fuU_s hf c17) hr hP hS (lv_sub hl [5, 6, 2, 1, 0] rfl)
set_option maxHeartbeats 4000000 in
set_option maxRecDepth 100000 in
theorem c_X4_chainOf (l : Launch) (D : va_G) (cI cL cZ : ClassId) (ad : Nat → Nat) (c_sr t_n t_r t_w s_w s_h s_c s_p s_s p_nx p_sz r_k r_r r_p l_z q_z : Int32) (t_t b_l b_b b_n r_t l_l l_b l_n q_l q_b q_n : Int64) (t_le s_cs s_ps s_ha s_en pk ik : Nat → Int32) (s_ro s_me s_be s_se s_co pl pb pn il ib im l_a q_a : Nat → Int64) (hAd : cInj ad) (p1 : Int64) (p3 : Int32) (r : Int64) (hr : f_X4_chainOf p1 p3 s_be = r) : ML l yX4_chainOf (Cond.code yX4_chainOf cX4_chainOf 12 (some .long) :: W0) 2 43 D cI cL cZ (cAd ad) [.ref (ad 3), .long p1, .int p3] (cw ad cI cL cZ c_sr t_n t_r t_w s_w s_h s_c s_p s_s p_nx p_sz r_k r_r r_p l_z q_z t_t b_l b_b b_n r_t l_l l_b l_n q_l q_b q_n t_le s_cs s_ps s_ha s_en pk ik s_ro s_me s_be s_se s_co pl pb pn il ib im l_a q_a) r (cw ad cI cL cZ c_sr t_n t_r t_w s_w s_h s_c s_p s_s p_nx p_sz r_k r_r r_p l_z q_z t_t b_l b_b b_n r_t l_l l_b l_n q_l q_b q_n t_le s_cs s_ps s_ha s_en pk ik s_ro s_me s_be s_se s_co pl pb pn il ib im l_a q_a) := by
  refine mk_start (cc := cX4_chainOf) (maxL := 12) (ret := (some .long)) (by decide) rfl (Nat.le_of_ble_eq_true rfl) ?_
  intro p e s m below meth c ls C hP hS hl
  obtain ⟨hx, hb, hml, hrt, hlocks, hown, hts, hk⟩ := C
  have hown : s.vm.findClass RX4 = some m.cls := hown
  have hl : lv_has ls 12 [(0, .ref (ad 3)), (1, .long p1), (3, .int p3)] := hl
  rw [f_X4_chainOf] at hr
  refine lv_iload_n hx hb dX4_chainOf_0 rfl (lv_at hl 2 rfl) ?_
  refine go_l (ru_N (n := 1) ⟨hx, hb, hml, hown, hts⟩ hk hP (c_X7_bit l D cI cL cZ (cAd ad) (cw ad cI cL cZ c_sr t_n t_r t_w s_w s_h s_c s_p s_s p_nx p_sz r_k r_r r_p l_z q_z t_t b_l b_b b_n r_t l_l l_b l_n q_l q_b q_n t_le s_cs s_ps s_ha s_en pk ik s_ro s_me s_be s_se s_co pl pb pn il ib im l_a q_a) p3 _ rfl) ⟨va_cnB 1 hts (gN q2_20) rfl rfl rfl (hk.2 _ nwm_X4_98) (hts _ q1_1) hd_X7_bit ⟨Nat.le_of_ble_eq_true rfl, Nat.le_of_ble_eq_true rfl⟩, hts _ q2_19, trivial⟩ rfl hl.1 rfl (Nat.le_of_ble_eq_true rfl) dX4_chainOf_1 ⟨Nat.zero_le _, Nat.zero_le _⟩) hS (fun _ h => h) (fun H locs hP hS => ?_)
  have hP : va_P D vwCl (cw ad cI cL cZ c_sr t_n t_r t_w s_w s_h s_c s_p s_s p_nx p_sz r_k r_r r_p l_z q_z t_t b_l b_b b_n r_t l_l l_b l_n q_l q_b q_n t_le s_cs s_ps s_ha s_en pk ik s_ro s_me s_be s_se s_co pl pb pn il ib im l_a q_a) H := hP
  refine lv_lstore (lv' := [(4, .long (f_X7_bit p3)), (0, .ref (ad 3)), (1, .long p1), (3, .int p3)]) hx hb dX4_chainOf_4 hl (by decide) rfl (fun ls hl => ?_)
  refine lv_lload hx hb dX4_chainOf_6 (lv_at hl 0 rfl) ?_
  refine lv_lstore (lv' := [(6, .long (f_X7_bit p3)), (4, .long (f_X7_bit p3)), (0, .ref (ad 3)), (1, .long p1), (3, .int p3)]) hx hb dX4_chainOf_8 hl (by decide) rfl (fun ls hl => ?_)
  refine lv_iconst (v := 0) hx hb dX4_chainOf_10 (by decide) ?_
  refine lv_istore (lv' := [(8, .int 0), (6, .long (f_X7_bit p3)), (4, .long (f_X7_bit p3)), (0, .ref (ad 3)), (1, .long p1), (3, .int p3)]) hx hb dX4_chainOf_11 hl (by decide) rfl (fun ls hl => ?_)
  refine lp_X4_chainOf_13 l D cI cL cZ ad c_sr t_n t_r t_w s_w s_h s_c s_p s_s p_nx p_sz r_k r_r r_p l_z q_z t_t b_l b_b b_n r_t l_l l_b l_n q_l q_b q_n t_le s_cs s_ps s_ha s_en pk ik s_ro s_me s_be s_se s_co pl pb pn il ib im l_a q_a ⟨hx, hb, hml, hrt, hlocks, hown, hts, hk⟩ hAd p1 _ _ (fun z2 H locs ls hr hP hS hl => ?_) (fu 40 (0 : Int32)) (f_X7_bit p3) (f_X7_bit p3) 0 _ _ _ (fuU_0 (by decide)) hr hP hS (lv_sub hl [3, 4, 2, 1, 0] rfl)
  refine lv_lload hx hb dX4_chainOf_91 (lv_at hl 0 rfl) ?_
  subst hr
  exact ret_l hx hb hrt hlocks hP hS dX4_chainOf_93
theorem hd_X4_cellsWithin : yX4_cellsWithin.cls = RX4 ∧ yX4_cellsWithin.cls ≠ "java/lang/invoke/MethodHandle" ∧ yX4_cellsWithin.cls ≠ "java/lang/invoke/VarHandle" ∧ (parseMethodDescriptor yX4_cellsWithin.desc).map (fun d => d.parameters.length) = some 1 := by decide +kernel
def F_X4_cellsWithin_20 (y1 : Int64) (y4 : Int32) (s_w : Int32) (s_h : Int32) {β : Type} (k0 : Int32 → β) : Nat → Int32 → Int32 → Int32 → β
  | 0, x3, x5, x6 => k0 x3
  | n + 1, x3, x5, x6 => (if s_w ≤ x6 then k0 x3 else (if (lg_cmp (y1 &&& (f_X7_bit (f_X4_standing x6 y4 s_w s_h))) 0) = 0 then (if x5 = 0 then F_X4_cellsWithin_20 y1 y4 s_w s_h k0 n x3 x5 (x6 + 1) else F_X4_cellsWithin_20 y1 y4 s_w s_h k0 n (x3 ||| (1 <<< (((y4 * s_w) + x6) &&& 31))) x5 (x6 + 1)) else (if x5 = 0 then F_X4_cellsWithin_20 y1 y4 s_w s_h k0 n (x3 ||| (1 <<< (((y4 * s_w) + x6) &&& 31))) 1 (x6 + 1) else F_X4_cellsWithin_20 y1 y4 s_w s_h k0 n x3 0 (x6 + 1))))
def F_X4_cellsWithin_5 (y1 : Int64) (s_w : Int32) (s_h : Int32) {β : Type} (k0 : Int32 → β) : Nat → Int32 → Int32 → β
  | 0, x3, x4 => k0 x3
  | n + 1, x3, x4 => (if s_h ≤ x4 then k0 x3 else F_X4_cellsWithin_20 y1 x4 s_w s_h (fun z1 => F_X4_cellsWithin_5 y1 s_w s_h k0 n z1 (x4 + 1)) (fu s_w (0 : Int32)) x3 0 0)
def f_X4_cellsWithin (p1 : Int64) (s_w : Int32) (s_h : Int32) : Int32 := F_X4_cellsWithin_5 p1 s_w s_h (fun z2 => z2) (fu s_h (0 : Int32)) 0 0
set_option maxHeartbeats 4000000 in
set_option maxRecDepth 100000 in
theorem lp_X4_cellsWithin_20 (l : Launch) (D : va_G) (cI cL cZ : ClassId) (ad : Nat → Nat) (c_sr t_n t_r t_w s_w s_h s_c s_p s_s p_nx p_sz r_k r_r r_p l_z q_z : Int32) (t_t b_l b_b b_n r_t l_l l_b l_n q_l q_b q_n : Int64) (t_le s_cs s_ps s_ha s_en pk ik : Nat → Int32) (s_ro s_me s_be s_se s_co pl pb pn il ib im l_a q_a : Nat → Int64) {p : Program} {e : Env} {s : State} {m : MethodId} {args : Array Value} {below : List Frame} {meth : Method} {c : Code} {Q : State → Prop} (C : Cx p s m args meth c cX4_cellsWithin 7 (some .int) W0 RX4 D cI cL cZ) (hAd : cInj ad) (y1 : Int64) (y4 : Int32) {β : Type} (k0 : Int32 → β) (r : β)
    (h0 : ∀ (e3 : Int32) (H : Heap) (locs : List Loc) (ls : Array Slot), k0 e3 = r → va_P D vwCl (cw ad cI cL cZ c_sr t_n t_r t_w s_w s_h s_c s_p s_s p_nx p_sz r_k r_r r_p l_z q_z t_t b_l b_b b_n r_t l_l l_b l_n q_l q_b q_n t_le s_cs s_ps s_ha s_en pk ik s_ro s_me s_be s_se s_co pl pb pn il ib im l_a q_a) H → va_S (cAd ad) s.heap H locs → lv_has ls 7 [(0, .ref (ad 3)), (1, .long y1), (3, .int e3), (4, .int y4)] → W p l e (rmS 1 22) s m args below meth c H locs 0 0 Q (F0 m 85 ls [])) :
    ∀ (n : Nat) (x3 x5 x6 : Int32) (H : Heap) (locs : List Loc) (ls : Array Slot), fuU n s_w x6 → F_X4_cellsWithin_20 y1 y4 s_w s_h k0 n x3 x5 x6 = r → va_P D vwCl (cw ad cI cL cZ c_sr t_n t_r t_w s_w s_h s_c s_p s_s p_nx p_sz r_k r_r r_p l_z q_z t_t b_l b_b b_n r_t l_l l_b l_n q_l q_b q_n t_le s_cs s_ps s_ha s_en pk ik s_ro s_me s_be s_se s_co pl pb pn il ib im l_a q_a) H → va_S (cAd ad) s.heap H locs → lv_has ls 7 [(0, .ref (ad 3)), (1, .long y1), (3, .int x3), (4, .int y4), (5, .int x5), (6, .int x6)] → W p l e (rmS 1 22) s m args below meth c H locs 0 0 Q (F0 m 20 ls []) := by
  obtain ⟨hx, hb, hml, hrt, hlocks, hown, hts, hk⟩ := C
  intro n
  induction n with
  | zero =>
    intro x3 x5 x6 H locs ls hf
    exact absurd hf.1 (Nat.lt_irrefl 0)
  | succ n ih =>
    intro x3 x5 x6 H locs ls hf hr hP hS hl
    rw [F_X4_cellsWithin_20] at hr
    refine lv_iload hx hb dX4_cellsWithin_20 (lv_at hl 5 rfl) ?_
    refine lv_aload_n hx hb dX4_cellsWithin_22 rfl (lv_at hl 0 rfl) ?_
    refine va_get (D := D) (ci := 4) (v := .int s_w) (C := RX4) (T := TX4) (N := 14) hx hb hts u_X4 hown hk.1 hP 3 rfl rfl 0 (by decide) (hts _ q1_56) (fun _ h9 => h9) rfl dX4_cellsWithin_23 ?_
    refine lv_icmp_ge (tgt := 85) hx hb dX4_cellsWithin_26 (by decide) (fun c26 => ?_) (fun c26 => ?_)
    · have hr := (if_pos c26).symm.trans hr
      exact h0 x3 _ _ _ hr hP hS (lv_sub hl [0, 1, 2, 3] rfl)
    · have hr := (if_neg c26).symm.trans hr
      refine lv_lload_n hx hb dX4_cellsWithin_29 rfl (lv_at hl 1 rfl) ?_
      refine lv_aload_n hx hb dX4_cellsWithin_30 rfl (lv_at hl 0 rfl) ?_
      refine lv_iload hx hb dX4_cellsWithin_31 (lv_at hl 5 rfl) ?_
      refine lv_iload hx hb dX4_cellsWithin_33 (lv_at hl 3 rfl) ?_
      refine go_i (ru_V (n := 2) ⟨hx, hb, hml, hown, hts⟩ hk hP (c_X4_standing l D cI cL cZ ad c_sr t_n t_r t_w s_w s_h s_c s_p s_s p_nx p_sz r_k r_r r_p l_z q_z t_t b_l b_b b_n r_t l_l l_b l_n q_l q_b q_n t_le s_cs s_ps s_ha s_en pk ik s_ro s_me s_be s_se s_co pl pb pn il ib im l_a q_a hAd x6 y4 _ rfl) (cwV 2 hts (gV q2_27 q2_29 qs1_3 q1_3 q2_30) rfl rfl rfl hd_X4_standing ⟨Nat.le_of_ble_eq_true rfl, Nat.le_of_ble_eq_true rfl⟩) (va_recv hk.1 hP (ci := 4) (q0 := 3) rfl rfl) rfl hl.1 rfl (Nat.le_of_ble_eq_true rfl) dX4_cellsWithin_35 ⟨Nat.zero_le _, Nat.zero_le _⟩) hS (fun _ h => h) (fun H locs hP hS => ?_)
      have hP : va_P D vwCl (cw ad cI cL cZ c_sr t_n t_r t_w s_w s_h s_c s_p s_s p_nx p_sz r_k r_r r_p l_z q_z t_t b_l b_b b_n r_t l_l l_b l_n q_l q_b q_n t_le s_cs s_ps s_ha s_en pk ik s_ro s_me s_be s_se s_co pl pb pn il ib im l_a q_a) H := hP
      refine go_l (ru_N (n := 1) ⟨hx, hb, hml, hown, hts⟩ hk hP (c_X7_bit l D cI cL cZ (cAd ad) (cw ad cI cL cZ c_sr t_n t_r t_w s_w s_h s_c s_p s_s p_nx p_sz r_k r_r r_p l_z q_z t_t b_l b_b b_n r_t l_l l_b l_n q_l q_b q_n t_le s_cs s_ps s_ha s_en pk ik s_ro s_me s_be s_se s_co pl pb pn il ib im l_a q_a) (f_X4_standing x6 y4 s_w s_h) _ rfl) ⟨va_cnB 1 hts (gN q2_20) rfl rfl rfl (hk.2 _ nwm_X4_98) (hts _ q1_1) hd_X7_bit ⟨Nat.le_of_ble_eq_true rfl, Nat.le_of_ble_eq_true rfl⟩, hts _ q2_19, trivial⟩ rfl hl.1 rfl (Nat.le_of_ble_eq_true rfl) dX4_cellsWithin_38 ⟨Nat.zero_le _, Nat.zero_le _⟩) hS (fun _ h => h) (fun H locs hP hS => ?_)
      have hP : va_P D vwCl (cw ad cI cL cZ c_sr t_n t_r t_w s_w s_h s_c s_p s_s p_nx p_sz r_k r_r r_p l_z q_z t_t b_l b_b b_n r_t l_l l_b l_n q_l q_b q_n t_le s_cs s_ps s_ha s_en pk ik s_ro s_me s_be s_se s_co pl pb pn il ib im l_a q_a) H := hP
      refine lv_land hx hb dX4_cellsWithin_41 ?_
      refine lv_lconst (v := 0) hx hb dX4_cellsWithin_42 (by decide) ?_
      refine W.lcmp hx hb dX4_cellsWithin_43 ?_
      refine lv_if_eq (tgt := 59) hx hb dX4_cellsWithin_44 (by decide) (fun c44 => ?_) (fun c44 => ?_)
      · have hr := (if_pos c44).symm.trans hr
        refine lv_iload hx hb dX4_cellsWithin_59 (lv_at hl 4 rfl) ?_
        refine lv_if_eq (tgt := 79) hx hb dX4_cellsWithin_61 (by decide) (fun c61 => ?_) (fun c61 => ?_)
        · have hr := (if_pos c61).symm.trans hr
          refine lv_iinc (v := x6 + 1) (lv' := [(6, .int (x6 + 1)), (0, .ref (ad 3)), (1, .long y1), (3, .int x3), (4, .int y4), (5, .int x5)]) hx hb dX4_cellsWithin_79 hl (k := 5) rfl rfl (by decide) rfl (fun ls hl => ?_)
          refine lv_goto (tgt := 20) hx hb dX4_cellsWithin_82 (by decide) ?_
          exact ih x3 x5 (x6 + 1) _ _ _ (fuU_s hf c26) hr hP hS (lv_sub hl [1, 2, 3, 4, 5, 0] rfl)
        · have hr := (if_neg c61).symm.trans hr
          refine lv_iload_n hx hb dX4_cellsWithin_64 rfl (lv_at hl 2 rfl) ?_
          refine lv_iconst (v := 1) hx hb dX4_cellsWithin_65 (by decide) ?_
          refine lv_iload hx hb dX4_cellsWithin_66 (lv_at hl 3 rfl) ?_
          refine lv_aload_n hx hb dX4_cellsWithin_68 rfl (lv_at hl 0 rfl) ?_
          refine va_get (D := D) (ci := 4) (v := .int s_w) (C := RX4) (T := TX4) (N := 14) hx hb hts u_X4 hown hk.1 hP 3 rfl rfl 0 (by decide) (hts _ q1_56) (fun _ h9 => h9) rfl dX4_cellsWithin_69 ?_
          refine lv_imul hx hb dX4_cellsWithin_72 ?_
          refine lv_iload hx hb dX4_cellsWithin_73 (lv_at hl 5 rfl) ?_
          refine lv_iadd hx hb dX4_cellsWithin_75 ?_
          refine lv_ishl hx hb dX4_cellsWithin_76 ?_
          refine lv_ior hx hb dX4_cellsWithin_77 ?_
          refine lv_istore_n (lv' := [(3, .int (x3 ||| (1 <<< (((y4 * s_w) + x6) &&& 31)))), (0, .ref (ad 3)), (1, .long y1), (4, .int y4), (5, .int x5), (6, .int x6)]) hx hb dX4_cellsWithin_78 rfl hl (by decide) rfl (fun ls hl => ?_)
          refine lv_iinc (v := x6 + 1) (lv' := [(6, .int (x6 + 1)), (3, .int (x3 ||| (1 <<< (((y4 * s_w) + x6) &&& 31)))), (0, .ref (ad 3)), (1, .long y1), (4, .int y4), (5, .int x5)]) hx hb dX4_cellsWithin_79 hl (k := 5) rfl rfl (by decide) rfl (fun ls hl => ?_)
          refine lv_goto (tgt := 20) hx hb dX4_cellsWithin_82 (by decide) ?_
          exact ih (x3 ||| (1 <<< (((y4 * s_w) + x6) &&& 31))) x5 (x6 + 1) _ _ _ (fuU_s hf c26) hr hP hS (lv_sub hl [2, 3, 1, 4, 5, 0] rfl)
      · have hr := (if_neg c44).symm.trans hr
        refine lv_iload hx hb dX4_cellsWithin_47 (lv_at hl 4 rfl) ?_
        refine lv_if_ne (tgt := 56) hx hb dX4_cellsWithin_49 (by decide) (fun c49 => ?_) (fun c49 => ?_)
        · have hr := (if_neg c49).symm.trans hr
          refine lv_iconst (v := 0) hx hb dX4_cellsWithin_56 (by decide) ?_
          refine lv_istore (lv' := [(5, .int 0), (0, .ref (ad 3)), (1, .long y1), (3, .int x3), (4, .int y4), (6, .int x6)]) hx hb dX4_cellsWithin_57 hl (by decide) rfl (fun ls hl => ?_)
          refine lv_iload hx hb dX4_cellsWithin_59 (lv_at hl 0 rfl) ?_
          refine lv_if_eq (tgt := 79) hx hb dX4_cellsWithin_61 (by decide) (fun c61 => ?_) (fun c61 => ?_)
          · refine lv_iinc (v := x6 + 1) (lv' := [(6, .int (x6 + 1)), (5, .int 0), (0, .ref (ad 3)), (1, .long y1), (3, .int x3), (4, .int y4)]) hx hb dX4_cellsWithin_79 hl (k := 5) rfl rfl (by decide) rfl (fun ls hl => ?_)
            refine lv_goto (tgt := 20) hx hb dX4_cellsWithin_82 (by decide) ?_
            exact ih x3 0 (x6 + 1) _ _ _ (fuU_s hf c26) hr hP hS (lv_sub hl [2, 3, 4, 5, 1, 0] rfl)
          · exact absurd (by decide) c61
        · have hr := (if_pos c49).symm.trans hr
          refine lv_iconst (v := 1) hx hb dX4_cellsWithin_52 (by decide) ?_
          refine lv_goto (tgt := 57) hx hb dX4_cellsWithin_53 (by decide) ?_
          refine lv_istore (lv' := [(5, .int 1), (0, .ref (ad 3)), (1, .long y1), (3, .int x3), (4, .int y4), (6, .int x6)]) hx hb dX4_cellsWithin_57 hl (by decide) rfl (fun ls hl => ?_)
          refine lv_iload hx hb dX4_cellsWithin_59 (lv_at hl 0 rfl) ?_
          refine lv_if_eq (tgt := 79) hx hb dX4_cellsWithin_61 (by decide) (fun c61 => ?_) (fun c61 => ?_)
          · exact absurd c61 (by decide)
          · refine lv_iload_n hx hb dX4_cellsWithin_64 rfl (lv_at hl 3 rfl) ?_
            refine lv_iconst (v := 1) hx hb dX4_cellsWithin_65 (by decide) ?_
            refine lv_iload hx hb dX4_cellsWithin_66 (lv_at hl 4 rfl) ?_
            refine lv_aload_n hx hb dX4_cellsWithin_68 rfl (lv_at hl 1 rfl) ?_
            refine va_get (D := D) (ci := 4) (v := .int s_w) (C := RX4) (T := TX4) (N := 14) hx hb hts u_X4 hown hk.1 hP 3 rfl rfl 0 (by decide) (hts _ q1_56) (fun _ h9 => h9) rfl dX4_cellsWithin_69 ?_
            refine lv_imul hx hb dX4_cellsWithin_72 ?_
            refine lv_iload hx hb dX4_cellsWithin_73 (lv_at hl 5 rfl) ?_
            refine lv_iadd hx hb dX4_cellsWithin_75 ?_
            refine lv_ishl hx hb dX4_cellsWithin_76 ?_
            refine lv_ior hx hb dX4_cellsWithin_77 ?_
            refine lv_istore_n (lv' := [(3, .int (x3 ||| (1 <<< (((y4 * s_w) + x6) &&& 31)))), (5, .int 1), (0, .ref (ad 3)), (1, .long y1), (4, .int y4), (6, .int x6)]) hx hb dX4_cellsWithin_78 rfl hl (by decide) rfl (fun ls hl => ?_)
            refine lv_iinc (v := x6 + 1) (lv' := [(6, .int (x6 + 1)), (3, .int (x3 ||| (1 <<< (((y4 * s_w) + x6) &&& 31)))), (5, .int 1), (0, .ref (ad 3)), (1, .long y1), (4, .int y4)]) hx hb dX4_cellsWithin_79 hl (k := 5) rfl rfl (by decide) rfl (fun ls hl => ?_)
            refine lv_goto (tgt := 20) hx hb dX4_cellsWithin_82 (by decide) ?_
            exact ih (x3 ||| (1 <<< (((y4 * s_w) + x6) &&& 31))) 1 (x6 + 1) _ _ _ (fuU_s hf c26) hr hP hS (lv_sub hl [3, 4, 1, 5, 2, 0] rfl)
set_option maxHeartbeats 4000000 in
set_option maxRecDepth 100000 in
theorem lp_X4_cellsWithin_5 (l : Launch) (D : va_G) (cI cL cZ : ClassId) (ad : Nat → Nat) (c_sr t_n t_r t_w s_w s_h s_c s_p s_s p_nx p_sz r_k r_r r_p l_z q_z : Int32) (t_t b_l b_b b_n r_t l_l l_b l_n q_l q_b q_n : Int64) (t_le s_cs s_ps s_ha s_en pk ik : Nat → Int32) (s_ro s_me s_be s_se s_co pl pb pn il ib im l_a q_a : Nat → Int64) {p : Program} {e : Env} {s : State} {m : MethodId} {args : Array Value} {below : List Frame} {meth : Method} {c : Code} {Q : State → Prop} (C : Cx p s m args meth c cX4_cellsWithin 7 (some .int) W0 RX4 D cI cL cZ) (hAd : cInj ad) (y1 : Int64) {β : Type} (k0 : Int32 → β) (r : β)
    (h0 : ∀ (e3 : Int32) (H : Heap) (locs : List Loc) (ls : Array Slot), k0 e3 = r → va_P D vwCl (cw ad cI cL cZ c_sr t_n t_r t_w s_w s_h s_c s_p s_s p_nx p_sz r_k r_r r_p l_z q_z t_t b_l b_b b_n r_t l_l l_b l_n q_l q_b q_n t_le s_cs s_ps s_ha s_en pk ik s_ro s_me s_be s_se s_co pl pb pn il ib im l_a q_a) H → va_S (cAd ad) s.heap H locs → lv_has ls 7 [(3, .int e3)] → W p l e (rmS 1 22) s m args below meth c H locs 0 0 Q (F0 m 91 ls [])) :
    ∀ (n : Nat) (x3 x4 : Int32) (H : Heap) (locs : List Loc) (ls : Array Slot), fuU n s_h x4 → F_X4_cellsWithin_5 y1 s_w s_h k0 n x3 x4 = r → va_P D vwCl (cw ad cI cL cZ c_sr t_n t_r t_w s_w s_h s_c s_p s_s p_nx p_sz r_k r_r r_p l_z q_z t_t b_l b_b b_n r_t l_l l_b l_n q_l q_b q_n t_le s_cs s_ps s_ha s_en pk ik s_ro s_me s_be s_se s_co pl pb pn il ib im l_a q_a) H → va_S (cAd ad) s.heap H locs → lv_has ls 7 [(0, .ref (ad 3)), (1, .long y1), (3, .int x3), (4, .int x4)] → W p l e (rmS 1 22) s m args below meth c H locs 0 0 Q (F0 m 5 ls []) := by
  obtain ⟨hx, hb, hml, hrt, hlocks, hown, hts, hk⟩ := C
  intro n
  induction n with
  | zero =>
    intro x3 x4 H locs ls hf
    exact absurd hf.1 (Nat.lt_irrefl 0)
  | succ n ih =>
    intro x3 x4 H locs ls hf hr hP hS hl
    rw [F_X4_cellsWithin_5] at hr
    refine lv_iload hx hb dX4_cellsWithin_5 (lv_at hl 3 rfl) ?_
    refine lv_aload_n hx hb dX4_cellsWithin_7 rfl (lv_at hl 0 rfl) ?_
    refine va_get (D := D) (ci := 4) (v := .int s_h) (C := RX4) (T := TX4) (N := 14) hx hb hts u_X4 hown hk.1 hP 3 rfl rfl 1 (by decide) (hts _ q1_58) (fun _ h9 => h9) rfl dX4_cellsWithin_8 ?_
    refine lv_icmp_ge (tgt := 91) hx hb dX4_cellsWithin_11 (by decide) (fun c11 => ?_) (fun c11 => ?_)
    · have hr := (if_pos c11).symm.trans hr
      exact h0 x3 _ _ _ hr hP hS (lv_sub hl [2] rfl)
    · have hr := (if_neg c11).symm.trans hr
      refine lv_iconst (v := 0) hx hb dX4_cellsWithin_14 (by decide) ?_
      refine lv_istore (lv' := [(5, .int 0), (0, .ref (ad 3)), (1, .long y1), (3, .int x3), (4, .int x4)]) hx hb dX4_cellsWithin_15 hl (by decide) rfl (fun ls hl => ?_)
      refine lv_iconst (v := 0) hx hb dX4_cellsWithin_17 (by decide) ?_
      refine lv_istore (lv' := [(6, .int 0), (5, .int 0), (0, .ref (ad 3)), (1, .long y1), (3, .int x3), (4, .int x4)]) hx hb dX4_cellsWithin_18 hl (by decide) rfl (fun ls hl => ?_)
      refine lp_X4_cellsWithin_20 l D cI cL cZ ad c_sr t_n t_r t_w s_w s_h s_c s_p s_s p_nx p_sz r_k r_r r_p l_z q_z t_t b_l b_b b_n r_t l_l l_b l_n q_l q_b q_n t_le s_cs s_ps s_ha s_en pk ik s_ro s_me s_be s_se s_co pl pb pn il ib im l_a q_a ⟨hx, hb, hml, hrt, hlocks, hown, hts, hk⟩ hAd y1 x4 _ _ (fun z1 H locs ls hr hP hS hl => ?_) (fu s_w (0 : Int32)) x3 0 0 _ _ _ (fuU_0 (by decide)) hr hP hS (lv_sub hl [2, 3, 4, 5, 1, 0] rfl)
      refine lv_iinc (v := x4 + 1) (lv' := [(4, .int (x4 + 1)), (0, .ref (ad 3)), (1, .long y1), (3, .int z1)]) hx hb dX4_cellsWithin_85 hl (k := 3) rfl rfl (by decide) rfl (fun ls hl => ?_)
      refine lv_goto (tgt := 5) hx hb dX4_cellsWithin_88 (by decide) ?_
      exact ih z1 (x4 + 1) _ _ _ (fuU_s hf c11) hr hP hS (lv_sub hl [1, 2, 3, 0] rfl)
set_option maxHeartbeats 4000000 in
set_option maxRecDepth 100000 in
theorem c_X4_cellsWithin (l : Launch) (D : va_G) (cI cL cZ : ClassId) (ad : Nat → Nat) (c_sr t_n t_r t_w s_w s_h s_c s_p s_s p_nx p_sz r_k r_r r_p l_z q_z : Int32) (t_t b_l b_b b_n r_t l_l l_b l_n q_l q_b q_n : Int64) (t_le s_cs s_ps s_ha s_en pk ik : Nat → Int32) (s_ro s_me s_be s_se s_co pl pb pn il ib im l_a q_a : Nat → Int64) (hAd : cInj ad) (p1 : Int64) (r : Int32) (hr : f_X4_cellsWithin p1 s_w s_h = r) : MI l yX4_cellsWithin (Cond.code yX4_cellsWithin cX4_cellsWithin 7 (some .int) :: W0) 1 22 D cI cL cZ (cAd ad) [.ref (ad 3), .long p1] (cw ad cI cL cZ c_sr t_n t_r t_w s_w s_h s_c s_p s_s p_nx p_sz r_k r_r r_p l_z q_z t_t b_l b_b b_n r_t l_l l_b l_n q_l q_b q_n t_le s_cs s_ps s_ha s_en pk ik s_ro s_me s_be s_se s_co pl pb pn il ib im l_a q_a) r (cw ad cI cL cZ c_sr t_n t_r t_w s_w s_h s_c s_p s_s p_nx p_sz r_k r_r r_p l_z q_z t_t b_l b_b b_n r_t l_l l_b l_n q_l q_b q_n t_le s_cs s_ps s_ha s_en pk ik s_ro s_me s_be s_se s_co pl pb pn il ib im l_a q_a) := by
  refine mk_start (cc := cX4_cellsWithin) (maxL := 7) (ret := (some .int)) (by decide) rfl (Nat.le_of_ble_eq_true rfl) ?_
  intro p e s m below meth c ls C hP hS hl
  obtain ⟨hx, hb, hml, hrt, hlocks, hown, hts, hk⟩ := C
  have hown : s.vm.findClass RX4 = some m.cls := hown
  have hl : lv_has ls 7 [(0, .ref (ad 3)), (1, .long p1)] := hl
  rw [f_X4_cellsWithin] at hr
  refine lv_iconst (v := 0) hx hb dX4_cellsWithin_0 (by decide) ?_
  refine lv_istore_n (lv' := [(3, .int 0), (0, .ref (ad 3)), (1, .long p1)]) hx hb dX4_cellsWithin_1 rfl hl (by decide) rfl (fun ls hl => ?_)
  refine lv_iconst (v := 0) hx hb dX4_cellsWithin_2 (by decide) ?_
  refine lv_istore (lv' := [(4, .int 0), (3, .int 0), (0, .ref (ad 3)), (1, .long p1)]) hx hb dX4_cellsWithin_3 hl (by decide) rfl (fun ls hl => ?_)
  refine lp_X4_cellsWithin_5 l D cI cL cZ ad c_sr t_n t_r t_w s_w s_h s_c s_p s_s p_nx p_sz r_k r_r r_p l_z q_z t_t b_l b_b b_n r_t l_l l_b l_n q_l q_b q_n t_le s_cs s_ps s_ha s_en pk ik s_ro s_me s_be s_se s_co pl pb pn il ib im l_a q_a ⟨hx, hb, hml, hrt, hlocks, hown, hts, hk⟩ hAd p1 _ _ (fun z2 H locs ls hr hP hS hl => ?_) (fu s_h (0 : Int32)) 0 0 _ _ _ (fuU_0 (by decide)) hr hP hS (lv_sub hl [2, 3, 1, 0] rfl)
  refine lv_iload_n hx hb dX4_cellsWithin_91 rfl (lv_at hl 0 rfl) ?_
  subst hr
  exact ret_i hx hb hrt hlocks hP hS dX4_cellsWithin_92
theorem hd_X4_layCells : yX4_layCells.cls = RX4 ∧ yX4_layCells.cls ≠ "java/lang/invoke/MethodHandle" ∧ yX4_layCells.cls ≠ "java/lang/invoke/VarHandle" ∧ (parseMethodDescriptor yX4_layCells.desc).map (fun d => d.parameters.length) = some 0 := by decide +kernel
def F_X4_layCells_12 (y1 : Int32) (s_w : Int32) (s_h : Int32) {β : Type} (k0 : (Nat → Int32) → (Nat → Int32) → (Nat → Int64) → β) : Nat → Int32 → (Nat → Int32) → (Nat → Int32) → (Nat → Int64) → β
  | 0, x2, s_cs, s_ha, s_ro => k0 s_cs s_ha s_ro
  | n + 1, x2, s_cs, s_ha, s_ro => (if s_w ≤ x2 then k0 s_cs s_ha s_ro else (bd (f_X4_layCellSide ((y1 * s_w) + x2) 0 (f_X4_lying x2 y1 s_w) s_cs s_ha s_ro) (fun u1 => (bd (f_X4_layCellSide ((y1 * s_w) + x2) 1 (f_X4_lying x2 (y1 + 1) s_w) u1.1 u1.2.1 u1.2.2) (fun u2 => (bd (f_X4_layCellSide ((y1 * s_w) + x2) 2 (f_X4_standing x2 y1 s_w s_h) u2.1 u2.2.1 u2.2.2) (fun u3 => (bd (f_X4_layCellSide ((y1 * s_w) + x2) 3 (f_X4_standing (x2 + 1) y1 s_w s_h) u3.1 u3.2.1 u3.2.2) (fun u4 => F_X4_layCells_12 y1 s_w s_h k0 n (x2 + 1) u4.1 u4.2.1 u4.2.2)))))))))
def F_X4_layCells_2 (s_w : Int32) (s_h : Int32) {β : Type} (k0 : (Nat → Int32) → (Nat → Int32) → (Nat → Int64) → β) : Nat → Int32 → (Nat → Int32) → (Nat → Int32) → (Nat → Int64) → β
  | 0, x1, s_cs, s_ha, s_ro => k0 s_cs s_ha s_ro
  | n + 1, x1, s_cs, s_ha, s_ro => (if s_h ≤ x1 then k0 s_cs s_ha s_ro else F_X4_layCells_12 x1 s_w s_h (fun z5 z6 z7 => F_X4_layCells_2 s_w s_h k0 n (x1 + 1) z5 z6 z7) (fu s_w (0 : Int32)) 0 s_cs s_ha s_ro)
def F_X4_layCells_95 (s_s : Int32) (s_ha : Nat → Int32) {β : Type} (k0 : (Nat → Int64) → β) : Nat → Int32 → (Nat → Int64) → β
  | 0, x1, s_ro => k0 s_ro
  | n + 1, x1, s_ro => (if s_s ≤ x1 then k0 s_ro else (if (f_X4_hand x1 0 s_ha) = 16 then F_X4_layCells_95 s_s s_ha k0 n (x1 + 1) (f_X7_put_ 16 ((f_X4_roundCell 16 s_ro) ||| (f_X7_bit x1)) 17 s_ro) else (if (f_X4_hand x1 1 s_ha) = 16 then F_X4_layCells_95 s_s s_ha k0 n (x1 + 1) (f_X7_put_ 16 ((f_X4_roundCell 16 s_ro) ||| (f_X7_bit x1)) 17 s_ro) else F_X4_layCells_95 s_s s_ha k0 n (x1 + 1) s_ro)))
def f_X4_layCells (s_w : Int32) (s_h : Int32) (s_s : Int32) (s_cs : Nat → Int32) (s_ha : Nat → Int32) (s_ro : Nat → Int64) : (Nat → Int32) × (Nat → Int32) × (Nat → Int64) := F_X4_layCells_2 s_w s_h (fun z8 z9 z10 => F_X4_layCells_95 s_s z9 (fun z11 => (z8, z9, z11)) (fu s_s (0 : Int32)) 0 z10) (fu s_h (0 : Int32)) 0 s_cs s_ha s_ro
set_option maxHeartbeats 4000000 in
set_option maxRecDepth 100000 in
theorem lp_X4_layCells_12 (l : Launch) (D : va_G) (cI cL cZ : ClassId) (ad : Nat → Nat) (c_sr t_n t_r t_w s_w s_h s_c s_p s_s p_nx p_sz r_k r_r r_p l_z q_z : Int32) (t_t b_l b_b b_n r_t l_l l_b l_n q_l q_b q_n : Int64) (t_le s_ps s_en pk ik : Nat → Int32) (s_me s_be s_se s_co pl pb pn il ib im l_a q_a : Nat → Int64) {p : Program} {e : Env} {s : State} {m : MethodId} {args : Array Value} {below : List Frame} {meth : Method} {c : Code} {Q : State → Prop} (C : Cx p s m args meth c cX4_layCells 4 none W0 RX4 D cI cL cZ) (hAd : cInj ad) (y1 : Int32) {β : Type} (k0 : (Nat → Int32) → (Nat → Int32) → (Nat → Int64) → β) (r : β)
    (h0 : ∀ (s_cs s_ha : Nat → Int32) (s_ro : Nat → Int64) (H : Heap) (locs : List Loc) (ls : Array Slot), k0 s_cs s_ha s_ro = r → va_P D vwCl (cw ad cI cL cZ c_sr t_n t_r t_w s_w s_h s_c s_p s_s p_nx p_sz r_k r_r r_p l_z q_z t_t b_l b_b b_n r_t l_l l_b l_n q_l q_b q_n t_le s_cs s_ps s_ha s_en pk ik s_ro s_me s_be s_se s_co pl pb pn il ib im l_a q_a) H → va_S (cAd ad) s.heap H locs → lv_has ls 4 [(0, .ref (ad 3)), (1, .int y1)] → W p l e (rmS 2 46) s m args below meth c H locs 0 0 Q (F0 m 87 ls [])) :
    ∀ (n : Nat) (x2 : Int32) (s_cs s_ha : Nat → Int32) (s_ro : Nat → Int64) (H : Heap) (locs : List Loc) (ls : Array Slot), fuU n s_w x2 → F_X4_layCells_12 y1 s_w s_h k0 n x2 s_cs s_ha s_ro = r → va_P D vwCl (cw ad cI cL cZ c_sr t_n t_r t_w s_w s_h s_c s_p s_s p_nx p_sz r_k r_r r_p l_z q_z t_t b_l b_b b_n r_t l_l l_b l_n q_l q_b q_n t_le s_cs s_ps s_ha s_en pk ik s_ro s_me s_be s_se s_co pl pb pn il ib im l_a q_a) H → va_S (cAd ad) s.heap H locs → lv_has ls 4 [(0, .ref (ad 3)), (1, .int y1), (2, .int x2)] → W p l e (rmS 2 46) s m args below meth c H locs 0 0 Q (F0 m 12 ls []) := by
  obtain ⟨hx, hb, hml, hrt, hlocks, hown, hts, hk⟩ := C
  intro n
  induction n with
  | zero =>
    intro x2 s_cs s_ha s_ro H locs ls hf
    exact absurd hf.1 (Nat.lt_irrefl 0)
  | succ n ih =>
    intro x2 s_cs s_ha s_ro H locs ls hf hr hP hS hl
    rw [F_X4_layCells_12] at hr
    refine lv_iload_n hx hb dX4_layCells_12 rfl (lv_at hl 2 rfl) ?_
    refine lv_aload_n hx hb dX4_layCells_13 rfl (lv_at hl 0 rfl) ?_
    refine va_get (D := D) (ci := 4) (v := .int s_w) (C := RX4) (T := TX4) (N := 14) hx hb hts u_X4 hown hk.1 hP 3 rfl rfl 0 (by decide) (hts _ q1_56) (fun _ h9 => h9) rfl dX4_layCells_14 ?_
    refine lv_icmp_ge (tgt := 87) hx hb dX4_layCells_17 (by decide) (fun c17 => ?_) (fun c17 => ?_)
    · have hr := (if_pos c17).symm.trans hr
      exact h0 s_cs s_ha s_ro _ _ _ hr hP hS (lv_sub hl [0, 1] rfl)
    · have hr := (if_neg c17).symm.trans hr
      refine lv_iload_n hx hb dX4_layCells_20 rfl (lv_at hl 1 rfl) ?_
      refine lv_aload_n hx hb dX4_layCells_21 rfl (lv_at hl 0 rfl) ?_
      refine va_get (D := D) (ci := 4) (v := .int s_w) (C := RX4) (T := TX4) (N := 14) hx hb hts u_X4 hown hk.1 hP 3 rfl rfl 0 (by decide) (hts _ q1_56) (fun _ h9 => h9) rfl dX4_layCells_22 ?_
      refine lv_imul hx hb dX4_layCells_25 ?_
      refine lv_iload_n hx hb dX4_layCells_26 rfl (lv_at hl 2 rfl) ?_
      refine lv_iadd hx hb dX4_layCells_27 ?_
      refine lv_istore_n (lv' := [(3, .int ((y1 * s_w) + x2)), (0, .ref (ad 3)), (1, .int y1), (2, .int x2)]) hx hb dX4_layCells_28 rfl hl (by decide) rfl (fun ls hl => ?_)
      refine lv_aload_n hx hb dX4_layCells_29 rfl (lv_at hl 1 rfl) ?_
      refine lv_iload_n hx hb dX4_layCells_30 rfl (lv_at hl 0 rfl) ?_
      refine lv_iconst (v := 0) hx hb dX4_layCells_31 (by decide) ?_
      refine lv_aload_n hx hb dX4_layCells_32 rfl (lv_at hl 1 rfl) ?_
      refine lv_iload_n hx hb dX4_layCells_33 rfl (lv_at hl 3 rfl) ?_
      refine lv_iload_n hx hb dX4_layCells_34 rfl (lv_at hl 2 rfl) ?_
      refine go_i (ru_V (n := 2) ⟨hx, hb, hml, hown, hts⟩ hk hP (c_X4_lying l D cI cL cZ ad c_sr t_n t_r t_w s_w s_h s_c s_p s_s p_nx p_sz r_k r_r r_p l_z q_z t_t b_l b_b b_n r_t l_l l_b l_n q_l q_b q_n t_le s_cs s_ps s_ha s_en pk ik s_ro s_me s_be s_se s_co pl pb pn il ib im l_a q_a hAd x2 y1 _ rfl) (cwV 2 hts (gV q2_3 q2_5 qs1_1 q1_3 q2_6) rfl rfl rfl hd_X4_lying ⟨Nat.le_of_ble_eq_true rfl, Nat.le_of_ble_eq_true rfl⟩) (va_recv hk.1 hP (ci := 4) (q0 := 3) rfl rfl) rfl hl.1 rfl (Nat.le_of_ble_eq_true rfl) dX4_layCells_35 ⟨Nat.zero_le _, Nat.zero_le _⟩) hS (fun _ h => h) (fun H locs hP hS => ?_)
      have hP : va_P D vwCl (cw ad cI cL cZ c_sr t_n t_r t_w s_w s_h s_c s_p s_s p_nx p_sz r_k r_r r_p l_z q_z t_t b_l b_b b_n r_t l_l l_b l_n q_l q_b q_n t_le s_cs s_ps s_ha s_en pk ik s_ro s_me s_be s_se s_co pl pb pn il ib im l_a q_a) H := hP
      obtain ⟨u1, hu1⟩ : ∃ z, f_X4_layCellSide ((y1 * s_w) + x2) 0 (f_X4_lying x2 y1 s_w) s_cs s_ha s_ro = z := ⟨_, rfl⟩
      have hr := (bd_eq hu1).symm.trans hr
      refine go_v (ru_V (n := 3) ⟨hx, hb, hml, hown, hts⟩ hk hP (c_X4_layCellSide l D cI cL cZ ad c_sr t_n t_r t_w s_w s_h s_c s_p s_s p_nx p_sz r_k r_r r_p l_z q_z t_t b_l b_b b_n r_t l_l l_b l_n q_l q_b q_n t_le s_cs s_ps s_ha s_en pk ik s_ro s_me s_be s_se s_co pl pb pn il ib im l_a q_a hAd ((y1 * s_w) + x2) 0 (f_X4_lying x2 y1 s_w) _ hu1) (cwV 3 hts (gV q2_7 q2_9 qs1_2 q1_3 q2_10) rfl rfl rfl hd_X4_layCellSide ⟨Nat.le_of_ble_eq_true rfl, Nat.le_of_ble_eq_true rfl⟩) (va_recv hk.1 hP (ci := 4) (q0 := 3) rfl rfl) rfl hl.1 rfl (Nat.le_of_ble_eq_true rfl) dX4_layCells_38 ⟨Nat.zero_le _, Nat.zero_le _⟩) hS (fun _ h => h) (fun H locs hP hS => ?_)
      have hP : va_P D vwCl (cw ad cI cL cZ c_sr t_n t_r t_w s_w s_h s_c s_p s_s p_nx p_sz r_k r_r r_p l_z q_z t_t b_l b_b b_n r_t l_l l_b l_n q_l q_b q_n t_le u1.1 s_ps u1.2.1 s_en pk ik u1.2.2 s_me s_be s_se s_co pl pb pn il ib im l_a q_a) H := hP
      refine lv_aload_n hx hb dX4_layCells_41 rfl (lv_at hl 1 rfl) ?_
      refine lv_iload_n hx hb dX4_layCells_42 rfl (lv_at hl 0 rfl) ?_
      refine lv_iconst (v := 1) hx hb dX4_layCells_43 (by decide) ?_
      refine lv_aload_n hx hb dX4_layCells_44 rfl (lv_at hl 1 rfl) ?_
      refine lv_iload_n hx hb dX4_layCells_45 rfl (lv_at hl 3 rfl) ?_
      refine lv_iload_n hx hb dX4_layCells_46 rfl (lv_at hl 2 rfl) ?_
      refine lv_iconst (v := 1) hx hb dX4_layCells_47 (by decide) ?_
      refine lv_iadd hx hb dX4_layCells_48 ?_
      refine go_i (ru_V (n := 2) ⟨hx, hb, hml, hown, hts⟩ hk hP (c_X4_lying l D cI cL cZ ad c_sr t_n t_r t_w s_w s_h s_c s_p s_s p_nx p_sz r_k r_r r_p l_z q_z t_t b_l b_b b_n r_t l_l l_b l_n q_l q_b q_n t_le u1.1 s_ps u1.2.1 s_en pk ik u1.2.2 s_me s_be s_se s_co pl pb pn il ib im l_a q_a hAd x2 (y1 + 1) _ rfl) (cwV 2 hts (gV q2_3 q2_5 qs1_1 q1_3 q2_6) rfl rfl rfl hd_X4_lying ⟨Nat.le_of_ble_eq_true rfl, Nat.le_of_ble_eq_true rfl⟩) (va_recv hk.1 hP (ci := 4) (q0 := 3) rfl rfl) rfl hl.1 rfl (Nat.le_of_ble_eq_true rfl) dX4_layCells_49 ⟨Nat.zero_le _, Nat.zero_le _⟩) hS (fun _ h => h) (fun H locs hP hS => ?_)
      have hP : va_P D vwCl (cw ad cI cL cZ c_sr t_n t_r t_w s_w s_h s_c s_p s_s p_nx p_sz r_k r_r r_p l_z q_z t_t b_l b_b b_n r_t l_l l_b l_n q_l q_b q_n t_le u1.1 s_ps u1.2.1 s_en pk ik u1.2.2 s_me s_be s_se s_co pl pb pn il ib im l_a q_a) H := hP
      obtain ⟨u2, hu2⟩ : ∃ z, f_X4_layCellSide ((y1 * s_w) + x2) 1 (f_X4_lying x2 (y1 + 1) s_w) u1.1 u1.2.1 u1.2.2 = z := ⟨_, rfl⟩
      have hr := (bd_eq hu2).symm.trans hr
      refine go_v (ru_V (n := 3) ⟨hx, hb, hml, hown, hts⟩ hk hP (c_X4_layCellSide l D cI cL cZ ad c_sr t_n t_r t_w s_w s_h s_c s_p s_s p_nx p_sz r_k r_r r_p l_z q_z t_t b_l b_b b_n r_t l_l l_b l_n q_l q_b q_n t_le u1.1 s_ps u1.2.1 s_en pk ik u1.2.2 s_me s_be s_se s_co pl pb pn il ib im l_a q_a hAd ((y1 * s_w) + x2) 1 (f_X4_lying x2 (y1 + 1) s_w) _ hu2) (cwV 3 hts (gV q2_7 q2_9 qs1_2 q1_3 q2_10) rfl rfl rfl hd_X4_layCellSide ⟨Nat.le_of_ble_eq_true rfl, Nat.le_of_ble_eq_true rfl⟩) (va_recv hk.1 hP (ci := 4) (q0 := 3) rfl rfl) rfl hl.1 rfl (Nat.le_of_ble_eq_true rfl) dX4_layCells_52 ⟨Nat.zero_le _, Nat.zero_le _⟩) hS (fun _ h => h) (fun H locs hP hS => ?_)
      have hP : va_P D vwCl (cw ad cI cL cZ c_sr t_n t_r t_w s_w s_h s_c s_p s_s p_nx p_sz r_k r_r r_p l_z q_z t_t b_l b_b b_n r_t l_l l_b l_n q_l q_b q_n t_le u2.1 s_ps u2.2.1 s_en pk ik u2.2.2 s_me s_be s_se s_co pl pb pn il ib im l_a q_a) H := hP
      refine lv_aload_n hx hb dX4_layCells_55 rfl (lv_at hl 1 rfl) ?_
      refine lv_iload_n hx hb dX4_layCells_56 rfl (lv_at hl 0 rfl) ?_
      refine lv_iconst (v := 2) hx hb dX4_layCells_57 (by decide) ?_
      refine lv_aload_n hx hb dX4_layCells_58 rfl (lv_at hl 1 rfl) ?_
      refine lv_iload_n hx hb dX4_layCells_59 rfl (lv_at hl 3 rfl) ?_
      refine lv_iload_n hx hb dX4_layCells_60 rfl (lv_at hl 2 rfl) ?_
      refine go_i (ru_V (n := 2) ⟨hx, hb, hml, hown, hts⟩ hk hP (c_X4_standing l D cI cL cZ ad c_sr t_n t_r t_w s_w s_h s_c s_p s_s p_nx p_sz r_k r_r r_p l_z q_z t_t b_l b_b b_n r_t l_l l_b l_n q_l q_b q_n t_le u2.1 s_ps u2.2.1 s_en pk ik u2.2.2 s_me s_be s_se s_co pl pb pn il ib im l_a q_a hAd x2 y1 _ rfl) (cwV 2 hts (gV q2_27 q2_29 qs1_3 q1_3 q2_30) rfl rfl rfl hd_X4_standing ⟨Nat.le_of_ble_eq_true rfl, Nat.le_of_ble_eq_true rfl⟩) (va_recv hk.1 hP (ci := 4) (q0 := 3) rfl rfl) rfl hl.1 rfl (Nat.le_of_ble_eq_true rfl) dX4_layCells_61 ⟨Nat.zero_le _, Nat.zero_le _⟩) hS (fun _ h => h) (fun H locs hP hS => ?_)
      have hP : va_P D vwCl (cw ad cI cL cZ c_sr t_n t_r t_w s_w s_h s_c s_p s_s p_nx p_sz r_k r_r r_p l_z q_z t_t b_l b_b b_n r_t l_l l_b l_n q_l q_b q_n t_le u2.1 s_ps u2.2.1 s_en pk ik u2.2.2 s_me s_be s_se s_co pl pb pn il ib im l_a q_a) H := hP
      obtain ⟨u3, hu3⟩ : ∃ z, f_X4_layCellSide ((y1 * s_w) + x2) 2 (f_X4_standing x2 y1 s_w s_h) u2.1 u2.2.1 u2.2.2 = z := ⟨_, rfl⟩
      have hr := (bd_eq hu3).symm.trans hr
      refine go_v (ru_V (n := 3) ⟨hx, hb, hml, hown, hts⟩ hk hP (c_X4_layCellSide l D cI cL cZ ad c_sr t_n t_r t_w s_w s_h s_c s_p s_s p_nx p_sz r_k r_r r_p l_z q_z t_t b_l b_b b_n r_t l_l l_b l_n q_l q_b q_n t_le u2.1 s_ps u2.2.1 s_en pk ik u2.2.2 s_me s_be s_se s_co pl pb pn il ib im l_a q_a hAd ((y1 * s_w) + x2) 2 (f_X4_standing x2 y1 s_w s_h) _ hu3) (cwV 3 hts (gV q2_7 q2_9 qs1_2 q1_3 q2_10) rfl rfl rfl hd_X4_layCellSide ⟨Nat.le_of_ble_eq_true rfl, Nat.le_of_ble_eq_true rfl⟩) (va_recv hk.1 hP (ci := 4) (q0 := 3) rfl rfl) rfl hl.1 rfl (Nat.le_of_ble_eq_true rfl) dX4_layCells_64 ⟨Nat.zero_le _, Nat.zero_le _⟩) hS (fun _ h => h) (fun H locs hP hS => ?_)
      have hP : va_P D vwCl (cw ad cI cL cZ c_sr t_n t_r t_w s_w s_h s_c s_p s_s p_nx p_sz r_k r_r r_p l_z q_z t_t b_l b_b b_n r_t l_l l_b l_n q_l q_b q_n t_le u3.1 s_ps u3.2.1 s_en pk ik u3.2.2 s_me s_be s_se s_co pl pb pn il ib im l_a q_a) H := hP
      refine lv_aload_n hx hb dX4_layCells_67 rfl (lv_at hl 1 rfl) ?_
      refine lv_iload_n hx hb dX4_layCells_68 rfl (lv_at hl 0 rfl) ?_
      refine lv_iconst (v := 3) hx hb dX4_layCells_69 (by decide) ?_
      refine lv_aload_n hx hb dX4_layCells_70 rfl (lv_at hl 1 rfl) ?_
      refine lv_iload_n hx hb dX4_layCells_71 rfl (lv_at hl 3 rfl) ?_
      refine lv_iconst (v := 1) hx hb dX4_layCells_72 (by decide) ?_
      refine lv_iadd hx hb dX4_layCells_73 ?_
      refine lv_iload_n hx hb dX4_layCells_74 rfl (lv_at hl 2 rfl) ?_
      refine go_i (ru_V (n := 2) ⟨hx, hb, hml, hown, hts⟩ hk hP (c_X4_standing l D cI cL cZ ad c_sr t_n t_r t_w s_w s_h s_c s_p s_s p_nx p_sz r_k r_r r_p l_z q_z t_t b_l b_b b_n r_t l_l l_b l_n q_l q_b q_n t_le u3.1 s_ps u3.2.1 s_en pk ik u3.2.2 s_me s_be s_se s_co pl pb pn il ib im l_a q_a hAd (x2 + 1) y1 _ rfl) (cwV 2 hts (gV q2_27 q2_29 qs1_3 q1_3 q2_30) rfl rfl rfl hd_X4_standing ⟨Nat.le_of_ble_eq_true rfl, Nat.le_of_ble_eq_true rfl⟩) (va_recv hk.1 hP (ci := 4) (q0 := 3) rfl rfl) rfl hl.1 rfl (Nat.le_of_ble_eq_true rfl) dX4_layCells_75 ⟨Nat.zero_le _, Nat.zero_le _⟩) hS (fun _ h => h) (fun H locs hP hS => ?_)
      have hP : va_P D vwCl (cw ad cI cL cZ c_sr t_n t_r t_w s_w s_h s_c s_p s_s p_nx p_sz r_k r_r r_p l_z q_z t_t b_l b_b b_n r_t l_l l_b l_n q_l q_b q_n t_le u3.1 s_ps u3.2.1 s_en pk ik u3.2.2 s_me s_be s_se s_co pl pb pn il ib im l_a q_a) H := hP
      obtain ⟨u4, hu4⟩ : ∃ z, f_X4_layCellSide ((y1 * s_w) + x2) 3 (f_X4_standing (x2 + 1) y1 s_w s_h) u3.1 u3.2.1 u3.2.2 = z := ⟨_, rfl⟩
      have hr := (bd_eq hu4).symm.trans hr
      refine go_v (ru_V (n := 3) ⟨hx, hb, hml, hown, hts⟩ hk hP (c_X4_layCellSide l D cI cL cZ ad c_sr t_n t_r t_w s_w s_h s_c s_p s_s p_nx p_sz r_k r_r r_p l_z q_z t_t b_l b_b b_n r_t l_l l_b l_n q_l q_b q_n t_le u3.1 s_ps u3.2.1 s_en pk ik u3.2.2 s_me s_be s_se s_co pl pb pn il ib im l_a q_a hAd ((y1 * s_w) + x2) 3 (f_X4_standing (x2 + 1) y1 s_w s_h) _ hu4) (cwV 3 hts (gV q2_7 q2_9 qs1_2 q1_3 q2_10) rfl rfl rfl hd_X4_layCellSide ⟨Nat.le_of_ble_eq_true rfl, Nat.le_of_ble_eq_true rfl⟩) (va_recv hk.1 hP (ci := 4) (q0 := 3) rfl rfl) rfl hl.1 rfl (Nat.le_of_ble_eq_true rfl) dX4_layCells_78 ⟨Nat.zero_le _, Nat.zero_le _⟩) hS (fun _ h => h) (fun H locs hP hS => ?_)
      have hP : va_P D vwCl (cw ad cI cL cZ c_sr t_n t_r t_w s_w s_h s_c s_p s_s p_nx p_sz r_k r_r r_p l_z q_z t_t b_l b_b b_n r_t l_l l_b l_n q_l q_b q_n t_le u4.1 s_ps u4.2.1 s_en pk ik u4.2.2 s_me s_be s_se s_co pl pb pn il ib im l_a q_a) H := hP
      refine lv_iinc (v := x2 + 1) (lv' := [(2, .int (x2 + 1)), (3, .int ((y1 * s_w) + x2)), (0, .ref (ad 3)), (1, .int y1)]) hx hb dX4_layCells_81 hl (k := 3) rfl rfl (by decide) rfl (fun ls hl => ?_)
      refine lv_goto (tgt := 12) hx hb dX4_layCells_84 (by decide) ?_
      exact ih (x2 + 1) u4.1 u4.2.1 u4.2.2 _ _ _ (fuU_s hf c17) hr hP hS (lv_sub hl [2, 3, 0] rfl)
set_option maxHeartbeats 4000000 in
set_option maxRecDepth 100000 in
theorem lp_X4_layCells_2 (l : Launch) (D : va_G) (cI cL cZ : ClassId) (ad : Nat → Nat) (c_sr t_n t_r t_w s_w s_h s_c s_p s_s p_nx p_sz r_k r_r r_p l_z q_z : Int32) (t_t b_l b_b b_n r_t l_l l_b l_n q_l q_b q_n : Int64) (t_le s_ps s_en pk ik : Nat → Int32) (s_me s_be s_se s_co pl pb pn il ib im l_a q_a : Nat → Int64) {p : Program} {e : Env} {s : State} {m : MethodId} {args : Array Value} {below : List Frame} {meth : Method} {c : Code} {Q : State → Prop} (C : Cx p s m args meth c cX4_layCells 4 none W0 RX4 D cI cL cZ) (hAd : cInj ad) {β : Type} (k0 : (Nat → Int32) → (Nat → Int32) → (Nat → Int64) → β) (r : β)
    (h0 : ∀ (s_cs s_ha : Nat → Int32) (s_ro : Nat → Int64) (H : Heap) (locs : List Loc) (ls : Array Slot), k0 s_cs s_ha s_ro = r → va_P D vwCl (cw ad cI cL cZ c_sr t_n t_r t_w s_w s_h s_c s_p s_s p_nx p_sz r_k r_r r_p l_z q_z t_t b_l b_b b_n r_t l_l l_b l_n q_l q_b q_n t_le s_cs s_ps s_ha s_en pk ik s_ro s_me s_be s_se s_co pl pb pn il ib im l_a q_a) H → va_S (cAd ad) s.heap H locs → lv_has ls 4 [(0, .ref (ad 3))] → W p l e (rmS 2 46) s m args below meth c H locs 0 0 Q (F0 m 93 ls [])) :
    ∀ (n : Nat) (x1 : Int32) (s_cs s_ha : Nat → Int32) (s_ro : Nat → Int64) (H : Heap) (locs : List Loc) (ls : Array Slot), fuU n s_h x1 → F_X4_layCells_2 s_w s_h k0 n x1 s_cs s_ha s_ro = r → va_P D vwCl (cw ad cI cL cZ c_sr t_n t_r t_w s_w s_h s_c s_p s_s p_nx p_sz r_k r_r r_p l_z q_z t_t b_l b_b b_n r_t l_l l_b l_n q_l q_b q_n t_le s_cs s_ps s_ha s_en pk ik s_ro s_me s_be s_se s_co pl pb pn il ib im l_a q_a) H → va_S (cAd ad) s.heap H locs → lv_has ls 4 [(0, .ref (ad 3)), (1, .int x1)] → W p l e (rmS 2 46) s m args below meth c H locs 0 0 Q (F0 m 2 ls []) := by
  obtain ⟨hx, hb, hml, hrt, hlocks, hown, hts, hk⟩ := C
  intro n
  induction n with
  | zero =>
    intro x1 s_cs s_ha s_ro H locs ls hf
    exact absurd hf.1 (Nat.lt_irrefl 0)
  | succ n ih =>
    intro x1 s_cs s_ha s_ro H locs ls hf hr hP hS hl
    rw [F_X4_layCells_2] at hr
    refine lv_iload_n hx hb dX4_layCells_2 rfl (lv_at hl 1 rfl) ?_
    refine lv_aload_n hx hb dX4_layCells_3 rfl (lv_at hl 0 rfl) ?_
    refine va_get (D := D) (ci := 4) (v := .int s_h) (C := RX4) (T := TX4) (N := 14) hx hb hts u_X4 hown hk.1 hP 3 rfl rfl 1 (by decide) (hts _ q1_58) (fun _ h9 => h9) rfl dX4_layCells_4 ?_
    refine lv_icmp_ge (tgt := 93) hx hb dX4_layCells_7 (by decide) (fun c7 => ?_) (fun c7 => ?_)
    · have hr := (if_pos c7).symm.trans hr
      exact h0 s_cs s_ha s_ro _ _ _ hr hP hS (lv_sub hl [0] rfl)
    · have hr := (if_neg c7).symm.trans hr
      refine lv_iconst (v := 0) hx hb dX4_layCells_10 (by decide) ?_
      refine lv_istore_n (lv' := [(2, .int 0), (0, .ref (ad 3)), (1, .int x1)]) hx hb dX4_layCells_11 rfl hl (by decide) rfl (fun ls hl => ?_)
      refine lp_X4_layCells_12 l D cI cL cZ ad c_sr t_n t_r t_w s_w s_h s_c s_p s_s p_nx p_sz r_k r_r r_p l_z q_z t_t b_l b_b b_n r_t l_l l_b l_n q_l q_b q_n t_le s_ps s_en pk ik s_me s_be s_se s_co pl pb pn il ib im l_a q_a ⟨hx, hb, hml, hrt, hlocks, hown, hts, hk⟩ hAd x1 _ _ (fun z5 z6 z7 H locs ls hr hP hS hl => ?_) (fu s_w (0 : Int32)) 0 s_cs s_ha s_ro _ _ _ (fuU_0 (by decide)) hr hP hS (lv_sub hl [1, 2, 0] rfl)
      refine lv_iinc (v := x1 + 1) (lv' := [(1, .int (x1 + 1)), (0, .ref (ad 3))]) hx hb dX4_layCells_87 hl (k := 1) rfl rfl (by decide) rfl (fun ls hl => ?_)
      refine lv_goto (tgt := 2) hx hb dX4_layCells_90 (by decide) ?_
      exact ih (x1 + 1) z5 z6 z7 _ _ _ (fuU_s hf c7) hr hP hS (lv_sub hl [1, 0] rfl)
set_option maxHeartbeats 4000000 in
set_option maxRecDepth 100000 in
theorem lp_X4_layCells_95 (l : Launch) (D : va_G) (cI cL cZ : ClassId) (ad : Nat → Nat) (c_sr t_n t_r t_w s_w s_h s_c s_p s_s p_nx p_sz r_k r_r r_p l_z q_z : Int32) (t_t b_l b_b b_n r_t l_l l_b l_n q_l q_b q_n : Int64) (t_le s_cs s_ps s_ha s_en pk ik : Nat → Int32) (s_me s_be s_se s_co pl pb pn il ib im l_a q_a : Nat → Int64) {p : Program} {e : Env} {s : State} {m : MethodId} {args : Array Value} {below : List Frame} {meth : Method} {c : Code} {Q : State → Prop} (C : Cx p s m args meth c cX4_layCells 4 none W0 RX4 D cI cL cZ) (hAd : cInj ad) {β : Type} (k0 : (Nat → Int64) → β) (r : β)
    (h0 : ∀ (s_ro : Nat → Int64) (H : Heap) (locs : List Loc) (ls : Array Slot), k0 s_ro = r → va_P D vwCl (cw ad cI cL cZ c_sr t_n t_r t_w s_w s_h s_c s_p s_s p_nx p_sz r_k r_r r_p l_z q_z t_t b_l b_b b_n r_t l_l l_b l_n q_l q_b q_n t_le s_cs s_ps s_ha s_en pk ik s_ro s_me s_be s_se s_co pl pb pn il ib im l_a q_a) H → va_S (cAd ad) s.heap H locs → lv_has ls 4 [] → W p l e (rmS 2 46) s m args below meth c H locs 0 0 Q (F0 m 151 ls [])) :
    ∀ (n : Nat) (x1 : Int32) (s_ro : Nat → Int64) (H : Heap) (locs : List Loc) (ls : Array Slot), fuU n s_s x1 → F_X4_layCells_95 s_s s_ha k0 n x1 s_ro = r → va_P D vwCl (cw ad cI cL cZ c_sr t_n t_r t_w s_w s_h s_c s_p s_s p_nx p_sz r_k r_r r_p l_z q_z t_t b_l b_b b_n r_t l_l l_b l_n q_l q_b q_n t_le s_cs s_ps s_ha s_en pk ik s_ro s_me s_be s_se s_co pl pb pn il ib im l_a q_a) H → va_S (cAd ad) s.heap H locs → lv_has ls 4 [(0, .ref (ad 3)), (1, .int x1)] → W p l e (rmS 2 46) s m args below meth c H locs 0 0 Q (F0 m 95 ls []) := by
  obtain ⟨hx, hb, hml, hrt, hlocks, hown, hts, hk⟩ := C
  intro n
  induction n with
  | zero =>
    intro x1 s_ro H locs ls hf
    exact absurd hf.1 (Nat.lt_irrefl 0)
  | succ n ih =>
    intro x1 s_ro H locs ls hf hr hP hS hl
    rw [F_X4_layCells_95] at hr
    refine lv_iload_n hx hb dX4_layCells_95 rfl (lv_at hl 1 rfl) ?_
    refine lv_aload_n hx hb dX4_layCells_96 rfl (lv_at hl 0 rfl) ?_
    refine va_get (D := D) (ci := 4) (v := .int s_s) (C := RX4) (T := TX4) (N := 14) hx hb hts u_X4 hown hk.1 hP 3 rfl rfl 4 (by decide) (hts _ q1_66) (fun _ h9 => h9) rfl dX4_layCells_97 ?_
    refine lv_icmp_ge (tgt := 151) hx hb dX4_layCells_100 (by decide) (fun c100 => ?_) (fun c100 => ?_)
    · have hr := (if_pos c100).symm.trans hr
      exact h0 s_ro _ _ _ hr hP hS (lv_sub hl [] rfl)
    · have hr := (if_neg c100).symm.trans hr
      refine lv_aload_n hx hb dX4_layCells_103 rfl (lv_at hl 0 rfl) ?_
      refine lv_iload_n hx hb dX4_layCells_104 rfl (lv_at hl 1 rfl) ?_
      refine lv_iconst (v := 0) hx hb dX4_layCells_105 (by decide) ?_
      refine go_i (ru_V (n := 2) ⟨hx, hb, hml, hown, hts⟩ hk hP (c_X4_hand l D cI cL cZ ad c_sr t_n t_r t_w s_w s_h s_c s_p s_s p_nx p_sz r_k r_r r_p l_z q_z t_t b_l b_b b_n r_t l_l l_b l_n q_l q_b q_n t_le s_cs s_ps s_ha s_en pk ik s_ro s_me s_be s_se s_co pl pb pn il ib im l_a q_a hAd x1 0 _ rfl) (cwV 2 hts (gV q2_31 q2_32 q2_33 q1_3 q2_34) rfl rfl rfl hd_X4_hand ⟨Nat.le_of_ble_eq_true rfl, Nat.le_of_ble_eq_true rfl⟩) (va_recv hk.1 hP (ci := 4) (q0 := 3) rfl rfl) rfl hl.1 rfl (Nat.le_of_ble_eq_true rfl) dX4_layCells_106 ⟨Nat.zero_le _, Nat.zero_le _⟩) hS (fun _ h => h) (fun H locs hP hS => ?_)
      have hP : va_P D vwCl (cw ad cI cL cZ c_sr t_n t_r t_w s_w s_h s_c s_p s_s p_nx p_sz r_k r_r r_p l_z q_z t_t b_l b_b b_n r_t l_l l_b l_n q_l q_b q_n t_le s_cs s_ps s_ha s_en pk ik s_ro s_me s_be s_se s_co pl pb pn il ib im l_a q_a) H := hP
      refine lv_bipush (v := 16) hx hb dX4_layCells_109 (by decide) ?_
      refine lv_icmp_eq (tgt := 125) hx hb dX4_layCells_111 (by decide) (fun c111 => ?_) (fun c111 => ?_)
      · have hr := (if_pos c111).symm.trans hr
        refine lv_aload_n hx hb dX4_layCells_125 rfl (lv_at hl 0 rfl) ?_
        refine va_get (D := D) (ci := 4) (v := .ref (ad 8)) (C := RX4) (T := TX4) (N := 14) hx hb hts u_X4 hown hk.1 hP 3 rfl rfl 9 (by decide) (hts _ q1_73) (fun _ h9 => h9) rfl dX4_layCells_126 ?_
        refine lv_bipush (v := 16) hx hb dX4_layCells_129 (by decide) ?_
        refine lv_aload_n hx hb dX4_layCells_131 rfl (lv_at hl 0 rfl) ?_
        refine lv_bipush (v := 16) hx hb dX4_layCells_132 (by decide) ?_
        refine go_l (ru_V (n := 1) ⟨hx, hb, hml, hown, hts⟩ hk hP (c_X4_roundCell l D cI cL cZ ad c_sr t_n t_r t_w s_w s_h s_c s_p s_s p_nx p_sz r_k r_r r_p l_z q_z t_t b_l b_b b_n r_t l_l l_b l_n q_l q_b q_n t_le s_cs s_ps s_ha s_en pk ik s_ro s_me s_be s_se s_co pl pb pn il ib im l_a q_a hAd 16 _ rfl) (cwV 1 hts (gV q2_14 q2_15 q2_16 q1_3 q2_17) rfl rfl rfl hd_X4_roundCell ⟨Nat.le_of_ble_eq_true rfl, Nat.le_of_ble_eq_true rfl⟩) (va_recv hk.1 hP (ci := 4) (q0 := 3) rfl rfl) rfl hl.1 rfl (Nat.le_of_ble_eq_true rfl) dX4_layCells_134 ⟨Nat.zero_le _, Nat.zero_le _⟩) hS (fun _ h => h) (fun H locs hP hS => ?_)
        have hP : va_P D vwCl (cw ad cI cL cZ c_sr t_n t_r t_w s_w s_h s_c s_p s_s p_nx p_sz r_k r_r r_p l_z q_z t_t b_l b_b b_n r_t l_l l_b l_n q_l q_b q_n t_le s_cs s_ps s_ha s_en pk ik s_ro s_me s_be s_se s_co pl pb pn il ib im l_a q_a) H := hP
        refine lv_iload_n hx hb dX4_layCells_137 rfl (lv_at hl 1 rfl) ?_
        refine go_l (ru_N (n := 1) ⟨hx, hb, hml, hown, hts⟩ hk hP (c_X7_bit l D cI cL cZ (cAd ad) (cw ad cI cL cZ c_sr t_n t_r t_w s_w s_h s_c s_p s_s p_nx p_sz r_k r_r r_p l_z q_z t_t b_l b_b b_n r_t l_l l_b l_n q_l q_b q_n t_le s_cs s_ps s_ha s_en pk ik s_ro s_me s_be s_se s_co pl pb pn il ib im l_a q_a) x1 _ rfl) ⟨va_cnB 1 hts (gN q2_20) rfl rfl rfl (hk.2 _ nwm_X4_98) (hts _ q1_1) hd_X7_bit ⟨Nat.le_of_ble_eq_true rfl, Nat.le_of_ble_eq_true rfl⟩, hts _ q2_19, trivial⟩ rfl hl.1 rfl (Nat.le_of_ble_eq_true rfl) dX4_layCells_138 ⟨Nat.zero_le _, Nat.zero_le _⟩) hS (fun _ h => h) (fun H locs hP hS => ?_)
        have hP : va_P D vwCl (cw ad cI cL cZ c_sr t_n t_r t_w s_w s_h s_c s_p s_s p_nx p_sz r_k r_r r_p l_z q_z t_t b_l b_b b_n r_t l_l l_b l_n q_l q_b q_n t_le s_cs s_ps s_ha s_en pk ik s_ro s_me s_be s_se s_co pl pb pn il ib im l_a q_a) H := hP
        refine lv_lor hx hb dX4_layCells_141 ?_
        refine go_v (ru_N (n := 3) ⟨hx, hb, hml, hown, hts⟩ hk hP (c_X7_put_ l D cI cL cZ (cAd ad) (cw ad cI cL cZ c_sr t_n t_r t_w s_w s_h s_c s_p s_s p_nx p_sz r_k r_r r_p l_z q_z t_t b_l b_b b_n r_t l_l l_b l_n q_l q_b q_n t_le s_cs s_ps s_ha s_en pk ik s_ro s_me s_be s_se s_co pl pb pn il ib im l_a q_a) 8 (ad 8) 17 _ rfl (cw_D hAd) s_ro 16 ((f_X4_roundCell 16 s_ro) ||| (f_X7_bit x1)) _ rfl (by decide)) ⟨va_cnB 3 hts (gN q2_23) rfl rfl rfl (hk.2 _ nwm_X4_101) (hts _ q1_1) hd_X7_put_ ⟨Nat.le_of_ble_eq_true rfl, Nat.le_of_ble_eq_true rfl⟩, hts _ q2_22, trivial⟩ rfl hl.1 rfl (Nat.le_of_ble_eq_true rfl) dX4_layCells_142 ⟨Nat.zero_le _, Nat.zero_le _⟩) hS (fun _ h => h) (fun H locs hP hS => ?_)
        have hP : va_P D vwCl (cw ad cI cL cZ c_sr t_n t_r t_w s_w s_h s_c s_p s_s p_nx p_sz r_k r_r r_p l_z q_z t_t b_l b_b b_n r_t l_l l_b l_n q_l q_b q_n t_le s_cs s_ps s_ha s_en pk ik (f_X7_put_ 16 ((f_X4_roundCell 16 s_ro) ||| (f_X7_bit x1)) 17 s_ro) s_me s_be s_se s_co pl pb pn il ib im l_a q_a) H := hP
        refine lv_iinc (v := x1 + 1) (lv' := [(1, .int (x1 + 1)), (0, .ref (ad 3))]) hx hb dX4_layCells_145 hl (k := 1) rfl rfl (by decide) rfl (fun ls hl => ?_)
        refine lv_goto (tgt := 95) hx hb dX4_layCells_148 (by decide) ?_
        exact ih (x1 + 1) (f_X7_put_ 16 ((f_X4_roundCell 16 s_ro) ||| (f_X7_bit x1)) 17 s_ro) _ _ _ (fuU_s hf c100) hr hP hS (lv_sub hl [1, 0] rfl)
      · have hr := (if_neg c111).symm.trans hr
        refine lv_aload_n hx hb dX4_layCells_114 rfl (lv_at hl 0 rfl) ?_
        refine lv_iload_n hx hb dX4_layCells_115 rfl (lv_at hl 1 rfl) ?_
        refine lv_iconst (v := 1) hx hb dX4_layCells_116 (by decide) ?_
        refine go_i (ru_V (n := 2) ⟨hx, hb, hml, hown, hts⟩ hk hP (c_X4_hand l D cI cL cZ ad c_sr t_n t_r t_w s_w s_h s_c s_p s_s p_nx p_sz r_k r_r r_p l_z q_z t_t b_l b_b b_n r_t l_l l_b l_n q_l q_b q_n t_le s_cs s_ps s_ha s_en pk ik s_ro s_me s_be s_se s_co pl pb pn il ib im l_a q_a hAd x1 1 _ rfl) (cwV 2 hts (gV q2_31 q2_32 q2_33 q1_3 q2_34) rfl rfl rfl hd_X4_hand ⟨Nat.le_of_ble_eq_true rfl, Nat.le_of_ble_eq_true rfl⟩) (va_recv hk.1 hP (ci := 4) (q0 := 3) rfl rfl) rfl hl.1 rfl (Nat.le_of_ble_eq_true rfl) dX4_layCells_117 ⟨Nat.zero_le _, Nat.zero_le _⟩) hS (fun _ h => h) (fun H locs hP hS => ?_)
        have hP : va_P D vwCl (cw ad cI cL cZ c_sr t_n t_r t_w s_w s_h s_c s_p s_s p_nx p_sz r_k r_r r_p l_z q_z t_t b_l b_b b_n r_t l_l l_b l_n q_l q_b q_n t_le s_cs s_ps s_ha s_en pk ik s_ro s_me s_be s_se s_co pl pb pn il ib im l_a q_a) H := hP
        refine lv_bipush (v := 16) hx hb dX4_layCells_120 (by decide) ?_
        refine lv_icmp_ne (tgt := 145) hx hb dX4_layCells_122 (by decide) (fun c122 => ?_) (fun c122 => ?_)
        · have hr := (if_neg c122).symm.trans hr
          refine lv_iinc (v := x1 + 1) (lv' := [(1, .int (x1 + 1)), (0, .ref (ad 3))]) hx hb dX4_layCells_145 hl (k := 1) rfl rfl (by decide) rfl (fun ls hl => ?_)
          refine lv_goto (tgt := 95) hx hb dX4_layCells_148 (by decide) ?_
          exact ih (x1 + 1) s_ro _ _ _ (fuU_s hf c100) hr hP hS (lv_sub hl [1, 0] rfl)
        · have hr := (if_pos c122).symm.trans hr
          refine lv_aload_n hx hb dX4_layCells_125 rfl (lv_at hl 0 rfl) ?_
          refine va_get (D := D) (ci := 4) (v := .ref (ad 8)) (C := RX4) (T := TX4) (N := 14) hx hb hts u_X4 hown hk.1 hP 3 rfl rfl 9 (by decide) (hts _ q1_73) (fun _ h9 => h9) rfl dX4_layCells_126 ?_
          refine lv_bipush (v := 16) hx hb dX4_layCells_129 (by decide) ?_
          refine lv_aload_n hx hb dX4_layCells_131 rfl (lv_at hl 0 rfl) ?_
          refine lv_bipush (v := 16) hx hb dX4_layCells_132 (by decide) ?_
          refine go_l (ru_V (n := 1) ⟨hx, hb, hml, hown, hts⟩ hk hP (c_X4_roundCell l D cI cL cZ ad c_sr t_n t_r t_w s_w s_h s_c s_p s_s p_nx p_sz r_k r_r r_p l_z q_z t_t b_l b_b b_n r_t l_l l_b l_n q_l q_b q_n t_le s_cs s_ps s_ha s_en pk ik s_ro s_me s_be s_se s_co pl pb pn il ib im l_a q_a hAd 16 _ rfl) (cwV 1 hts (gV q2_14 q2_15 q2_16 q1_3 q2_17) rfl rfl rfl hd_X4_roundCell ⟨Nat.le_of_ble_eq_true rfl, Nat.le_of_ble_eq_true rfl⟩) (va_recv hk.1 hP (ci := 4) (q0 := 3) rfl rfl) rfl hl.1 rfl (Nat.le_of_ble_eq_true rfl) dX4_layCells_134 ⟨Nat.zero_le _, Nat.zero_le _⟩) hS (fun _ h => h) (fun H locs hP hS => ?_)
          have hP : va_P D vwCl (cw ad cI cL cZ c_sr t_n t_r t_w s_w s_h s_c s_p s_s p_nx p_sz r_k r_r r_p l_z q_z t_t b_l b_b b_n r_t l_l l_b l_n q_l q_b q_n t_le s_cs s_ps s_ha s_en pk ik s_ro s_me s_be s_se s_co pl pb pn il ib im l_a q_a) H := hP
          refine lv_iload_n hx hb dX4_layCells_137 rfl (lv_at hl 1 rfl) ?_
          refine go_l (ru_N (n := 1) ⟨hx, hb, hml, hown, hts⟩ hk hP (c_X7_bit l D cI cL cZ (cAd ad) (cw ad cI cL cZ c_sr t_n t_r t_w s_w s_h s_c s_p s_s p_nx p_sz r_k r_r r_p l_z q_z t_t b_l b_b b_n r_t l_l l_b l_n q_l q_b q_n t_le s_cs s_ps s_ha s_en pk ik s_ro s_me s_be s_se s_co pl pb pn il ib im l_a q_a) x1 _ rfl) ⟨va_cnB 1 hts (gN q2_20) rfl rfl rfl (hk.2 _ nwm_X4_98) (hts _ q1_1) hd_X7_bit ⟨Nat.le_of_ble_eq_true rfl, Nat.le_of_ble_eq_true rfl⟩, hts _ q2_19, trivial⟩ rfl hl.1 rfl (Nat.le_of_ble_eq_true rfl) dX4_layCells_138 ⟨Nat.zero_le _, Nat.zero_le _⟩) hS (fun _ h => h) (fun H locs hP hS => ?_)
          have hP : va_P D vwCl (cw ad cI cL cZ c_sr t_n t_r t_w s_w s_h s_c s_p s_s p_nx p_sz r_k r_r r_p l_z q_z t_t b_l b_b b_n r_t l_l l_b l_n q_l q_b q_n t_le s_cs s_ps s_ha s_en pk ik s_ro s_me s_be s_se s_co pl pb pn il ib im l_a q_a) H := hP
          refine lv_lor hx hb dX4_layCells_141 ?_
          refine go_v (ru_N (n := 3) ⟨hx, hb, hml, hown, hts⟩ hk hP (c_X7_put_ l D cI cL cZ (cAd ad) (cw ad cI cL cZ c_sr t_n t_r t_w s_w s_h s_c s_p s_s p_nx p_sz r_k r_r r_p l_z q_z t_t b_l b_b b_n r_t l_l l_b l_n q_l q_b q_n t_le s_cs s_ps s_ha s_en pk ik s_ro s_me s_be s_se s_co pl pb pn il ib im l_a q_a) 8 (ad 8) 17 _ rfl (cw_D hAd) s_ro 16 ((f_X4_roundCell 16 s_ro) ||| (f_X7_bit x1)) _ rfl (by decide)) ⟨va_cnB 3 hts (gN q2_23) rfl rfl rfl (hk.2 _ nwm_X4_101) (hts _ q1_1) hd_X7_put_ ⟨Nat.le_of_ble_eq_true rfl, Nat.le_of_ble_eq_true rfl⟩, hts _ q2_22, trivial⟩ rfl hl.1 rfl (Nat.le_of_ble_eq_true rfl) dX4_layCells_142 ⟨Nat.zero_le _, Nat.zero_le _⟩) hS (fun _ h => h) (fun H locs hP hS => ?_)
          have hP : va_P D vwCl (cw ad cI cL cZ c_sr t_n t_r t_w s_w s_h s_c s_p s_s p_nx p_sz r_k r_r r_p l_z q_z t_t b_l b_b b_n r_t l_l l_b l_n q_l q_b q_n t_le s_cs s_ps s_ha s_en pk ik (f_X7_put_ 16 ((f_X4_roundCell 16 s_ro) ||| (f_X7_bit x1)) 17 s_ro) s_me s_be s_se s_co pl pb pn il ib im l_a q_a) H := hP
          refine lv_iinc (v := x1 + 1) (lv' := [(1, .int (x1 + 1)), (0, .ref (ad 3))]) hx hb dX4_layCells_145 hl (k := 1) rfl rfl (by decide) rfl (fun ls hl => ?_)
          refine lv_goto (tgt := 95) hx hb dX4_layCells_148 (by decide) ?_
          exact ih (x1 + 1) (f_X7_put_ 16 ((f_X4_roundCell 16 s_ro) ||| (f_X7_bit x1)) 17 s_ro) _ _ _ (fuU_s hf c100) hr hP hS (lv_sub hl [1, 0] rfl)
set_option maxHeartbeats 4000000 in
set_option maxRecDepth 100000 in
theorem c_X4_layCells (l : Launch) (D : va_G) (cI cL cZ : ClassId) (ad : Nat → Nat) (c_sr t_n t_r t_w s_w s_h s_c s_p s_s p_nx p_sz r_k r_r r_p l_z q_z : Int32) (t_t b_l b_b b_n r_t l_l l_b l_n q_l q_b q_n : Int64) (t_le s_cs s_ps s_ha s_en pk ik : Nat → Int32) (s_ro s_me s_be s_se s_co pl pb pn il ib im l_a q_a : Nat → Int64) (hAd : cInj ad) (r : (Nat → Int32) × (Nat → Int32) × (Nat → Int64)) (hr : f_X4_layCells s_w s_h s_s s_cs s_ha s_ro = r) : MV l yX4_layCells (Cond.code yX4_layCells cX4_layCells 4 none :: W0) 2 46 D cI cL cZ (cAd ad) [.ref (ad 3)] (cw ad cI cL cZ c_sr t_n t_r t_w s_w s_h s_c s_p s_s p_nx p_sz r_k r_r r_p l_z q_z t_t b_l b_b b_n r_t l_l l_b l_n q_l q_b q_n t_le s_cs s_ps s_ha s_en pk ik s_ro s_me s_be s_se s_co pl pb pn il ib im l_a q_a) (cw ad cI cL cZ c_sr t_n t_r t_w s_w s_h s_c s_p s_s p_nx p_sz r_k r_r r_p l_z q_z t_t b_l b_b b_n r_t l_l l_b l_n q_l q_b q_n t_le r.1 s_ps r.2.1 s_en pk ik r.2.2 s_me s_be s_se s_co pl pb pn il ib im l_a q_a) := by
  refine mk_start (cc := cX4_layCells) (maxL := 4) (ret := none) (by decide) rfl (Nat.le_of_ble_eq_true rfl) ?_
  intro p e s m below meth c ls C hP hS hl
  obtain ⟨hx, hb, hml, hrt, hlocks, hown, hts, hk⟩ := C
  have hown : s.vm.findClass RX4 = some m.cls := hown
  have hl : lv_has ls 4 [(0, .ref (ad 3))] := hl
  rw [f_X4_layCells] at hr
  refine lv_iconst (v := 0) hx hb dX4_layCells_0 (by decide) ?_
  refine lv_istore_n (lv' := [(1, .int 0), (0, .ref (ad 3))]) hx hb dX4_layCells_1 rfl hl (by decide) rfl (fun ls hl => ?_)
  refine lp_X4_layCells_2 l D cI cL cZ ad c_sr t_n t_r t_w s_w s_h s_c s_p s_s p_nx p_sz r_k r_r r_p l_z q_z t_t b_l b_b b_n r_t l_l l_b l_n q_l q_b q_n t_le s_ps s_en pk ik s_me s_be s_se s_co pl pb pn il ib im l_a q_a ⟨hx, hb, hml, hrt, hlocks, hown, hts, hk⟩ hAd _ _ (fun z8 z9 z10 H locs ls hr hP hS hl => ?_) (fu s_h (0 : Int32)) 0 s_cs s_ha s_ro _ _ _ (fuU_0 (by decide)) hr hP hS (lv_sub hl [1, 0] rfl)
  refine lv_iconst (v := 0) hx hb dX4_layCells_93 (by decide) ?_
  refine lv_istore_n (lv' := [(1, .int 0), (0, .ref (ad 3))]) hx hb dX4_layCells_94 rfl hl (by decide) rfl (fun ls hl => ?_)
  refine lp_X4_layCells_95 l D cI cL cZ ad c_sr t_n t_r t_w s_w s_h s_c s_p s_s p_nx p_sz r_k r_r r_p l_z q_z t_t b_l b_b b_n r_t l_l l_b l_n q_l q_b q_n t_le z8 s_ps z9 s_en pk ik s_me s_be s_se s_co pl pb pn il ib im l_a q_a ⟨hx, hb, hml, hrt, hlocks, hown, hts, hk⟩ hAd _ _ (fun z11 H locs ls hr hP hS hl => ?_) (fu s_s (0 : Int32)) 0 z10 _ _ _ (fuU_0 (by decide)) hr hP hS (lv_sub hl [1, 0] rfl)
  subst hr
  exact ret_v hx hb hrt hlocks hP hS dX4_layCells_151
theorem hd_X4_layPoints : yX4_layPoints.cls = RX4 ∧ yX4_layPoints.cls ≠ "java/lang/invoke/MethodHandle" ∧ yX4_layPoints.cls ≠ "java/lang/invoke/VarHandle" ∧ (parseMethodDescriptor yX4_layPoints.desc).map (fun d => d.parameters.length) = some 0 := by decide +kernel
def F_X4_layPoints_12 (y1 : Int32) (s_w : Int32) (s_h : Int32) {β : Type} (k0 : (Nat → Int32) → (Nat → Int32) → (Nat → Int64) → β) : Nat → Int32 → (Nat → Int32) → (Nat → Int32) → (Nat → Int64) → β
  | 0, x2, s_ps, s_en, s_me => k0 s_ps s_en s_me
  | n + 1, x2, s_ps, s_en, s_me => (if s_w < x2 then k0 s_ps s_en s_me else (if x2 ≤ 0 then (bd (f_X4_layPointSide ((y1 * (s_w + 1)) + x2) 0 ((-9)) s_ps s_en s_me) (fun u1 => (if s_w ≤ x2 then (bd (f_X4_layPointSide ((y1 * (s_w + 1)) + x2) 1 ((-9)) u1.1 u1.2.1 u1.2.2) (fun u2 => (if y1 ≤ 0 then (bd (f_X4_layPointSide ((y1 * (s_w + 1)) + x2) 2 ((-9)) u2.1 u2.2.1 u2.2.2) (fun u3 => (if s_h ≤ y1 then (bd (f_X4_layPointSide ((y1 * (s_w + 1)) + x2) 3 ((-9)) u3.1 u3.2.1 u3.2.2) (fun u4 => F_X4_layPoints_12 y1 s_w s_h k0 n (x2 + 1) u4.1 u4.2.1 u4.2.2)) else (bd (f_X4_layPointSide ((y1 * (s_w + 1)) + x2) 3 (f_X4_standing x2 y1 s_w s_h) u3.1 u3.2.1 u3.2.2) (fun u5 => F_X4_layPoints_12 y1 s_w s_h k0 n (x2 + 1) u5.1 u5.2.1 u5.2.2))))) else (bd (f_X4_layPointSide ((y1 * (s_w + 1)) + x2) 2 (f_X4_standing x2 (y1 - 1) s_w s_h) u2.1 u2.2.1 u2.2.2) (fun u6 => (if s_h ≤ y1 then (bd (f_X4_layPointSide ((y1 * (s_w + 1)) + x2) 3 ((-9)) u6.1 u6.2.1 u6.2.2) (fun u7 => F_X4_layPoints_12 y1 s_w s_h k0 n (x2 + 1) u7.1 u7.2.1 u7.2.2)) else (bd (f_X4_layPointSide ((y1 * (s_w + 1)) + x2) 3 (f_X4_standing x2 y1 s_w s_h) u6.1 u6.2.1 u6.2.2) (fun u8 => F_X4_layPoints_12 y1 s_w s_h k0 n (x2 + 1) u8.1 u8.2.1 u8.2.2)))))))) else (bd (f_X4_layPointSide ((y1 * (s_w + 1)) + x2) 1 (f_X4_lying x2 y1 s_w) u1.1 u1.2.1 u1.2.2) (fun u9 => (if y1 ≤ 0 then (bd (f_X4_layPointSide ((y1 * (s_w + 1)) + x2) 2 ((-9)) u9.1 u9.2.1 u9.2.2) (fun u10 => (if s_h ≤ y1 then (bd (f_X4_layPointSide ((y1 * (s_w + 1)) + x2) 3 ((-9)) u10.1 u10.2.1 u10.2.2) (fun u11 => F_X4_layPoints_12 y1 s_w s_h k0 n (x2 + 1) u11.1 u11.2.1 u11.2.2)) else (bd (f_X4_layPointSide ((y1 * (s_w + 1)) + x2) 3 (f_X4_standing x2 y1 s_w s_h) u10.1 u10.2.1 u10.2.2) (fun u12 => F_X4_layPoints_12 y1 s_w s_h k0 n (x2 + 1) u12.1 u12.2.1 u12.2.2))))) else (bd (f_X4_layPointSide ((y1 * (s_w + 1)) + x2) 2 (f_X4_standing x2 (y1 - 1) s_w s_h) u9.1 u9.2.1 u9.2.2) (fun u13 => (if s_h ≤ y1 then (bd (f_X4_layPointSide ((y1 * (s_w + 1)) + x2) 3 ((-9)) u13.1 u13.2.1 u13.2.2) (fun u14 => F_X4_layPoints_12 y1 s_w s_h k0 n (x2 + 1) u14.1 u14.2.1 u14.2.2)) else (bd (f_X4_layPointSide ((y1 * (s_w + 1)) + x2) 3 (f_X4_standing x2 y1 s_w s_h) u13.1 u13.2.1 u13.2.2) (fun u15 => F_X4_layPoints_12 y1 s_w s_h k0 n (x2 + 1) u15.1 u15.2.1 u15.2.2))))))))))) else (bd (f_X4_layPointSide ((y1 * (s_w + 1)) + x2) 0 (f_X4_lying (x2 - 1) y1 s_w) s_ps s_en s_me) (fun u16 => (if s_w ≤ x2 then (bd (f_X4_layPointSide ((y1 * (s_w + 1)) + x2) 1 ((-9)) u16.1 u16.2.1 u16.2.2) (fun u17 => (if y1 ≤ 0 then (bd (f_X4_layPointSide ((y1 * (s_w + 1)) + x2) 2 ((-9)) u17.1 u17.2.1 u17.2.2) (fun u18 => (if s_h ≤ y1 then (bd (f_X4_layPointSide ((y1 * (s_w + 1)) + x2) 3 ((-9)) u18.1 u18.2.1 u18.2.2) (fun u19 => F_X4_layPoints_12 y1 s_w s_h k0 n (x2 + 1) u19.1 u19.2.1 u19.2.2)) else (bd (f_X4_layPointSide ((y1 * (s_w + 1)) + x2) 3 (f_X4_standing x2 y1 s_w s_h) u18.1 u18.2.1 u18.2.2) (fun u20 => F_X4_layPoints_12 y1 s_w s_h k0 n (x2 + 1) u20.1 u20.2.1 u20.2.2))))) else (bd (f_X4_layPointSide ((y1 * (s_w + 1)) + x2) 2 (f_X4_standing x2 (y1 - 1) s_w s_h) u17.1 u17.2.1 u17.2.2) (fun u21 => (if s_h ≤ y1 then (bd (f_X4_layPointSide ((y1 * (s_w + 1)) + x2) 3 ((-9)) u21.1 u21.2.1 u21.2.2) (fun u22 => F_X4_layPoints_12 y1 s_w s_h k0 n (x2 + 1) u22.1 u22.2.1 u22.2.2)) else (bd (f_X4_layPointSide ((y1 * (s_w + 1)) + x2) 3 (f_X4_standing x2 y1 s_w s_h) u21.1 u21.2.1 u21.2.2) (fun u23 => F_X4_layPoints_12 y1 s_w s_h k0 n (x2 + 1) u23.1 u23.2.1 u23.2.2)))))))) else (bd (f_X4_layPointSide ((y1 * (s_w + 1)) + x2) 1 (f_X4_lying x2 y1 s_w) u16.1 u16.2.1 u16.2.2) (fun u24 => (if y1 ≤ 0 then (bd (f_X4_layPointSide ((y1 * (s_w + 1)) + x2) 2 ((-9)) u24.1 u24.2.1 u24.2.2) (fun u25 => (if s_h ≤ y1 then (bd (f_X4_layPointSide ((y1 * (s_w + 1)) + x2) 3 ((-9)) u25.1 u25.2.1 u25.2.2) (fun u26 => F_X4_layPoints_12 y1 s_w s_h k0 n (x2 + 1) u26.1 u26.2.1 u26.2.2)) else (bd (f_X4_layPointSide ((y1 * (s_w + 1)) + x2) 3 (f_X4_standing x2 y1 s_w s_h) u25.1 u25.2.1 u25.2.2) (fun u27 => F_X4_layPoints_12 y1 s_w s_h k0 n (x2 + 1) u27.1 u27.2.1 u27.2.2))))) else (bd (f_X4_layPointSide ((y1 * (s_w + 1)) + x2) 2 (f_X4_standing x2 (y1 - 1) s_w s_h) u24.1 u24.2.1 u24.2.2) (fun u28 => (if s_h ≤ y1 then (bd (f_X4_layPointSide ((y1 * (s_w + 1)) + x2) 3 ((-9)) u28.1 u28.2.1 u28.2.2) (fun u29 => F_X4_layPoints_12 y1 s_w s_h k0 n (x2 + 1) u29.1 u29.2.1 u29.2.2)) else (bd (f_X4_layPointSide ((y1 * (s_w + 1)) + x2) 3 (f_X4_standing x2 y1 s_w s_h) u28.1 u28.2.1 u28.2.2) (fun u30 => F_X4_layPoints_12 y1 s_w s_h k0 n (x2 + 1) u30.1 u30.2.1 u30.2.2)))))))))))))
def F_X4_layPoints_2 (s_w : Int32) (s_h : Int32) {β : Type} (k0 : (Nat → Int32) → (Nat → Int32) → (Nat → Int64) → β) : Nat → Int32 → (Nat → Int32) → (Nat → Int32) → (Nat → Int64) → β
  | 0, x1, s_ps, s_en, s_me => k0 s_ps s_en s_me
  | n + 1, x1, s_ps, s_en, s_me => (if s_h < x1 then k0 s_ps s_en s_me else F_X4_layPoints_12 x1 s_w s_h (fun z31 z32 z33 => F_X4_layPoints_2 s_w s_h k0 n (x1 + 1) z31 z32 z33) (fue s_w (0 : Int32)) 0 s_ps s_en s_me)
def f_X4_layPoints (s_w : Int32) (s_h : Int32) (s_ps : Nat → Int32) (s_en : Nat → Int32) (s_me : Nat → Int64) : (Nat → Int32) × (Nat → Int32) × (Nat → Int64) := F_X4_layPoints_2 s_w s_h (fun z34 z35 z36 => (z34, z35, z36)) (fue s_h (0 : Int32)) 0 s_ps s_en s_me
set_option maxHeartbeats 4000000 in
set_option maxRecDepth 100000 in
theorem lp_X4_layPoints_12 (l : Launch) (D : va_G) (cI cL cZ : ClassId) (ad : Nat → Nat) (c_sr t_n t_r t_w s_w s_h s_c s_p s_s p_nx p_sz r_k r_r r_p l_z q_z : Int32) (t_t b_l b_b b_n r_t l_l l_b l_n q_l q_b q_n : Int64) (t_le s_cs s_ha pk ik : Nat → Int32) (s_ro s_be s_se s_co pl pb pn il ib im l_a q_a : Nat → Int64) {p : Program} {e : Env} {s : State} {m : MethodId} {args : Array Value} {below : List Frame} {meth : Method} {c : Code} {Q : State → Prop} (C : Cx p s m args meth c cX4_layPoints 4 none W0 RX4 D cI cL cZ) (hAd : cInj ad) (y1 : Int32) (hw : s_w.toInt < 2147483647) (hh : s_h.toInt < 2147483647) {β : Type} (k0 : (Nat → Int32) → (Nat → Int32) → (Nat → Int64) → β) (r : β)
    (h0 : ∀ (s_ps s_en : Nat → Int32) (s_me : Nat → Int64) (H : Heap) (locs : List Loc) (ls : Array Slot), k0 s_ps s_en s_me = r → va_P D vwCl (cw ad cI cL cZ c_sr t_n t_r t_w s_w s_h s_c s_p s_s p_nx p_sz r_k r_r r_p l_z q_z t_t b_l b_b b_n r_t l_l l_b l_n q_l q_b q_n t_le s_cs s_ps s_ha s_en pk ik s_ro s_me s_be s_se s_co pl pb pn il ib im l_a q_a) H → va_S (cAd ad) s.heap H locs → lv_has ls 4 [(0, .ref (ad 3)), (1, .int y1)] → W p l e (rmS 2 46) s m args below meth c H locs 0 0 Q (F0 m 133 ls [])) :
    ∀ (n : Nat) (x2 : Int32) (s_ps s_en : Nat → Int32) (s_me : Nat → Int64) (H : Heap) (locs : List Loc) (ls : Array Slot), fuE n s_w x2 → F_X4_layPoints_12 y1 s_w s_h k0 n x2 s_ps s_en s_me = r → va_P D vwCl (cw ad cI cL cZ c_sr t_n t_r t_w s_w s_h s_c s_p s_s p_nx p_sz r_k r_r r_p l_z q_z t_t b_l b_b b_n r_t l_l l_b l_n q_l q_b q_n t_le s_cs s_ps s_ha s_en pk ik s_ro s_me s_be s_se s_co pl pb pn il ib im l_a q_a) H → va_S (cAd ad) s.heap H locs → lv_has ls 4 [(0, .ref (ad 3)), (1, .int y1), (2, .int x2)] → W p l e (rmS 2 46) s m args below meth c H locs 0 0 Q (F0 m 12 ls []) := by
  obtain ⟨hx, hb, hml, hrt, hlocks, hown, hts, hk⟩ := C
  intro n
  induction n with
  | zero =>
    intro x2 s_ps s_en s_me H locs ls hf
    exact absurd hf.1 (Nat.lt_irrefl 0)
  | succ n ih =>
    intro x2 s_ps s_en s_me H locs ls hf hr hP hS hl
    rw [F_X4_layPoints_12] at hr
    refine lv_iload_n hx hb dX4_layPoints_12 rfl (lv_at hl 2 rfl) ?_
    refine lv_aload_n hx hb dX4_layPoints_13 rfl (lv_at hl 0 rfl) ?_
    refine va_get (D := D) (ci := 4) (v := .int s_w) (C := RX4) (T := TX4) (N := 14) hx hb hts u_X4 hown hk.1 hP 3 rfl rfl 0 (by decide) (hts _ q1_56) (fun _ h9 => h9) rfl dX4_layPoints_14 ?_
    refine lv_icmp_gt (tgt := 133) hx hb dX4_layPoints_17 (by decide) (fun c17 => ?_) (fun c17 => ?_)
    · have hr := (if_pos c17).symm.trans hr
      exact h0 s_ps s_en s_me _ _ _ hr hP hS (lv_sub hl [0, 1] rfl)
    · have hr := (if_neg c17).symm.trans hr
      refine lv_iload_n hx hb dX4_layPoints_20 rfl (lv_at hl 1 rfl) ?_
      refine lv_aload_n hx hb dX4_layPoints_21 rfl (lv_at hl 0 rfl) ?_
      refine va_get (D := D) (ci := 4) (v := .int s_w) (C := RX4) (T := TX4) (N := 14) hx hb hts u_X4 hown hk.1 hP 3 rfl rfl 0 (by decide) (hts _ q1_56) (fun _ h9 => h9) rfl dX4_layPoints_22 ?_
      refine lv_iconst (v := 1) hx hb dX4_layPoints_25 (by decide) ?_
      refine lv_iadd hx hb dX4_layPoints_26 ?_
      refine lv_imul hx hb dX4_layPoints_27 ?_
      refine lv_iload_n hx hb dX4_layPoints_28 rfl (lv_at hl 2 rfl) ?_
      refine lv_iadd hx hb dX4_layPoints_29 ?_
      refine lv_istore_n (lv' := [(3, .int ((y1 * (s_w + 1)) + x2)), (0, .ref (ad 3)), (1, .int y1), (2, .int x2)]) hx hb dX4_layPoints_30 rfl hl (by decide) rfl (fun ls hl => ?_)
      refine lv_aload_n hx hb dX4_layPoints_31 rfl (lv_at hl 1 rfl) ?_
      refine lv_iload_n hx hb dX4_layPoints_32 rfl (lv_at hl 0 rfl) ?_
      refine lv_iconst (v := 0) hx hb dX4_layPoints_33 (by decide) ?_
      refine lv_iload_n hx hb dX4_layPoints_34 rfl (lv_at hl 3 rfl) ?_
      refine lv_if_le (tgt := 49) hx hb dX4_layPoints_35 (by decide) (fun c35 => ?_) (fun c35 => ?_)
      · have hr := (if_pos c35).symm.trans hr
        refine lv_bipush (v := (-9)) hx hb dX4_layPoints_49 (by decide) ?_
        obtain ⟨u1, hu1⟩ : ∃ z, f_X4_layPointSide ((y1 * (s_w + 1)) + x2) 0 ((-9)) s_ps s_en s_me = z := ⟨_, rfl⟩
        have hr := (bd_eq hu1).symm.trans hr
        refine go_v (ru_V (n := 3) ⟨hx, hb, hml, hown, hts⟩ hk hP (c_X4_layPointSide l D cI cL cZ ad c_sr t_n t_r t_w s_w s_h s_c s_p s_s p_nx p_sz r_k r_r r_p l_z q_z t_t b_l b_b b_n r_t l_l l_b l_n q_l q_b q_n t_le s_cs s_ps s_ha s_en pk ik s_ro s_me s_be s_se s_co pl pb pn il ib im l_a q_a hAd ((y1 * (s_w + 1)) + x2) 0 ((-9)) _ hu1) (cwV 3 hts (gV q2_42 q2_44 qs1_5 q1_3 q2_45) rfl rfl rfl hd_X4_layPointSide ⟨Nat.le_of_ble_eq_true rfl, Nat.le_of_ble_eq_true rfl⟩) (va_recv hk.1 hP (ci := 4) (q0 := 3) rfl rfl) rfl hl.1 rfl (Nat.le_of_ble_eq_true rfl) dX4_layPoints_51 ⟨Nat.zero_le _, Nat.zero_le _⟩) hS (fun _ h => h) (fun H locs hP hS => ?_)
        have hP : va_P D vwCl (cw ad cI cL cZ c_sr t_n t_r t_w s_w s_h s_c s_p s_s p_nx p_sz r_k r_r r_p l_z q_z t_t b_l b_b b_n r_t l_l l_b l_n q_l q_b q_n t_le s_cs u1.1 s_ha u1.2.1 pk ik s_ro u1.2.2 s_be s_se s_co pl pb pn il ib im l_a q_a) H := hP
        refine lv_aload_n hx hb dX4_layPoints_54 rfl (lv_at hl 1 rfl) ?_
        refine lv_iload_n hx hb dX4_layPoints_55 rfl (lv_at hl 0 rfl) ?_
        refine lv_iconst (v := 1) hx hb dX4_layPoints_56 (by decide) ?_
        refine lv_iload_n hx hb dX4_layPoints_57 rfl (lv_at hl 3 rfl) ?_
        refine lv_aload_n hx hb dX4_layPoints_58 rfl (lv_at hl 1 rfl) ?_
        refine va_get (D := D) (ci := 4) (v := .int s_w) (C := RX4) (T := TX4) (N := 14) hx hb hts u_X4 hown hk.1 hP 3 rfl rfl 0 (by decide) (hts _ q1_56) (fun _ h9 => h9) rfl dX4_layPoints_59 ?_
        refine lv_icmp_ge (tgt := 74) hx hb dX4_layPoints_62 (by decide) (fun c62 => ?_) (fun c62 => ?_)
        · have hr := (if_pos c62).symm.trans hr
          refine lv_bipush (v := (-9)) hx hb dX4_layPoints_74 (by decide) ?_
          obtain ⟨u2, hu2⟩ : ∃ z, f_X4_layPointSide ((y1 * (s_w + 1)) + x2) 1 ((-9)) u1.1 u1.2.1 u1.2.2 = z := ⟨_, rfl⟩
          have hr := (bd_eq hu2).symm.trans hr
          refine go_v (ru_V (n := 3) ⟨hx, hb, hml, hown, hts⟩ hk hP (c_X4_layPointSide l D cI cL cZ ad c_sr t_n t_r t_w s_w s_h s_c s_p s_s p_nx p_sz r_k r_r r_p l_z q_z t_t b_l b_b b_n r_t l_l l_b l_n q_l q_b q_n t_le s_cs u1.1 s_ha u1.2.1 pk ik s_ro u1.2.2 s_be s_se s_co pl pb pn il ib im l_a q_a hAd ((y1 * (s_w + 1)) + x2) 1 ((-9)) _ hu2) (cwV 3 hts (gV q2_42 q2_44 qs1_5 q1_3 q2_45) rfl rfl rfl hd_X4_layPointSide ⟨Nat.le_of_ble_eq_true rfl, Nat.le_of_ble_eq_true rfl⟩) (va_recv hk.1 hP (ci := 4) (q0 := 3) rfl rfl) rfl hl.1 rfl (Nat.le_of_ble_eq_true rfl) dX4_layPoints_76 ⟨Nat.zero_le _, Nat.zero_le _⟩) hS (fun _ h => h) (fun H locs hP hS => ?_)
          have hP : va_P D vwCl (cw ad cI cL cZ c_sr t_n t_r t_w s_w s_h s_c s_p s_s p_nx p_sz r_k r_r r_p l_z q_z t_t b_l b_b b_n r_t l_l l_b l_n q_l q_b q_n t_le s_cs u2.1 s_ha u2.2.1 pk ik s_ro u2.2.2 s_be s_se s_co pl pb pn il ib im l_a q_a) H := hP
          refine lv_aload_n hx hb dX4_layPoints_79 rfl (lv_at hl 1 rfl) ?_
          refine lv_iload_n hx hb dX4_layPoints_80 rfl (lv_at hl 0 rfl) ?_
          refine lv_iconst (v := 2) hx hb dX4_layPoints_81 (by decide) ?_
          refine lv_iload_n hx hb dX4_layPoints_82 rfl (lv_at hl 2 rfl) ?_
          refine lv_if_le (tgt := 97) hx hb dX4_layPoints_83 (by decide) (fun c83 => ?_) (fun c83 => ?_)
          · have hr := (if_pos c83).symm.trans hr
            refine lv_bipush (v := (-9)) hx hb dX4_layPoints_97 (by decide) ?_
            obtain ⟨u3, hu3⟩ : ∃ z, f_X4_layPointSide ((y1 * (s_w + 1)) + x2) 2 ((-9)) u2.1 u2.2.1 u2.2.2 = z := ⟨_, rfl⟩
            have hr := (bd_eq hu3).symm.trans hr
            refine go_v (ru_V (n := 3) ⟨hx, hb, hml, hown, hts⟩ hk hP (c_X4_layPointSide l D cI cL cZ ad c_sr t_n t_r t_w s_w s_h s_c s_p s_s p_nx p_sz r_k r_r r_p l_z q_z t_t b_l b_b b_n r_t l_l l_b l_n q_l q_b q_n t_le s_cs u2.1 s_ha u2.2.1 pk ik s_ro u2.2.2 s_be s_se s_co pl pb pn il ib im l_a q_a hAd ((y1 * (s_w + 1)) + x2) 2 ((-9)) _ hu3) (cwV 3 hts (gV q2_42 q2_44 qs1_5 q1_3 q2_45) rfl rfl rfl hd_X4_layPointSide ⟨Nat.le_of_ble_eq_true rfl, Nat.le_of_ble_eq_true rfl⟩) (va_recv hk.1 hP (ci := 4) (q0 := 3) rfl rfl) rfl hl.1 rfl (Nat.le_of_ble_eq_true rfl) dX4_layPoints_99 ⟨Nat.zero_le _, Nat.zero_le _⟩) hS (fun _ h => h) (fun H locs hP hS => ?_)
            have hP : va_P D vwCl (cw ad cI cL cZ c_sr t_n t_r t_w s_w s_h s_c s_p s_s p_nx p_sz r_k r_r r_p l_z q_z t_t b_l b_b b_n r_t l_l l_b l_n q_l q_b q_n t_le s_cs u3.1 s_ha u3.2.1 pk ik s_ro u3.2.2 s_be s_se s_co pl pb pn il ib im l_a q_a) H := hP
            refine lv_aload_n hx hb dX4_layPoints_102 rfl (lv_at hl 1 rfl) ?_
            refine lv_iload_n hx hb dX4_layPoints_103 rfl (lv_at hl 0 rfl) ?_
            refine lv_iconst (v := 3) hx hb dX4_layPoints_104 (by decide) ?_
            refine lv_iload_n hx hb dX4_layPoints_105 rfl (lv_at hl 2 rfl) ?_
            refine lv_aload_n hx hb dX4_layPoints_106 rfl (lv_at hl 1 rfl) ?_
            refine va_get (D := D) (ci := 4) (v := .int s_h) (C := RX4) (T := TX4) (N := 14) hx hb hts u_X4 hown hk.1 hP 3 rfl rfl 1 (by decide) (hts _ q1_58) (fun _ h9 => h9) rfl dX4_layPoints_107 ?_
            refine lv_icmp_ge (tgt := 122) hx hb dX4_layPoints_110 (by decide) (fun c110 => ?_) (fun c110 => ?_)
            · have hr := (if_pos c110).symm.trans hr
              refine lv_bipush (v := (-9)) hx hb dX4_layPoints_122 (by decide) ?_
              obtain ⟨u4, hu4⟩ : ∃ z, f_X4_layPointSide ((y1 * (s_w + 1)) + x2) 3 ((-9)) u3.1 u3.2.1 u3.2.2 = z := ⟨_, rfl⟩
              have hr := (bd_eq hu4).symm.trans hr
              refine go_v (ru_V (n := 3) ⟨hx, hb, hml, hown, hts⟩ hk hP (c_X4_layPointSide l D cI cL cZ ad c_sr t_n t_r t_w s_w s_h s_c s_p s_s p_nx p_sz r_k r_r r_p l_z q_z t_t b_l b_b b_n r_t l_l l_b l_n q_l q_b q_n t_le s_cs u3.1 s_ha u3.2.1 pk ik s_ro u3.2.2 s_be s_se s_co pl pb pn il ib im l_a q_a hAd ((y1 * (s_w + 1)) + x2) 3 ((-9)) _ hu4) (cwV 3 hts (gV q2_42 q2_44 qs1_5 q1_3 q2_45) rfl rfl rfl hd_X4_layPointSide ⟨Nat.le_of_ble_eq_true rfl, Nat.le_of_ble_eq_true rfl⟩) (va_recv hk.1 hP (ci := 4) (q0 := 3) rfl rfl) rfl hl.1 rfl (Nat.le_of_ble_eq_true rfl) dX4_layPoints_124 ⟨Nat.zero_le _, Nat.zero_le _⟩) hS (fun _ h => h) (fun H locs hP hS => ?_)
              have hP : va_P D vwCl (cw ad cI cL cZ c_sr t_n t_r t_w s_w s_h s_c s_p s_s p_nx p_sz r_k r_r r_p l_z q_z t_t b_l b_b b_n r_t l_l l_b l_n q_l q_b q_n t_le s_cs u4.1 s_ha u4.2.1 pk ik s_ro u4.2.2 s_be s_se s_co pl pb pn il ib im l_a q_a) H := hP
              refine lv_iinc (v := x2 + 1) (lv' := [(2, .int (x2 + 1)), (3, .int ((y1 * (s_w + 1)) + x2)), (0, .ref (ad 3)), (1, .int y1)]) hx hb dX4_layPoints_127 hl (k := 3) rfl rfl (by decide) rfl (fun ls hl => ?_)
              refine lv_goto (tgt := 12) hx hb dX4_layPoints_130 (by decide) ?_
              exact ih (x2 + 1) u4.1 u4.2.1 u4.2.2 _ _ _ (fuE_s hf c17 hw) hr hP hS (lv_sub hl [2, 3, 0] rfl)
            · have hr := (if_neg c110).symm.trans hr
              refine lv_aload_n hx hb dX4_layPoints_113 rfl (lv_at hl 1 rfl) ?_
              refine lv_iload_n hx hb dX4_layPoints_114 rfl (lv_at hl 3 rfl) ?_
              refine lv_iload_n hx hb dX4_layPoints_115 rfl (lv_at hl 2 rfl) ?_
              refine go_i (ru_V (n := 2) ⟨hx, hb, hml, hown, hts⟩ hk hP (c_X4_standing l D cI cL cZ ad c_sr t_n t_r t_w s_w s_h s_c s_p s_s p_nx p_sz r_k r_r r_p l_z q_z t_t b_l b_b b_n r_t l_l l_b l_n q_l q_b q_n t_le s_cs u3.1 s_ha u3.2.1 pk ik s_ro u3.2.2 s_be s_se s_co pl pb pn il ib im l_a q_a hAd x2 y1 _ rfl) (cwV 2 hts (gV q2_27 q2_29 qs1_3 q1_3 q2_30) rfl rfl rfl hd_X4_standing ⟨Nat.le_of_ble_eq_true rfl, Nat.le_of_ble_eq_true rfl⟩) (va_recv hk.1 hP (ci := 4) (q0 := 3) rfl rfl) rfl hl.1 rfl (Nat.le_of_ble_eq_true rfl) dX4_layPoints_116 ⟨Nat.zero_le _, Nat.zero_le _⟩) hS (fun _ h => h) (fun H locs hP hS => ?_)
              have hP : va_P D vwCl (cw ad cI cL cZ c_sr t_n t_r t_w s_w s_h s_c s_p s_s p_nx p_sz r_k r_r r_p l_z q_z t_t b_l b_b b_n r_t l_l l_b l_n q_l q_b q_n t_le s_cs u3.1 s_ha u3.2.1 pk ik s_ro u3.2.2 s_be s_se s_co pl pb pn il ib im l_a q_a) H := hP
              refine lv_goto (tgt := 124) hx hb dX4_layPoints_119 (by decide) ?_
              obtain ⟨u5, hu5⟩ : ∃ z, f_X4_layPointSide ((y1 * (s_w + 1)) + x2) 3 (f_X4_standing x2 y1 s_w s_h) u3.1 u3.2.1 u3.2.2 = z := ⟨_, rfl⟩
              have hr := (bd_eq hu5).symm.trans hr
              refine go_v (ru_V (n := 3) ⟨hx, hb, hml, hown, hts⟩ hk hP (c_X4_layPointSide l D cI cL cZ ad c_sr t_n t_r t_w s_w s_h s_c s_p s_s p_nx p_sz r_k r_r r_p l_z q_z t_t b_l b_b b_n r_t l_l l_b l_n q_l q_b q_n t_le s_cs u3.1 s_ha u3.2.1 pk ik s_ro u3.2.2 s_be s_se s_co pl pb pn il ib im l_a q_a hAd ((y1 * (s_w + 1)) + x2) 3 (f_X4_standing x2 y1 s_w s_h) _ hu5) (cwV 3 hts (gV q2_42 q2_44 qs1_5 q1_3 q2_45) rfl rfl rfl hd_X4_layPointSide ⟨Nat.le_of_ble_eq_true rfl, Nat.le_of_ble_eq_true rfl⟩) (va_recv hk.1 hP (ci := 4) (q0 := 3) rfl rfl) rfl hl.1 rfl (Nat.le_of_ble_eq_true rfl) dX4_layPoints_124 ⟨Nat.zero_le _, Nat.zero_le _⟩) hS (fun _ h => h) (fun H locs hP hS => ?_)
              have hP : va_P D vwCl (cw ad cI cL cZ c_sr t_n t_r t_w s_w s_h s_c s_p s_s p_nx p_sz r_k r_r r_p l_z q_z t_t b_l b_b b_n r_t l_l l_b l_n q_l q_b q_n t_le s_cs u5.1 s_ha u5.2.1 pk ik s_ro u5.2.2 s_be s_se s_co pl pb pn il ib im l_a q_a) H := hP
              refine lv_iinc (v := x2 + 1) (lv' := [(2, .int (x2 + 1)), (3, .int ((y1 * (s_w + 1)) + x2)), (0, .ref (ad 3)), (1, .int y1)]) hx hb dX4_layPoints_127 hl (k := 3) rfl rfl (by decide) rfl (fun ls hl => ?_)
              refine lv_goto (tgt := 12) hx hb dX4_layPoints_130 (by decide) ?_
              exact ih (x2 + 1) u5.1 u5.2.1 u5.2.2 _ _ _ (fuE_s hf c17 hw) hr hP hS (lv_sub hl [2, 3, 0] rfl)
          · have hr := (if_neg c83).symm.trans hr
            refine lv_aload_n hx hb dX4_layPoints_86 rfl (lv_at hl 1 rfl) ?_
            refine lv_iload_n hx hb dX4_layPoints_87 rfl (lv_at hl 3 rfl) ?_
            refine lv_iload_n hx hb dX4_layPoints_88 rfl (lv_at hl 2 rfl) ?_
            refine lv_iconst (v := 1) hx hb dX4_layPoints_89 (by decide) ?_
            refine lv_isub hx hb dX4_layPoints_90 ?_
            refine go_i (ru_V (n := 2) ⟨hx, hb, hml, hown, hts⟩ hk hP (c_X4_standing l D cI cL cZ ad c_sr t_n t_r t_w s_w s_h s_c s_p s_s p_nx p_sz r_k r_r r_p l_z q_z t_t b_l b_b b_n r_t l_l l_b l_n q_l q_b q_n t_le s_cs u2.1 s_ha u2.2.1 pk ik s_ro u2.2.2 s_be s_se s_co pl pb pn il ib im l_a q_a hAd x2 (y1 - 1) _ rfl) (cwV 2 hts (gV q2_27 q2_29 qs1_3 q1_3 q2_30) rfl rfl rfl hd_X4_standing ⟨Nat.le_of_ble_eq_true rfl, Nat.le_of_ble_eq_true rfl⟩) (va_recv hk.1 hP (ci := 4) (q0 := 3) rfl rfl) rfl hl.1 rfl (Nat.le_of_ble_eq_true rfl) dX4_layPoints_91 ⟨Nat.zero_le _, Nat.zero_le _⟩) hS (fun _ h => h) (fun H locs hP hS => ?_)
            have hP : va_P D vwCl (cw ad cI cL cZ c_sr t_n t_r t_w s_w s_h s_c s_p s_s p_nx p_sz r_k r_r r_p l_z q_z t_t b_l b_b b_n r_t l_l l_b l_n q_l q_b q_n t_le s_cs u2.1 s_ha u2.2.1 pk ik s_ro u2.2.2 s_be s_se s_co pl pb pn il ib im l_a q_a) H := hP
            refine lv_goto (tgt := 99) hx hb dX4_layPoints_94 (by decide) ?_
            obtain ⟨u6, hu6⟩ : ∃ z, f_X4_layPointSide ((y1 * (s_w + 1)) + x2) 2 (f_X4_standing x2 (y1 - 1) s_w s_h) u2.1 u2.2.1 u2.2.2 = z := ⟨_, rfl⟩
            have hr := (bd_eq hu6).symm.trans hr
            refine go_v (ru_V (n := 3) ⟨hx, hb, hml, hown, hts⟩ hk hP (c_X4_layPointSide l D cI cL cZ ad c_sr t_n t_r t_w s_w s_h s_c s_p s_s p_nx p_sz r_k r_r r_p l_z q_z t_t b_l b_b b_n r_t l_l l_b l_n q_l q_b q_n t_le s_cs u2.1 s_ha u2.2.1 pk ik s_ro u2.2.2 s_be s_se s_co pl pb pn il ib im l_a q_a hAd ((y1 * (s_w + 1)) + x2) 2 (f_X4_standing x2 (y1 - 1) s_w s_h) _ hu6) (cwV 3 hts (gV q2_42 q2_44 qs1_5 q1_3 q2_45) rfl rfl rfl hd_X4_layPointSide ⟨Nat.le_of_ble_eq_true rfl, Nat.le_of_ble_eq_true rfl⟩) (va_recv hk.1 hP (ci := 4) (q0 := 3) rfl rfl) rfl hl.1 rfl (Nat.le_of_ble_eq_true rfl) dX4_layPoints_99 ⟨Nat.zero_le _, Nat.zero_le _⟩) hS (fun _ h => h) (fun H locs hP hS => ?_)
            have hP : va_P D vwCl (cw ad cI cL cZ c_sr t_n t_r t_w s_w s_h s_c s_p s_s p_nx p_sz r_k r_r r_p l_z q_z t_t b_l b_b b_n r_t l_l l_b l_n q_l q_b q_n t_le s_cs u6.1 s_ha u6.2.1 pk ik s_ro u6.2.2 s_be s_se s_co pl pb pn il ib im l_a q_a) H := hP
            refine lv_aload_n hx hb dX4_layPoints_102 rfl (lv_at hl 1 rfl) ?_
            refine lv_iload_n hx hb dX4_layPoints_103 rfl (lv_at hl 0 rfl) ?_
            refine lv_iconst (v := 3) hx hb dX4_layPoints_104 (by decide) ?_
            refine lv_iload_n hx hb dX4_layPoints_105 rfl (lv_at hl 2 rfl) ?_
            refine lv_aload_n hx hb dX4_layPoints_106 rfl (lv_at hl 1 rfl) ?_
            refine va_get (D := D) (ci := 4) (v := .int s_h) (C := RX4) (T := TX4) (N := 14) hx hb hts u_X4 hown hk.1 hP 3 rfl rfl 1 (by decide) (hts _ q1_58) (fun _ h9 => h9) rfl dX4_layPoints_107 ?_
            refine lv_icmp_ge (tgt := 122) hx hb dX4_layPoints_110 (by decide) (fun c110 => ?_) (fun c110 => ?_)
            · have hr := (if_pos c110).symm.trans hr
              refine lv_bipush (v := (-9)) hx hb dX4_layPoints_122 (by decide) ?_
              obtain ⟨u7, hu7⟩ : ∃ z, f_X4_layPointSide ((y1 * (s_w + 1)) + x2) 3 ((-9)) u6.1 u6.2.1 u6.2.2 = z := ⟨_, rfl⟩
              have hr := (bd_eq hu7).symm.trans hr
              refine go_v (ru_V (n := 3) ⟨hx, hb, hml, hown, hts⟩ hk hP (c_X4_layPointSide l D cI cL cZ ad c_sr t_n t_r t_w s_w s_h s_c s_p s_s p_nx p_sz r_k r_r r_p l_z q_z t_t b_l b_b b_n r_t l_l l_b l_n q_l q_b q_n t_le s_cs u6.1 s_ha u6.2.1 pk ik s_ro u6.2.2 s_be s_se s_co pl pb pn il ib im l_a q_a hAd ((y1 * (s_w + 1)) + x2) 3 ((-9)) _ hu7) (cwV 3 hts (gV q2_42 q2_44 qs1_5 q1_3 q2_45) rfl rfl rfl hd_X4_layPointSide ⟨Nat.le_of_ble_eq_true rfl, Nat.le_of_ble_eq_true rfl⟩) (va_recv hk.1 hP (ci := 4) (q0 := 3) rfl rfl) rfl hl.1 rfl (Nat.le_of_ble_eq_true rfl) dX4_layPoints_124 ⟨Nat.zero_le _, Nat.zero_le _⟩) hS (fun _ h => h) (fun H locs hP hS => ?_)
              have hP : va_P D vwCl (cw ad cI cL cZ c_sr t_n t_r t_w s_w s_h s_c s_p s_s p_nx p_sz r_k r_r r_p l_z q_z t_t b_l b_b b_n r_t l_l l_b l_n q_l q_b q_n t_le s_cs u7.1 s_ha u7.2.1 pk ik s_ro u7.2.2 s_be s_se s_co pl pb pn il ib im l_a q_a) H := hP
              refine lv_iinc (v := x2 + 1) (lv' := [(2, .int (x2 + 1)), (3, .int ((y1 * (s_w + 1)) + x2)), (0, .ref (ad 3)), (1, .int y1)]) hx hb dX4_layPoints_127 hl (k := 3) rfl rfl (by decide) rfl (fun ls hl => ?_)
              refine lv_goto (tgt := 12) hx hb dX4_layPoints_130 (by decide) ?_
              exact ih (x2 + 1) u7.1 u7.2.1 u7.2.2 _ _ _ (fuE_s hf c17 hw) hr hP hS (lv_sub hl [2, 3, 0] rfl)
            · have hr := (if_neg c110).symm.trans hr
              refine lv_aload_n hx hb dX4_layPoints_113 rfl (lv_at hl 1 rfl) ?_
              refine lv_iload_n hx hb dX4_layPoints_114 rfl (lv_at hl 3 rfl) ?_
              refine lv_iload_n hx hb dX4_layPoints_115 rfl (lv_at hl 2 rfl) ?_
              refine go_i (ru_V (n := 2) ⟨hx, hb, hml, hown, hts⟩ hk hP (c_X4_standing l D cI cL cZ ad c_sr t_n t_r t_w s_w s_h s_c s_p s_s p_nx p_sz r_k r_r r_p l_z q_z t_t b_l b_b b_n r_t l_l l_b l_n q_l q_b q_n t_le s_cs u6.1 s_ha u6.2.1 pk ik s_ro u6.2.2 s_be s_se s_co pl pb pn il ib im l_a q_a hAd x2 y1 _ rfl) (cwV 2 hts (gV q2_27 q2_29 qs1_3 q1_3 q2_30) rfl rfl rfl hd_X4_standing ⟨Nat.le_of_ble_eq_true rfl, Nat.le_of_ble_eq_true rfl⟩) (va_recv hk.1 hP (ci := 4) (q0 := 3) rfl rfl) rfl hl.1 rfl (Nat.le_of_ble_eq_true rfl) dX4_layPoints_116 ⟨Nat.zero_le _, Nat.zero_le _⟩) hS (fun _ h => h) (fun H locs hP hS => ?_)
              have hP : va_P D vwCl (cw ad cI cL cZ c_sr t_n t_r t_w s_w s_h s_c s_p s_s p_nx p_sz r_k r_r r_p l_z q_z t_t b_l b_b b_n r_t l_l l_b l_n q_l q_b q_n t_le s_cs u6.1 s_ha u6.2.1 pk ik s_ro u6.2.2 s_be s_se s_co pl pb pn il ib im l_a q_a) H := hP
              refine lv_goto (tgt := 124) hx hb dX4_layPoints_119 (by decide) ?_
              obtain ⟨u8, hu8⟩ : ∃ z, f_X4_layPointSide ((y1 * (s_w + 1)) + x2) 3 (f_X4_standing x2 y1 s_w s_h) u6.1 u6.2.1 u6.2.2 = z := ⟨_, rfl⟩
              have hr := (bd_eq hu8).symm.trans hr
              refine go_v (ru_V (n := 3) ⟨hx, hb, hml, hown, hts⟩ hk hP (c_X4_layPointSide l D cI cL cZ ad c_sr t_n t_r t_w s_w s_h s_c s_p s_s p_nx p_sz r_k r_r r_p l_z q_z t_t b_l b_b b_n r_t l_l l_b l_n q_l q_b q_n t_le s_cs u6.1 s_ha u6.2.1 pk ik s_ro u6.2.2 s_be s_se s_co pl pb pn il ib im l_a q_a hAd ((y1 * (s_w + 1)) + x2) 3 (f_X4_standing x2 y1 s_w s_h) _ hu8) (cwV 3 hts (gV q2_42 q2_44 qs1_5 q1_3 q2_45) rfl rfl rfl hd_X4_layPointSide ⟨Nat.le_of_ble_eq_true rfl, Nat.le_of_ble_eq_true rfl⟩) (va_recv hk.1 hP (ci := 4) (q0 := 3) rfl rfl) rfl hl.1 rfl (Nat.le_of_ble_eq_true rfl) dX4_layPoints_124 ⟨Nat.zero_le _, Nat.zero_le _⟩) hS (fun _ h => h) (fun H locs hP hS => ?_)
              have hP : va_P D vwCl (cw ad cI cL cZ c_sr t_n t_r t_w s_w s_h s_c s_p s_s p_nx p_sz r_k r_r r_p l_z q_z t_t b_l b_b b_n r_t l_l l_b l_n q_l q_b q_n t_le s_cs u8.1 s_ha u8.2.1 pk ik s_ro u8.2.2 s_be s_se s_co pl pb pn il ib im l_a q_a) H := hP
              refine lv_iinc (v := x2 + 1) (lv' := [(2, .int (x2 + 1)), (3, .int ((y1 * (s_w + 1)) + x2)), (0, .ref (ad 3)), (1, .int y1)]) hx hb dX4_layPoints_127 hl (k := 3) rfl rfl (by decide) rfl (fun ls hl => ?_)
              refine lv_goto (tgt := 12) hx hb dX4_layPoints_130 (by decide) ?_
              exact ih (x2 + 1) u8.1 u8.2.1 u8.2.2 _ _ _ (fuE_s hf c17 hw) hr hP hS (lv_sub hl [2, 3, 0] rfl)
        · have hr := (if_neg c62).symm.trans hr
          refine lv_aload_n hx hb dX4_layPoints_65 rfl (lv_at hl 1 rfl) ?_
          refine lv_iload_n hx hb dX4_layPoints_66 rfl (lv_at hl 3 rfl) ?_
          refine lv_iload_n hx hb dX4_layPoints_67 rfl (lv_at hl 2 rfl) ?_
          refine go_i (ru_V (n := 2) ⟨hx, hb, hml, hown, hts⟩ hk hP (c_X4_lying l D cI cL cZ ad c_sr t_n t_r t_w s_w s_h s_c s_p s_s p_nx p_sz r_k r_r r_p l_z q_z t_t b_l b_b b_n r_t l_l l_b l_n q_l q_b q_n t_le s_cs u1.1 s_ha u1.2.1 pk ik s_ro u1.2.2 s_be s_se s_co pl pb pn il ib im l_a q_a hAd x2 y1 _ rfl) (cwV 2 hts (gV q2_3 q2_5 qs1_1 q1_3 q2_6) rfl rfl rfl hd_X4_lying ⟨Nat.le_of_ble_eq_true rfl, Nat.le_of_ble_eq_true rfl⟩) (va_recv hk.1 hP (ci := 4) (q0 := 3) rfl rfl) rfl hl.1 rfl (Nat.le_of_ble_eq_true rfl) dX4_layPoints_68 ⟨Nat.zero_le _, Nat.zero_le _⟩) hS (fun _ h => h) (fun H locs hP hS => ?_)
          have hP : va_P D vwCl (cw ad cI cL cZ c_sr t_n t_r t_w s_w s_h s_c s_p s_s p_nx p_sz r_k r_r r_p l_z q_z t_t b_l b_b b_n r_t l_l l_b l_n q_l q_b q_n t_le s_cs u1.1 s_ha u1.2.1 pk ik s_ro u1.2.2 s_be s_se s_co pl pb pn il ib im l_a q_a) H := hP
          refine lv_goto (tgt := 76) hx hb dX4_layPoints_71 (by decide) ?_
          obtain ⟨u9, hu9⟩ : ∃ z, f_X4_layPointSide ((y1 * (s_w + 1)) + x2) 1 (f_X4_lying x2 y1 s_w) u1.1 u1.2.1 u1.2.2 = z := ⟨_, rfl⟩
          have hr := (bd_eq hu9).symm.trans hr
          refine go_v (ru_V (n := 3) ⟨hx, hb, hml, hown, hts⟩ hk hP (c_X4_layPointSide l D cI cL cZ ad c_sr t_n t_r t_w s_w s_h s_c s_p s_s p_nx p_sz r_k r_r r_p l_z q_z t_t b_l b_b b_n r_t l_l l_b l_n q_l q_b q_n t_le s_cs u1.1 s_ha u1.2.1 pk ik s_ro u1.2.2 s_be s_se s_co pl pb pn il ib im l_a q_a hAd ((y1 * (s_w + 1)) + x2) 1 (f_X4_lying x2 y1 s_w) _ hu9) (cwV 3 hts (gV q2_42 q2_44 qs1_5 q1_3 q2_45) rfl rfl rfl hd_X4_layPointSide ⟨Nat.le_of_ble_eq_true rfl, Nat.le_of_ble_eq_true rfl⟩) (va_recv hk.1 hP (ci := 4) (q0 := 3) rfl rfl) rfl hl.1 rfl (Nat.le_of_ble_eq_true rfl) dX4_layPoints_76 ⟨Nat.zero_le _, Nat.zero_le _⟩) hS (fun _ h => h) (fun H locs hP hS => ?_)
          have hP : va_P D vwCl (cw ad cI cL cZ c_sr t_n t_r t_w s_w s_h s_c s_p s_s p_nx p_sz r_k r_r r_p l_z q_z t_t b_l b_b b_n r_t l_l l_b l_n q_l q_b q_n t_le s_cs u9.1 s_ha u9.2.1 pk ik s_ro u9.2.2 s_be s_se s_co pl pb pn il ib im l_a q_a) H := hP
          refine lv_aload_n hx hb dX4_layPoints_79 rfl (lv_at hl 1 rfl) ?_
          refine lv_iload_n hx hb dX4_layPoints_80 rfl (lv_at hl 0 rfl) ?_
          refine lv_iconst (v := 2) hx hb dX4_layPoints_81 (by decide) ?_
          refine lv_iload_n hx hb dX4_layPoints_82 rfl (lv_at hl 2 rfl) ?_
          refine lv_if_le (tgt := 97) hx hb dX4_layPoints_83 (by decide) (fun c83 => ?_) (fun c83 => ?_)
          · have hr := (if_pos c83).symm.trans hr
            refine lv_bipush (v := (-9)) hx hb dX4_layPoints_97 (by decide) ?_
            obtain ⟨u10, hu10⟩ : ∃ z, f_X4_layPointSide ((y1 * (s_w + 1)) + x2) 2 ((-9)) u9.1 u9.2.1 u9.2.2 = z := ⟨_, rfl⟩
            have hr := (bd_eq hu10).symm.trans hr
            refine go_v (ru_V (n := 3) ⟨hx, hb, hml, hown, hts⟩ hk hP (c_X4_layPointSide l D cI cL cZ ad c_sr t_n t_r t_w s_w s_h s_c s_p s_s p_nx p_sz r_k r_r r_p l_z q_z t_t b_l b_b b_n r_t l_l l_b l_n q_l q_b q_n t_le s_cs u9.1 s_ha u9.2.1 pk ik s_ro u9.2.2 s_be s_se s_co pl pb pn il ib im l_a q_a hAd ((y1 * (s_w + 1)) + x2) 2 ((-9)) _ hu10) (cwV 3 hts (gV q2_42 q2_44 qs1_5 q1_3 q2_45) rfl rfl rfl hd_X4_layPointSide ⟨Nat.le_of_ble_eq_true rfl, Nat.le_of_ble_eq_true rfl⟩) (va_recv hk.1 hP (ci := 4) (q0 := 3) rfl rfl) rfl hl.1 rfl (Nat.le_of_ble_eq_true rfl) dX4_layPoints_99 ⟨Nat.zero_le _, Nat.zero_le _⟩) hS (fun _ h => h) (fun H locs hP hS => ?_)
            have hP : va_P D vwCl (cw ad cI cL cZ c_sr t_n t_r t_w s_w s_h s_c s_p s_s p_nx p_sz r_k r_r r_p l_z q_z t_t b_l b_b b_n r_t l_l l_b l_n q_l q_b q_n t_le s_cs u10.1 s_ha u10.2.1 pk ik s_ro u10.2.2 s_be s_se s_co pl pb pn il ib im l_a q_a) H := hP
            refine lv_aload_n hx hb dX4_layPoints_102 rfl (lv_at hl 1 rfl) ?_
            refine lv_iload_n hx hb dX4_layPoints_103 rfl (lv_at hl 0 rfl) ?_
            refine lv_iconst (v := 3) hx hb dX4_layPoints_104 (by decide) ?_
            refine lv_iload_n hx hb dX4_layPoints_105 rfl (lv_at hl 2 rfl) ?_
            refine lv_aload_n hx hb dX4_layPoints_106 rfl (lv_at hl 1 rfl) ?_
            refine va_get (D := D) (ci := 4) (v := .int s_h) (C := RX4) (T := TX4) (N := 14) hx hb hts u_X4 hown hk.1 hP 3 rfl rfl 1 (by decide) (hts _ q1_58) (fun _ h9 => h9) rfl dX4_layPoints_107 ?_
            refine lv_icmp_ge (tgt := 122) hx hb dX4_layPoints_110 (by decide) (fun c110 => ?_) (fun c110 => ?_)
            · have hr := (if_pos c110).symm.trans hr
              refine lv_bipush (v := (-9)) hx hb dX4_layPoints_122 (by decide) ?_
              obtain ⟨u11, hu11⟩ : ∃ z, f_X4_layPointSide ((y1 * (s_w + 1)) + x2) 3 ((-9)) u10.1 u10.2.1 u10.2.2 = z := ⟨_, rfl⟩
              have hr := (bd_eq hu11).symm.trans hr
              refine go_v (ru_V (n := 3) ⟨hx, hb, hml, hown, hts⟩ hk hP (c_X4_layPointSide l D cI cL cZ ad c_sr t_n t_r t_w s_w s_h s_c s_p s_s p_nx p_sz r_k r_r r_p l_z q_z t_t b_l b_b b_n r_t l_l l_b l_n q_l q_b q_n t_le s_cs u10.1 s_ha u10.2.1 pk ik s_ro u10.2.2 s_be s_se s_co pl pb pn il ib im l_a q_a hAd ((y1 * (s_w + 1)) + x2) 3 ((-9)) _ hu11) (cwV 3 hts (gV q2_42 q2_44 qs1_5 q1_3 q2_45) rfl rfl rfl hd_X4_layPointSide ⟨Nat.le_of_ble_eq_true rfl, Nat.le_of_ble_eq_true rfl⟩) (va_recv hk.1 hP (ci := 4) (q0 := 3) rfl rfl) rfl hl.1 rfl (Nat.le_of_ble_eq_true rfl) dX4_layPoints_124 ⟨Nat.zero_le _, Nat.zero_le _⟩) hS (fun _ h => h) (fun H locs hP hS => ?_)
              have hP : va_P D vwCl (cw ad cI cL cZ c_sr t_n t_r t_w s_w s_h s_c s_p s_s p_nx p_sz r_k r_r r_p l_z q_z t_t b_l b_b b_n r_t l_l l_b l_n q_l q_b q_n t_le s_cs u11.1 s_ha u11.2.1 pk ik s_ro u11.2.2 s_be s_se s_co pl pb pn il ib im l_a q_a) H := hP
              refine lv_iinc (v := x2 + 1) (lv' := [(2, .int (x2 + 1)), (3, .int ((y1 * (s_w + 1)) + x2)), (0, .ref (ad 3)), (1, .int y1)]) hx hb dX4_layPoints_127 hl (k := 3) rfl rfl (by decide) rfl (fun ls hl => ?_)
              refine lv_goto (tgt := 12) hx hb dX4_layPoints_130 (by decide) ?_
              exact ih (x2 + 1) u11.1 u11.2.1 u11.2.2 _ _ _ (fuE_s hf c17 hw) hr hP hS (lv_sub hl [2, 3, 0] rfl)
            · have hr := (if_neg c110).symm.trans hr
              refine lv_aload_n hx hb dX4_layPoints_113 rfl (lv_at hl 1 rfl) ?_
              refine lv_iload_n hx hb dX4_layPoints_114 rfl (lv_at hl 3 rfl) ?_
              refine lv_iload_n hx hb dX4_layPoints_115 rfl (lv_at hl 2 rfl) ?_
              refine go_i (ru_V (n := 2) ⟨hx, hb, hml, hown, hts⟩ hk hP (c_X4_standing l D cI cL cZ ad c_sr t_n t_r t_w s_w s_h s_c s_p s_s p_nx p_sz r_k r_r r_p l_z q_z t_t b_l b_b b_n r_t l_l l_b l_n q_l q_b q_n t_le s_cs u10.1 s_ha u10.2.1 pk ik s_ro u10.2.2 s_be s_se s_co pl pb pn il ib im l_a q_a hAd x2 y1 _ rfl) (cwV 2 hts (gV q2_27 q2_29 qs1_3 q1_3 q2_30) rfl rfl rfl hd_X4_standing ⟨Nat.le_of_ble_eq_true rfl, Nat.le_of_ble_eq_true rfl⟩) (va_recv hk.1 hP (ci := 4) (q0 := 3) rfl rfl) rfl hl.1 rfl (Nat.le_of_ble_eq_true rfl) dX4_layPoints_116 ⟨Nat.zero_le _, Nat.zero_le _⟩) hS (fun _ h => h) (fun H locs hP hS => ?_)
              have hP : va_P D vwCl (cw ad cI cL cZ c_sr t_n t_r t_w s_w s_h s_c s_p s_s p_nx p_sz r_k r_r r_p l_z q_z t_t b_l b_b b_n r_t l_l l_b l_n q_l q_b q_n t_le s_cs u10.1 s_ha u10.2.1 pk ik s_ro u10.2.2 s_be s_se s_co pl pb pn il ib im l_a q_a) H := hP
              refine lv_goto (tgt := 124) hx hb dX4_layPoints_119 (by decide) ?_
              obtain ⟨u12, hu12⟩ : ∃ z, f_X4_layPointSide ((y1 * (s_w + 1)) + x2) 3 (f_X4_standing x2 y1 s_w s_h) u10.1 u10.2.1 u10.2.2 = z := ⟨_, rfl⟩
              have hr := (bd_eq hu12).symm.trans hr
              refine go_v (ru_V (n := 3) ⟨hx, hb, hml, hown, hts⟩ hk hP (c_X4_layPointSide l D cI cL cZ ad c_sr t_n t_r t_w s_w s_h s_c s_p s_s p_nx p_sz r_k r_r r_p l_z q_z t_t b_l b_b b_n r_t l_l l_b l_n q_l q_b q_n t_le s_cs u10.1 s_ha u10.2.1 pk ik s_ro u10.2.2 s_be s_se s_co pl pb pn il ib im l_a q_a hAd ((y1 * (s_w + 1)) + x2) 3 (f_X4_standing x2 y1 s_w s_h) _ hu12) (cwV 3 hts (gV q2_42 q2_44 qs1_5 q1_3 q2_45) rfl rfl rfl hd_X4_layPointSide ⟨Nat.le_of_ble_eq_true rfl, Nat.le_of_ble_eq_true rfl⟩) (va_recv hk.1 hP (ci := 4) (q0 := 3) rfl rfl) rfl hl.1 rfl (Nat.le_of_ble_eq_true rfl) dX4_layPoints_124 ⟨Nat.zero_le _, Nat.zero_le _⟩) hS (fun _ h => h) (fun H locs hP hS => ?_)
              have hP : va_P D vwCl (cw ad cI cL cZ c_sr t_n t_r t_w s_w s_h s_c s_p s_s p_nx p_sz r_k r_r r_p l_z q_z t_t b_l b_b b_n r_t l_l l_b l_n q_l q_b q_n t_le s_cs u12.1 s_ha u12.2.1 pk ik s_ro u12.2.2 s_be s_se s_co pl pb pn il ib im l_a q_a) H := hP
              refine lv_iinc (v := x2 + 1) (lv' := [(2, .int (x2 + 1)), (3, .int ((y1 * (s_w + 1)) + x2)), (0, .ref (ad 3)), (1, .int y1)]) hx hb dX4_layPoints_127 hl (k := 3) rfl rfl (by decide) rfl (fun ls hl => ?_)
              refine lv_goto (tgt := 12) hx hb dX4_layPoints_130 (by decide) ?_
              exact ih (x2 + 1) u12.1 u12.2.1 u12.2.2 _ _ _ (fuE_s hf c17 hw) hr hP hS (lv_sub hl [2, 3, 0] rfl)
          · have hr := (if_neg c83).symm.trans hr
            refine lv_aload_n hx hb dX4_layPoints_86 rfl (lv_at hl 1 rfl) ?_
            refine lv_iload_n hx hb dX4_layPoints_87 rfl (lv_at hl 3 rfl) ?_
            refine lv_iload_n hx hb dX4_layPoints_88 rfl (lv_at hl 2 rfl) ?_
            refine lv_iconst (v := 1) hx hb dX4_layPoints_89 (by decide) ?_
            refine lv_isub hx hb dX4_layPoints_90 ?_
            refine go_i (ru_V (n := 2) ⟨hx, hb, hml, hown, hts⟩ hk hP (c_X4_standing l D cI cL cZ ad c_sr t_n t_r t_w s_w s_h s_c s_p s_s p_nx p_sz r_k r_r r_p l_z q_z t_t b_l b_b b_n r_t l_l l_b l_n q_l q_b q_n t_le s_cs u9.1 s_ha u9.2.1 pk ik s_ro u9.2.2 s_be s_se s_co pl pb pn il ib im l_a q_a hAd x2 (y1 - 1) _ rfl) (cwV 2 hts (gV q2_27 q2_29 qs1_3 q1_3 q2_30) rfl rfl rfl hd_X4_standing ⟨Nat.le_of_ble_eq_true rfl, Nat.le_of_ble_eq_true rfl⟩) (va_recv hk.1 hP (ci := 4) (q0 := 3) rfl rfl) rfl hl.1 rfl (Nat.le_of_ble_eq_true rfl) dX4_layPoints_91 ⟨Nat.zero_le _, Nat.zero_le _⟩) hS (fun _ h => h) (fun H locs hP hS => ?_)
            have hP : va_P D vwCl (cw ad cI cL cZ c_sr t_n t_r t_w s_w s_h s_c s_p s_s p_nx p_sz r_k r_r r_p l_z q_z t_t b_l b_b b_n r_t l_l l_b l_n q_l q_b q_n t_le s_cs u9.1 s_ha u9.2.1 pk ik s_ro u9.2.2 s_be s_se s_co pl pb pn il ib im l_a q_a) H := hP
            refine lv_goto (tgt := 99) hx hb dX4_layPoints_94 (by decide) ?_
            obtain ⟨u13, hu13⟩ : ∃ z, f_X4_layPointSide ((y1 * (s_w + 1)) + x2) 2 (f_X4_standing x2 (y1 - 1) s_w s_h) u9.1 u9.2.1 u9.2.2 = z := ⟨_, rfl⟩
            have hr := (bd_eq hu13).symm.trans hr
            refine go_v (ru_V (n := 3) ⟨hx, hb, hml, hown, hts⟩ hk hP (c_X4_layPointSide l D cI cL cZ ad c_sr t_n t_r t_w s_w s_h s_c s_p s_s p_nx p_sz r_k r_r r_p l_z q_z t_t b_l b_b b_n r_t l_l l_b l_n q_l q_b q_n t_le s_cs u9.1 s_ha u9.2.1 pk ik s_ro u9.2.2 s_be s_se s_co pl pb pn il ib im l_a q_a hAd ((y1 * (s_w + 1)) + x2) 2 (f_X4_standing x2 (y1 - 1) s_w s_h) _ hu13) (cwV 3 hts (gV q2_42 q2_44 qs1_5 q1_3 q2_45) rfl rfl rfl hd_X4_layPointSide ⟨Nat.le_of_ble_eq_true rfl, Nat.le_of_ble_eq_true rfl⟩) (va_recv hk.1 hP (ci := 4) (q0 := 3) rfl rfl) rfl hl.1 rfl (Nat.le_of_ble_eq_true rfl) dX4_layPoints_99 ⟨Nat.zero_le _, Nat.zero_le _⟩) hS (fun _ h => h) (fun H locs hP hS => ?_)
            have hP : va_P D vwCl (cw ad cI cL cZ c_sr t_n t_r t_w s_w s_h s_c s_p s_s p_nx p_sz r_k r_r r_p l_z q_z t_t b_l b_b b_n r_t l_l l_b l_n q_l q_b q_n t_le s_cs u13.1 s_ha u13.2.1 pk ik s_ro u13.2.2 s_be s_se s_co pl pb pn il ib im l_a q_a) H := hP
            refine lv_aload_n hx hb dX4_layPoints_102 rfl (lv_at hl 1 rfl) ?_
            refine lv_iload_n hx hb dX4_layPoints_103 rfl (lv_at hl 0 rfl) ?_
            refine lv_iconst (v := 3) hx hb dX4_layPoints_104 (by decide) ?_
            refine lv_iload_n hx hb dX4_layPoints_105 rfl (lv_at hl 2 rfl) ?_
            refine lv_aload_n hx hb dX4_layPoints_106 rfl (lv_at hl 1 rfl) ?_
            refine va_get (D := D) (ci := 4) (v := .int s_h) (C := RX4) (T := TX4) (N := 14) hx hb hts u_X4 hown hk.1 hP 3 rfl rfl 1 (by decide) (hts _ q1_58) (fun _ h9 => h9) rfl dX4_layPoints_107 ?_
            refine lv_icmp_ge (tgt := 122) hx hb dX4_layPoints_110 (by decide) (fun c110 => ?_) (fun c110 => ?_)
            · have hr := (if_pos c110).symm.trans hr
              refine lv_bipush (v := (-9)) hx hb dX4_layPoints_122 (by decide) ?_
              obtain ⟨u14, hu14⟩ : ∃ z, f_X4_layPointSide ((y1 * (s_w + 1)) + x2) 3 ((-9)) u13.1 u13.2.1 u13.2.2 = z := ⟨_, rfl⟩
              have hr := (bd_eq hu14).symm.trans hr
              refine go_v (ru_V (n := 3) ⟨hx, hb, hml, hown, hts⟩ hk hP (c_X4_layPointSide l D cI cL cZ ad c_sr t_n t_r t_w s_w s_h s_c s_p s_s p_nx p_sz r_k r_r r_p l_z q_z t_t b_l b_b b_n r_t l_l l_b l_n q_l q_b q_n t_le s_cs u13.1 s_ha u13.2.1 pk ik s_ro u13.2.2 s_be s_se s_co pl pb pn il ib im l_a q_a hAd ((y1 * (s_w + 1)) + x2) 3 ((-9)) _ hu14) (cwV 3 hts (gV q2_42 q2_44 qs1_5 q1_3 q2_45) rfl rfl rfl hd_X4_layPointSide ⟨Nat.le_of_ble_eq_true rfl, Nat.le_of_ble_eq_true rfl⟩) (va_recv hk.1 hP (ci := 4) (q0 := 3) rfl rfl) rfl hl.1 rfl (Nat.le_of_ble_eq_true rfl) dX4_layPoints_124 ⟨Nat.zero_le _, Nat.zero_le _⟩) hS (fun _ h => h) (fun H locs hP hS => ?_)
              have hP : va_P D vwCl (cw ad cI cL cZ c_sr t_n t_r t_w s_w s_h s_c s_p s_s p_nx p_sz r_k r_r r_p l_z q_z t_t b_l b_b b_n r_t l_l l_b l_n q_l q_b q_n t_le s_cs u14.1 s_ha u14.2.1 pk ik s_ro u14.2.2 s_be s_se s_co pl pb pn il ib im l_a q_a) H := hP
              refine lv_iinc (v := x2 + 1) (lv' := [(2, .int (x2 + 1)), (3, .int ((y1 * (s_w + 1)) + x2)), (0, .ref (ad 3)), (1, .int y1)]) hx hb dX4_layPoints_127 hl (k := 3) rfl rfl (by decide) rfl (fun ls hl => ?_)
              refine lv_goto (tgt := 12) hx hb dX4_layPoints_130 (by decide) ?_
              exact ih (x2 + 1) u14.1 u14.2.1 u14.2.2 _ _ _ (fuE_s hf c17 hw) hr hP hS (lv_sub hl [2, 3, 0] rfl)
            · have hr := (if_neg c110).symm.trans hr
              refine lv_aload_n hx hb dX4_layPoints_113 rfl (lv_at hl 1 rfl) ?_
              refine lv_iload_n hx hb dX4_layPoints_114 rfl (lv_at hl 3 rfl) ?_
              refine lv_iload_n hx hb dX4_layPoints_115 rfl (lv_at hl 2 rfl) ?_
              refine go_i (ru_V (n := 2) ⟨hx, hb, hml, hown, hts⟩ hk hP (c_X4_standing l D cI cL cZ ad c_sr t_n t_r t_w s_w s_h s_c s_p s_s p_nx p_sz r_k r_r r_p l_z q_z t_t b_l b_b b_n r_t l_l l_b l_n q_l q_b q_n t_le s_cs u13.1 s_ha u13.2.1 pk ik s_ro u13.2.2 s_be s_se s_co pl pb pn il ib im l_a q_a hAd x2 y1 _ rfl) (cwV 2 hts (gV q2_27 q2_29 qs1_3 q1_3 q2_30) rfl rfl rfl hd_X4_standing ⟨Nat.le_of_ble_eq_true rfl, Nat.le_of_ble_eq_true rfl⟩) (va_recv hk.1 hP (ci := 4) (q0 := 3) rfl rfl) rfl hl.1 rfl (Nat.le_of_ble_eq_true rfl) dX4_layPoints_116 ⟨Nat.zero_le _, Nat.zero_le _⟩) hS (fun _ h => h) (fun H locs hP hS => ?_)
              have hP : va_P D vwCl (cw ad cI cL cZ c_sr t_n t_r t_w s_w s_h s_c s_p s_s p_nx p_sz r_k r_r r_p l_z q_z t_t b_l b_b b_n r_t l_l l_b l_n q_l q_b q_n t_le s_cs u13.1 s_ha u13.2.1 pk ik s_ro u13.2.2 s_be s_se s_co pl pb pn il ib im l_a q_a) H := hP
              refine lv_goto (tgt := 124) hx hb dX4_layPoints_119 (by decide) ?_
              obtain ⟨u15, hu15⟩ : ∃ z, f_X4_layPointSide ((y1 * (s_w + 1)) + x2) 3 (f_X4_standing x2 y1 s_w s_h) u13.1 u13.2.1 u13.2.2 = z := ⟨_, rfl⟩
              have hr := (bd_eq hu15).symm.trans hr
              refine go_v (ru_V (n := 3) ⟨hx, hb, hml, hown, hts⟩ hk hP (c_X4_layPointSide l D cI cL cZ ad c_sr t_n t_r t_w s_w s_h s_c s_p s_s p_nx p_sz r_k r_r r_p l_z q_z t_t b_l b_b b_n r_t l_l l_b l_n q_l q_b q_n t_le s_cs u13.1 s_ha u13.2.1 pk ik s_ro u13.2.2 s_be s_se s_co pl pb pn il ib im l_a q_a hAd ((y1 * (s_w + 1)) + x2) 3 (f_X4_standing x2 y1 s_w s_h) _ hu15) (cwV 3 hts (gV q2_42 q2_44 qs1_5 q1_3 q2_45) rfl rfl rfl hd_X4_layPointSide ⟨Nat.le_of_ble_eq_true rfl, Nat.le_of_ble_eq_true rfl⟩) (va_recv hk.1 hP (ci := 4) (q0 := 3) rfl rfl) rfl hl.1 rfl (Nat.le_of_ble_eq_true rfl) dX4_layPoints_124 ⟨Nat.zero_le _, Nat.zero_le _⟩) hS (fun _ h => h) (fun H locs hP hS => ?_)
              have hP : va_P D vwCl (cw ad cI cL cZ c_sr t_n t_r t_w s_w s_h s_c s_p s_s p_nx p_sz r_k r_r r_p l_z q_z t_t b_l b_b b_n r_t l_l l_b l_n q_l q_b q_n t_le s_cs u15.1 s_ha u15.2.1 pk ik s_ro u15.2.2 s_be s_se s_co pl pb pn il ib im l_a q_a) H := hP
              refine lv_iinc (v := x2 + 1) (lv' := [(2, .int (x2 + 1)), (3, .int ((y1 * (s_w + 1)) + x2)), (0, .ref (ad 3)), (1, .int y1)]) hx hb dX4_layPoints_127 hl (k := 3) rfl rfl (by decide) rfl (fun ls hl => ?_)
              refine lv_goto (tgt := 12) hx hb dX4_layPoints_130 (by decide) ?_
              exact ih (x2 + 1) u15.1 u15.2.1 u15.2.2 _ _ _ (fuE_s hf c17 hw) hr hP hS (lv_sub hl [2, 3, 0] rfl)
      · have hr := (if_neg c35).symm.trans hr
        refine lv_aload_n hx hb dX4_layPoints_38 rfl (lv_at hl 1 rfl) ?_
        refine lv_iload_n hx hb dX4_layPoints_39 rfl (lv_at hl 3 rfl) ?_
        refine lv_iconst (v := 1) hx hb dX4_layPoints_40 (by decide) ?_
        refine lv_isub hx hb dX4_layPoints_41 ?_
        refine lv_iload_n hx hb dX4_layPoints_42 rfl (lv_at hl 2 rfl) ?_
        refine go_i (ru_V (n := 2) ⟨hx, hb, hml, hown, hts⟩ hk hP (c_X4_lying l D cI cL cZ ad c_sr t_n t_r t_w s_w s_h s_c s_p s_s p_nx p_sz r_k r_r r_p l_z q_z t_t b_l b_b b_n r_t l_l l_b l_n q_l q_b q_n t_le s_cs s_ps s_ha s_en pk ik s_ro s_me s_be s_se s_co pl pb pn il ib im l_a q_a hAd (x2 - 1) y1 _ rfl) (cwV 2 hts (gV q2_3 q2_5 qs1_1 q1_3 q2_6) rfl rfl rfl hd_X4_lying ⟨Nat.le_of_ble_eq_true rfl, Nat.le_of_ble_eq_true rfl⟩) (va_recv hk.1 hP (ci := 4) (q0 := 3) rfl rfl) rfl hl.1 rfl (Nat.le_of_ble_eq_true rfl) dX4_layPoints_43 ⟨Nat.zero_le _, Nat.zero_le _⟩) hS (fun _ h => h) (fun H locs hP hS => ?_)
        have hP : va_P D vwCl (cw ad cI cL cZ c_sr t_n t_r t_w s_w s_h s_c s_p s_s p_nx p_sz r_k r_r r_p l_z q_z t_t b_l b_b b_n r_t l_l l_b l_n q_l q_b q_n t_le s_cs s_ps s_ha s_en pk ik s_ro s_me s_be s_se s_co pl pb pn il ib im l_a q_a) H := hP
        refine lv_goto (tgt := 51) hx hb dX4_layPoints_46 (by decide) ?_
        obtain ⟨u16, hu16⟩ : ∃ z, f_X4_layPointSide ((y1 * (s_w + 1)) + x2) 0 (f_X4_lying (x2 - 1) y1 s_w) s_ps s_en s_me = z := ⟨_, rfl⟩
        have hr := (bd_eq hu16).symm.trans hr
        refine go_v (ru_V (n := 3) ⟨hx, hb, hml, hown, hts⟩ hk hP (c_X4_layPointSide l D cI cL cZ ad c_sr t_n t_r t_w s_w s_h s_c s_p s_s p_nx p_sz r_k r_r r_p l_z q_z t_t b_l b_b b_n r_t l_l l_b l_n q_l q_b q_n t_le s_cs s_ps s_ha s_en pk ik s_ro s_me s_be s_se s_co pl pb pn il ib im l_a q_a hAd ((y1 * (s_w + 1)) + x2) 0 (f_X4_lying (x2 - 1) y1 s_w) _ hu16) (cwV 3 hts (gV q2_42 q2_44 qs1_5 q1_3 q2_45) rfl rfl rfl hd_X4_layPointSide ⟨Nat.le_of_ble_eq_true rfl, Nat.le_of_ble_eq_true rfl⟩) (va_recv hk.1 hP (ci := 4) (q0 := 3) rfl rfl) rfl hl.1 rfl (Nat.le_of_ble_eq_true rfl) dX4_layPoints_51 ⟨Nat.zero_le _, Nat.zero_le _⟩) hS (fun _ h => h) (fun H locs hP hS => ?_)
        have hP : va_P D vwCl (cw ad cI cL cZ c_sr t_n t_r t_w s_w s_h s_c s_p s_s p_nx p_sz r_k r_r r_p l_z q_z t_t b_l b_b b_n r_t l_l l_b l_n q_l q_b q_n t_le s_cs u16.1 s_ha u16.2.1 pk ik s_ro u16.2.2 s_be s_se s_co pl pb pn il ib im l_a q_a) H := hP
        refine lv_aload_n hx hb dX4_layPoints_54 rfl (lv_at hl 1 rfl) ?_
        refine lv_iload_n hx hb dX4_layPoints_55 rfl (lv_at hl 0 rfl) ?_
        refine lv_iconst (v := 1) hx hb dX4_layPoints_56 (by decide) ?_
        refine lv_iload_n hx hb dX4_layPoints_57 rfl (lv_at hl 3 rfl) ?_
        refine lv_aload_n hx hb dX4_layPoints_58 rfl (lv_at hl 1 rfl) ?_
        refine va_get (D := D) (ci := 4) (v := .int s_w) (C := RX4) (T := TX4) (N := 14) hx hb hts u_X4 hown hk.1 hP 3 rfl rfl 0 (by decide) (hts _ q1_56) (fun _ h9 => h9) rfl dX4_layPoints_59 ?_
        refine lv_icmp_ge (tgt := 74) hx hb dX4_layPoints_62 (by decide) (fun c62 => ?_) (fun c62 => ?_)
        · have hr := (if_pos c62).symm.trans hr
          refine lv_bipush (v := (-9)) hx hb dX4_layPoints_74 (by decide) ?_
          obtain ⟨u17, hu17⟩ : ∃ z, f_X4_layPointSide ((y1 * (s_w + 1)) + x2) 1 ((-9)) u16.1 u16.2.1 u16.2.2 = z := ⟨_, rfl⟩
          have hr := (bd_eq hu17).symm.trans hr
          refine go_v (ru_V (n := 3) ⟨hx, hb, hml, hown, hts⟩ hk hP (c_X4_layPointSide l D cI cL cZ ad c_sr t_n t_r t_w s_w s_h s_c s_p s_s p_nx p_sz r_k r_r r_p l_z q_z t_t b_l b_b b_n r_t l_l l_b l_n q_l q_b q_n t_le s_cs u16.1 s_ha u16.2.1 pk ik s_ro u16.2.2 s_be s_se s_co pl pb pn il ib im l_a q_a hAd ((y1 * (s_w + 1)) + x2) 1 ((-9)) _ hu17) (cwV 3 hts (gV q2_42 q2_44 qs1_5 q1_3 q2_45) rfl rfl rfl hd_X4_layPointSide ⟨Nat.le_of_ble_eq_true rfl, Nat.le_of_ble_eq_true rfl⟩) (va_recv hk.1 hP (ci := 4) (q0 := 3) rfl rfl) rfl hl.1 rfl (Nat.le_of_ble_eq_true rfl) dX4_layPoints_76 ⟨Nat.zero_le _, Nat.zero_le _⟩) hS (fun _ h => h) (fun H locs hP hS => ?_)
          have hP : va_P D vwCl (cw ad cI cL cZ c_sr t_n t_r t_w s_w s_h s_c s_p s_s p_nx p_sz r_k r_r r_p l_z q_z t_t b_l b_b b_n r_t l_l l_b l_n q_l q_b q_n t_le s_cs u17.1 s_ha u17.2.1 pk ik s_ro u17.2.2 s_be s_se s_co pl pb pn il ib im l_a q_a) H := hP
          refine lv_aload_n hx hb dX4_layPoints_79 rfl (lv_at hl 1 rfl) ?_
          refine lv_iload_n hx hb dX4_layPoints_80 rfl (lv_at hl 0 rfl) ?_
          refine lv_iconst (v := 2) hx hb dX4_layPoints_81 (by decide) ?_
          refine lv_iload_n hx hb dX4_layPoints_82 rfl (lv_at hl 2 rfl) ?_
          refine lv_if_le (tgt := 97) hx hb dX4_layPoints_83 (by decide) (fun c83 => ?_) (fun c83 => ?_)
          · have hr := (if_pos c83).symm.trans hr
            refine lv_bipush (v := (-9)) hx hb dX4_layPoints_97 (by decide) ?_
            obtain ⟨u18, hu18⟩ : ∃ z, f_X4_layPointSide ((y1 * (s_w + 1)) + x2) 2 ((-9)) u17.1 u17.2.1 u17.2.2 = z := ⟨_, rfl⟩
            have hr := (bd_eq hu18).symm.trans hr
            refine go_v (ru_V (n := 3) ⟨hx, hb, hml, hown, hts⟩ hk hP (c_X4_layPointSide l D cI cL cZ ad c_sr t_n t_r t_w s_w s_h s_c s_p s_s p_nx p_sz r_k r_r r_p l_z q_z t_t b_l b_b b_n r_t l_l l_b l_n q_l q_b q_n t_le s_cs u17.1 s_ha u17.2.1 pk ik s_ro u17.2.2 s_be s_se s_co pl pb pn il ib im l_a q_a hAd ((y1 * (s_w + 1)) + x2) 2 ((-9)) _ hu18) (cwV 3 hts (gV q2_42 q2_44 qs1_5 q1_3 q2_45) rfl rfl rfl hd_X4_layPointSide ⟨Nat.le_of_ble_eq_true rfl, Nat.le_of_ble_eq_true rfl⟩) (va_recv hk.1 hP (ci := 4) (q0 := 3) rfl rfl) rfl hl.1 rfl (Nat.le_of_ble_eq_true rfl) dX4_layPoints_99 ⟨Nat.zero_le _, Nat.zero_le _⟩) hS (fun _ h => h) (fun H locs hP hS => ?_)
            have hP : va_P D vwCl (cw ad cI cL cZ c_sr t_n t_r t_w s_w s_h s_c s_p s_s p_nx p_sz r_k r_r r_p l_z q_z t_t b_l b_b b_n r_t l_l l_b l_n q_l q_b q_n t_le s_cs u18.1 s_ha u18.2.1 pk ik s_ro u18.2.2 s_be s_se s_co pl pb pn il ib im l_a q_a) H := hP
            refine lv_aload_n hx hb dX4_layPoints_102 rfl (lv_at hl 1 rfl) ?_
            refine lv_iload_n hx hb dX4_layPoints_103 rfl (lv_at hl 0 rfl) ?_
            refine lv_iconst (v := 3) hx hb dX4_layPoints_104 (by decide) ?_
            refine lv_iload_n hx hb dX4_layPoints_105 rfl (lv_at hl 2 rfl) ?_
            refine lv_aload_n hx hb dX4_layPoints_106 rfl (lv_at hl 1 rfl) ?_
            refine va_get (D := D) (ci := 4) (v := .int s_h) (C := RX4) (T := TX4) (N := 14) hx hb hts u_X4 hown hk.1 hP 3 rfl rfl 1 (by decide) (hts _ q1_58) (fun _ h9 => h9) rfl dX4_layPoints_107 ?_
            refine lv_icmp_ge (tgt := 122) hx hb dX4_layPoints_110 (by decide) (fun c110 => ?_) (fun c110 => ?_)
            · have hr := (if_pos c110).symm.trans hr
              refine lv_bipush (v := (-9)) hx hb dX4_layPoints_122 (by decide) ?_
              obtain ⟨u19, hu19⟩ : ∃ z, f_X4_layPointSide ((y1 * (s_w + 1)) + x2) 3 ((-9)) u18.1 u18.2.1 u18.2.2 = z := ⟨_, rfl⟩
              have hr := (bd_eq hu19).symm.trans hr
              refine go_v (ru_V (n := 3) ⟨hx, hb, hml, hown, hts⟩ hk hP (c_X4_layPointSide l D cI cL cZ ad c_sr t_n t_r t_w s_w s_h s_c s_p s_s p_nx p_sz r_k r_r r_p l_z q_z t_t b_l b_b b_n r_t l_l l_b l_n q_l q_b q_n t_le s_cs u18.1 s_ha u18.2.1 pk ik s_ro u18.2.2 s_be s_se s_co pl pb pn il ib im l_a q_a hAd ((y1 * (s_w + 1)) + x2) 3 ((-9)) _ hu19) (cwV 3 hts (gV q2_42 q2_44 qs1_5 q1_3 q2_45) rfl rfl rfl hd_X4_layPointSide ⟨Nat.le_of_ble_eq_true rfl, Nat.le_of_ble_eq_true rfl⟩) (va_recv hk.1 hP (ci := 4) (q0 := 3) rfl rfl) rfl hl.1 rfl (Nat.le_of_ble_eq_true rfl) dX4_layPoints_124 ⟨Nat.zero_le _, Nat.zero_le _⟩) hS (fun _ h => h) (fun H locs hP hS => ?_)
              have hP : va_P D vwCl (cw ad cI cL cZ c_sr t_n t_r t_w s_w s_h s_c s_p s_s p_nx p_sz r_k r_r r_p l_z q_z t_t b_l b_b b_n r_t l_l l_b l_n q_l q_b q_n t_le s_cs u19.1 s_ha u19.2.1 pk ik s_ro u19.2.2 s_be s_se s_co pl pb pn il ib im l_a q_a) H := hP
              refine lv_iinc (v := x2 + 1) (lv' := [(2, .int (x2 + 1)), (3, .int ((y1 * (s_w + 1)) + x2)), (0, .ref (ad 3)), (1, .int y1)]) hx hb dX4_layPoints_127 hl (k := 3) rfl rfl (by decide) rfl (fun ls hl => ?_)
              refine lv_goto (tgt := 12) hx hb dX4_layPoints_130 (by decide) ?_
              exact ih (x2 + 1) u19.1 u19.2.1 u19.2.2 _ _ _ (fuE_s hf c17 hw) hr hP hS (lv_sub hl [2, 3, 0] rfl)
            · have hr := (if_neg c110).symm.trans hr
              refine lv_aload_n hx hb dX4_layPoints_113 rfl (lv_at hl 1 rfl) ?_
              refine lv_iload_n hx hb dX4_layPoints_114 rfl (lv_at hl 3 rfl) ?_
              refine lv_iload_n hx hb dX4_layPoints_115 rfl (lv_at hl 2 rfl) ?_
              refine go_i (ru_V (n := 2) ⟨hx, hb, hml, hown, hts⟩ hk hP (c_X4_standing l D cI cL cZ ad c_sr t_n t_r t_w s_w s_h s_c s_p s_s p_nx p_sz r_k r_r r_p l_z q_z t_t b_l b_b b_n r_t l_l l_b l_n q_l q_b q_n t_le s_cs u18.1 s_ha u18.2.1 pk ik s_ro u18.2.2 s_be s_se s_co pl pb pn il ib im l_a q_a hAd x2 y1 _ rfl) (cwV 2 hts (gV q2_27 q2_29 qs1_3 q1_3 q2_30) rfl rfl rfl hd_X4_standing ⟨Nat.le_of_ble_eq_true rfl, Nat.le_of_ble_eq_true rfl⟩) (va_recv hk.1 hP (ci := 4) (q0 := 3) rfl rfl) rfl hl.1 rfl (Nat.le_of_ble_eq_true rfl) dX4_layPoints_116 ⟨Nat.zero_le _, Nat.zero_le _⟩) hS (fun _ h => h) (fun H locs hP hS => ?_)
              have hP : va_P D vwCl (cw ad cI cL cZ c_sr t_n t_r t_w s_w s_h s_c s_p s_s p_nx p_sz r_k r_r r_p l_z q_z t_t b_l b_b b_n r_t l_l l_b l_n q_l q_b q_n t_le s_cs u18.1 s_ha u18.2.1 pk ik s_ro u18.2.2 s_be s_se s_co pl pb pn il ib im l_a q_a) H := hP
              refine lv_goto (tgt := 124) hx hb dX4_layPoints_119 (by decide) ?_
              obtain ⟨u20, hu20⟩ : ∃ z, f_X4_layPointSide ((y1 * (s_w + 1)) + x2) 3 (f_X4_standing x2 y1 s_w s_h) u18.1 u18.2.1 u18.2.2 = z := ⟨_, rfl⟩
              have hr := (bd_eq hu20).symm.trans hr
              refine go_v (ru_V (n := 3) ⟨hx, hb, hml, hown, hts⟩ hk hP (c_X4_layPointSide l D cI cL cZ ad c_sr t_n t_r t_w s_w s_h s_c s_p s_s p_nx p_sz r_k r_r r_p l_z q_z t_t b_l b_b b_n r_t l_l l_b l_n q_l q_b q_n t_le s_cs u18.1 s_ha u18.2.1 pk ik s_ro u18.2.2 s_be s_se s_co pl pb pn il ib im l_a q_a hAd ((y1 * (s_w + 1)) + x2) 3 (f_X4_standing x2 y1 s_w s_h) _ hu20) (cwV 3 hts (gV q2_42 q2_44 qs1_5 q1_3 q2_45) rfl rfl rfl hd_X4_layPointSide ⟨Nat.le_of_ble_eq_true rfl, Nat.le_of_ble_eq_true rfl⟩) (va_recv hk.1 hP (ci := 4) (q0 := 3) rfl rfl) rfl hl.1 rfl (Nat.le_of_ble_eq_true rfl) dX4_layPoints_124 ⟨Nat.zero_le _, Nat.zero_le _⟩) hS (fun _ h => h) (fun H locs hP hS => ?_)
              have hP : va_P D vwCl (cw ad cI cL cZ c_sr t_n t_r t_w s_w s_h s_c s_p s_s p_nx p_sz r_k r_r r_p l_z q_z t_t b_l b_b b_n r_t l_l l_b l_n q_l q_b q_n t_le s_cs u20.1 s_ha u20.2.1 pk ik s_ro u20.2.2 s_be s_se s_co pl pb pn il ib im l_a q_a) H := hP
              refine lv_iinc (v := x2 + 1) (lv' := [(2, .int (x2 + 1)), (3, .int ((y1 * (s_w + 1)) + x2)), (0, .ref (ad 3)), (1, .int y1)]) hx hb dX4_layPoints_127 hl (k := 3) rfl rfl (by decide) rfl (fun ls hl => ?_)
              refine lv_goto (tgt := 12) hx hb dX4_layPoints_130 (by decide) ?_
              exact ih (x2 + 1) u20.1 u20.2.1 u20.2.2 _ _ _ (fuE_s hf c17 hw) hr hP hS (lv_sub hl [2, 3, 0] rfl)
          · have hr := (if_neg c83).symm.trans hr
            refine lv_aload_n hx hb dX4_layPoints_86 rfl (lv_at hl 1 rfl) ?_
            refine lv_iload_n hx hb dX4_layPoints_87 rfl (lv_at hl 3 rfl) ?_
            refine lv_iload_n hx hb dX4_layPoints_88 rfl (lv_at hl 2 rfl) ?_
            refine lv_iconst (v := 1) hx hb dX4_layPoints_89 (by decide) ?_
            refine lv_isub hx hb dX4_layPoints_90 ?_
            refine go_i (ru_V (n := 2) ⟨hx, hb, hml, hown, hts⟩ hk hP (c_X4_standing l D cI cL cZ ad c_sr t_n t_r t_w s_w s_h s_c s_p s_s p_nx p_sz r_k r_r r_p l_z q_z t_t b_l b_b b_n r_t l_l l_b l_n q_l q_b q_n t_le s_cs u17.1 s_ha u17.2.1 pk ik s_ro u17.2.2 s_be s_se s_co pl pb pn il ib im l_a q_a hAd x2 (y1 - 1) _ rfl) (cwV 2 hts (gV q2_27 q2_29 qs1_3 q1_3 q2_30) rfl rfl rfl hd_X4_standing ⟨Nat.le_of_ble_eq_true rfl, Nat.le_of_ble_eq_true rfl⟩) (va_recv hk.1 hP (ci := 4) (q0 := 3) rfl rfl) rfl hl.1 rfl (Nat.le_of_ble_eq_true rfl) dX4_layPoints_91 ⟨Nat.zero_le _, Nat.zero_le _⟩) hS (fun _ h => h) (fun H locs hP hS => ?_)
            have hP : va_P D vwCl (cw ad cI cL cZ c_sr t_n t_r t_w s_w s_h s_c s_p s_s p_nx p_sz r_k r_r r_p l_z q_z t_t b_l b_b b_n r_t l_l l_b l_n q_l q_b q_n t_le s_cs u17.1 s_ha u17.2.1 pk ik s_ro u17.2.2 s_be s_se s_co pl pb pn il ib im l_a q_a) H := hP
            refine lv_goto (tgt := 99) hx hb dX4_layPoints_94 (by decide) ?_
            obtain ⟨u21, hu21⟩ : ∃ z, f_X4_layPointSide ((y1 * (s_w + 1)) + x2) 2 (f_X4_standing x2 (y1 - 1) s_w s_h) u17.1 u17.2.1 u17.2.2 = z := ⟨_, rfl⟩
            have hr := (bd_eq hu21).symm.trans hr
            refine go_v (ru_V (n := 3) ⟨hx, hb, hml, hown, hts⟩ hk hP (c_X4_layPointSide l D cI cL cZ ad c_sr t_n t_r t_w s_w s_h s_c s_p s_s p_nx p_sz r_k r_r r_p l_z q_z t_t b_l b_b b_n r_t l_l l_b l_n q_l q_b q_n t_le s_cs u17.1 s_ha u17.2.1 pk ik s_ro u17.2.2 s_be s_se s_co pl pb pn il ib im l_a q_a hAd ((y1 * (s_w + 1)) + x2) 2 (f_X4_standing x2 (y1 - 1) s_w s_h) _ hu21) (cwV 3 hts (gV q2_42 q2_44 qs1_5 q1_3 q2_45) rfl rfl rfl hd_X4_layPointSide ⟨Nat.le_of_ble_eq_true rfl, Nat.le_of_ble_eq_true rfl⟩) (va_recv hk.1 hP (ci := 4) (q0 := 3) rfl rfl) rfl hl.1 rfl (Nat.le_of_ble_eq_true rfl) dX4_layPoints_99 ⟨Nat.zero_le _, Nat.zero_le _⟩) hS (fun _ h => h) (fun H locs hP hS => ?_)
            have hP : va_P D vwCl (cw ad cI cL cZ c_sr t_n t_r t_w s_w s_h s_c s_p s_s p_nx p_sz r_k r_r r_p l_z q_z t_t b_l b_b b_n r_t l_l l_b l_n q_l q_b q_n t_le s_cs u21.1 s_ha u21.2.1 pk ik s_ro u21.2.2 s_be s_se s_co pl pb pn il ib im l_a q_a) H := hP
            refine lv_aload_n hx hb dX4_layPoints_102 rfl (lv_at hl 1 rfl) ?_
            refine lv_iload_n hx hb dX4_layPoints_103 rfl (lv_at hl 0 rfl) ?_
            refine lv_iconst (v := 3) hx hb dX4_layPoints_104 (by decide) ?_
            refine lv_iload_n hx hb dX4_layPoints_105 rfl (lv_at hl 2 rfl) ?_
            refine lv_aload_n hx hb dX4_layPoints_106 rfl (lv_at hl 1 rfl) ?_
            refine va_get (D := D) (ci := 4) (v := .int s_h) (C := RX4) (T := TX4) (N := 14) hx hb hts u_X4 hown hk.1 hP 3 rfl rfl 1 (by decide) (hts _ q1_58) (fun _ h9 => h9) rfl dX4_layPoints_107 ?_
            refine lv_icmp_ge (tgt := 122) hx hb dX4_layPoints_110 (by decide) (fun c110 => ?_) (fun c110 => ?_)
            · have hr := (if_pos c110).symm.trans hr
              refine lv_bipush (v := (-9)) hx hb dX4_layPoints_122 (by decide) ?_
              obtain ⟨u22, hu22⟩ : ∃ z, f_X4_layPointSide ((y1 * (s_w + 1)) + x2) 3 ((-9)) u21.1 u21.2.1 u21.2.2 = z := ⟨_, rfl⟩
              have hr := (bd_eq hu22).symm.trans hr
              refine go_v (ru_V (n := 3) ⟨hx, hb, hml, hown, hts⟩ hk hP (c_X4_layPointSide l D cI cL cZ ad c_sr t_n t_r t_w s_w s_h s_c s_p s_s p_nx p_sz r_k r_r r_p l_z q_z t_t b_l b_b b_n r_t l_l l_b l_n q_l q_b q_n t_le s_cs u21.1 s_ha u21.2.1 pk ik s_ro u21.2.2 s_be s_se s_co pl pb pn il ib im l_a q_a hAd ((y1 * (s_w + 1)) + x2) 3 ((-9)) _ hu22) (cwV 3 hts (gV q2_42 q2_44 qs1_5 q1_3 q2_45) rfl rfl rfl hd_X4_layPointSide ⟨Nat.le_of_ble_eq_true rfl, Nat.le_of_ble_eq_true rfl⟩) (va_recv hk.1 hP (ci := 4) (q0 := 3) rfl rfl) rfl hl.1 rfl (Nat.le_of_ble_eq_true rfl) dX4_layPoints_124 ⟨Nat.zero_le _, Nat.zero_le _⟩) hS (fun _ h => h) (fun H locs hP hS => ?_)
              have hP : va_P D vwCl (cw ad cI cL cZ c_sr t_n t_r t_w s_w s_h s_c s_p s_s p_nx p_sz r_k r_r r_p l_z q_z t_t b_l b_b b_n r_t l_l l_b l_n q_l q_b q_n t_le s_cs u22.1 s_ha u22.2.1 pk ik s_ro u22.2.2 s_be s_se s_co pl pb pn il ib im l_a q_a) H := hP
              refine lv_iinc (v := x2 + 1) (lv' := [(2, .int (x2 + 1)), (3, .int ((y1 * (s_w + 1)) + x2)), (0, .ref (ad 3)), (1, .int y1)]) hx hb dX4_layPoints_127 hl (k := 3) rfl rfl (by decide) rfl (fun ls hl => ?_)
              refine lv_goto (tgt := 12) hx hb dX4_layPoints_130 (by decide) ?_
              exact ih (x2 + 1) u22.1 u22.2.1 u22.2.2 _ _ _ (fuE_s hf c17 hw) hr hP hS (lv_sub hl [2, 3, 0] rfl)
            · have hr := (if_neg c110).symm.trans hr
              refine lv_aload_n hx hb dX4_layPoints_113 rfl (lv_at hl 1 rfl) ?_
              refine lv_iload_n hx hb dX4_layPoints_114 rfl (lv_at hl 3 rfl) ?_
              refine lv_iload_n hx hb dX4_layPoints_115 rfl (lv_at hl 2 rfl) ?_
              refine go_i (ru_V (n := 2) ⟨hx, hb, hml, hown, hts⟩ hk hP (c_X4_standing l D cI cL cZ ad c_sr t_n t_r t_w s_w s_h s_c s_p s_s p_nx p_sz r_k r_r r_p l_z q_z t_t b_l b_b b_n r_t l_l l_b l_n q_l q_b q_n t_le s_cs u21.1 s_ha u21.2.1 pk ik s_ro u21.2.2 s_be s_se s_co pl pb pn il ib im l_a q_a hAd x2 y1 _ rfl) (cwV 2 hts (gV q2_27 q2_29 qs1_3 q1_3 q2_30) rfl rfl rfl hd_X4_standing ⟨Nat.le_of_ble_eq_true rfl, Nat.le_of_ble_eq_true rfl⟩) (va_recv hk.1 hP (ci := 4) (q0 := 3) rfl rfl) rfl hl.1 rfl (Nat.le_of_ble_eq_true rfl) dX4_layPoints_116 ⟨Nat.zero_le _, Nat.zero_le _⟩) hS (fun _ h => h) (fun H locs hP hS => ?_)
              have hP : va_P D vwCl (cw ad cI cL cZ c_sr t_n t_r t_w s_w s_h s_c s_p s_s p_nx p_sz r_k r_r r_p l_z q_z t_t b_l b_b b_n r_t l_l l_b l_n q_l q_b q_n t_le s_cs u21.1 s_ha u21.2.1 pk ik s_ro u21.2.2 s_be s_se s_co pl pb pn il ib im l_a q_a) H := hP
              refine lv_goto (tgt := 124) hx hb dX4_layPoints_119 (by decide) ?_
              obtain ⟨u23, hu23⟩ : ∃ z, f_X4_layPointSide ((y1 * (s_w + 1)) + x2) 3 (f_X4_standing x2 y1 s_w s_h) u21.1 u21.2.1 u21.2.2 = z := ⟨_, rfl⟩
              have hr := (bd_eq hu23).symm.trans hr
              refine go_v (ru_V (n := 3) ⟨hx, hb, hml, hown, hts⟩ hk hP (c_X4_layPointSide l D cI cL cZ ad c_sr t_n t_r t_w s_w s_h s_c s_p s_s p_nx p_sz r_k r_r r_p l_z q_z t_t b_l b_b b_n r_t l_l l_b l_n q_l q_b q_n t_le s_cs u21.1 s_ha u21.2.1 pk ik s_ro u21.2.2 s_be s_se s_co pl pb pn il ib im l_a q_a hAd ((y1 * (s_w + 1)) + x2) 3 (f_X4_standing x2 y1 s_w s_h) _ hu23) (cwV 3 hts (gV q2_42 q2_44 qs1_5 q1_3 q2_45) rfl rfl rfl hd_X4_layPointSide ⟨Nat.le_of_ble_eq_true rfl, Nat.le_of_ble_eq_true rfl⟩) (va_recv hk.1 hP (ci := 4) (q0 := 3) rfl rfl) rfl hl.1 rfl (Nat.le_of_ble_eq_true rfl) dX4_layPoints_124 ⟨Nat.zero_le _, Nat.zero_le _⟩) hS (fun _ h => h) (fun H locs hP hS => ?_)
              have hP : va_P D vwCl (cw ad cI cL cZ c_sr t_n t_r t_w s_w s_h s_c s_p s_s p_nx p_sz r_k r_r r_p l_z q_z t_t b_l b_b b_n r_t l_l l_b l_n q_l q_b q_n t_le s_cs u23.1 s_ha u23.2.1 pk ik s_ro u23.2.2 s_be s_se s_co pl pb pn il ib im l_a q_a) H := hP
              refine lv_iinc (v := x2 + 1) (lv' := [(2, .int (x2 + 1)), (3, .int ((y1 * (s_w + 1)) + x2)), (0, .ref (ad 3)), (1, .int y1)]) hx hb dX4_layPoints_127 hl (k := 3) rfl rfl (by decide) rfl (fun ls hl => ?_)
              refine lv_goto (tgt := 12) hx hb dX4_layPoints_130 (by decide) ?_
              exact ih (x2 + 1) u23.1 u23.2.1 u23.2.2 _ _ _ (fuE_s hf c17 hw) hr hP hS (lv_sub hl [2, 3, 0] rfl)
        · have hr := (if_neg c62).symm.trans hr
          refine lv_aload_n hx hb dX4_layPoints_65 rfl (lv_at hl 1 rfl) ?_
          refine lv_iload_n hx hb dX4_layPoints_66 rfl (lv_at hl 3 rfl) ?_
          refine lv_iload_n hx hb dX4_layPoints_67 rfl (lv_at hl 2 rfl) ?_
          refine go_i (ru_V (n := 2) ⟨hx, hb, hml, hown, hts⟩ hk hP (c_X4_lying l D cI cL cZ ad c_sr t_n t_r t_w s_w s_h s_c s_p s_s p_nx p_sz r_k r_r r_p l_z q_z t_t b_l b_b b_n r_t l_l l_b l_n q_l q_b q_n t_le s_cs u16.1 s_ha u16.2.1 pk ik s_ro u16.2.2 s_be s_se s_co pl pb pn il ib im l_a q_a hAd x2 y1 _ rfl) (cwV 2 hts (gV q2_3 q2_5 qs1_1 q1_3 q2_6) rfl rfl rfl hd_X4_lying ⟨Nat.le_of_ble_eq_true rfl, Nat.le_of_ble_eq_true rfl⟩) (va_recv hk.1 hP (ci := 4) (q0 := 3) rfl rfl) rfl hl.1 rfl (Nat.le_of_ble_eq_true rfl) dX4_layPoints_68 ⟨Nat.zero_le _, Nat.zero_le _⟩) hS (fun _ h => h) (fun H locs hP hS => ?_)
          have hP : va_P D vwCl (cw ad cI cL cZ c_sr t_n t_r t_w s_w s_h s_c s_p s_s p_nx p_sz r_k r_r r_p l_z q_z t_t b_l b_b b_n r_t l_l l_b l_n q_l q_b q_n t_le s_cs u16.1 s_ha u16.2.1 pk ik s_ro u16.2.2 s_be s_se s_co pl pb pn il ib im l_a q_a) H := hP
          refine lv_goto (tgt := 76) hx hb dX4_layPoints_71 (by decide) ?_
          obtain ⟨u24, hu24⟩ : ∃ z, f_X4_layPointSide ((y1 * (s_w + 1)) + x2) 1 (f_X4_lying x2 y1 s_w) u16.1 u16.2.1 u16.2.2 = z := ⟨_, rfl⟩
          have hr := (bd_eq hu24).symm.trans hr
          refine go_v (ru_V (n := 3) ⟨hx, hb, hml, hown, hts⟩ hk hP (c_X4_layPointSide l D cI cL cZ ad c_sr t_n t_r t_w s_w s_h s_c s_p s_s p_nx p_sz r_k r_r r_p l_z q_z t_t b_l b_b b_n r_t l_l l_b l_n q_l q_b q_n t_le s_cs u16.1 s_ha u16.2.1 pk ik s_ro u16.2.2 s_be s_se s_co pl pb pn il ib im l_a q_a hAd ((y1 * (s_w + 1)) + x2) 1 (f_X4_lying x2 y1 s_w) _ hu24) (cwV 3 hts (gV q2_42 q2_44 qs1_5 q1_3 q2_45) rfl rfl rfl hd_X4_layPointSide ⟨Nat.le_of_ble_eq_true rfl, Nat.le_of_ble_eq_true rfl⟩) (va_recv hk.1 hP (ci := 4) (q0 := 3) rfl rfl) rfl hl.1 rfl (Nat.le_of_ble_eq_true rfl) dX4_layPoints_76 ⟨Nat.zero_le _, Nat.zero_le _⟩) hS (fun _ h => h) (fun H locs hP hS => ?_)
          have hP : va_P D vwCl (cw ad cI cL cZ c_sr t_n t_r t_w s_w s_h s_c s_p s_s p_nx p_sz r_k r_r r_p l_z q_z t_t b_l b_b b_n r_t l_l l_b l_n q_l q_b q_n t_le s_cs u24.1 s_ha u24.2.1 pk ik s_ro u24.2.2 s_be s_se s_co pl pb pn il ib im l_a q_a) H := hP
          refine lv_aload_n hx hb dX4_layPoints_79 rfl (lv_at hl 1 rfl) ?_
          refine lv_iload_n hx hb dX4_layPoints_80 rfl (lv_at hl 0 rfl) ?_
          refine lv_iconst (v := 2) hx hb dX4_layPoints_81 (by decide) ?_
          refine lv_iload_n hx hb dX4_layPoints_82 rfl (lv_at hl 2 rfl) ?_
          refine lv_if_le (tgt := 97) hx hb dX4_layPoints_83 (by decide) (fun c83 => ?_) (fun c83 => ?_)
          · have hr := (if_pos c83).symm.trans hr
            refine lv_bipush (v := (-9)) hx hb dX4_layPoints_97 (by decide) ?_
            obtain ⟨u25, hu25⟩ : ∃ z, f_X4_layPointSide ((y1 * (s_w + 1)) + x2) 2 ((-9)) u24.1 u24.2.1 u24.2.2 = z := ⟨_, rfl⟩
            have hr := (bd_eq hu25).symm.trans hr
            refine go_v (ru_V (n := 3) ⟨hx, hb, hml, hown, hts⟩ hk hP (c_X4_layPointSide l D cI cL cZ ad c_sr t_n t_r t_w s_w s_h s_c s_p s_s p_nx p_sz r_k r_r r_p l_z q_z t_t b_l b_b b_n r_t l_l l_b l_n q_l q_b q_n t_le s_cs u24.1 s_ha u24.2.1 pk ik s_ro u24.2.2 s_be s_se s_co pl pb pn il ib im l_a q_a hAd ((y1 * (s_w + 1)) + x2) 2 ((-9)) _ hu25) (cwV 3 hts (gV q2_42 q2_44 qs1_5 q1_3 q2_45) rfl rfl rfl hd_X4_layPointSide ⟨Nat.le_of_ble_eq_true rfl, Nat.le_of_ble_eq_true rfl⟩) (va_recv hk.1 hP (ci := 4) (q0 := 3) rfl rfl) rfl hl.1 rfl (Nat.le_of_ble_eq_true rfl) dX4_layPoints_99 ⟨Nat.zero_le _, Nat.zero_le _⟩) hS (fun _ h => h) (fun H locs hP hS => ?_)
            have hP : va_P D vwCl (cw ad cI cL cZ c_sr t_n t_r t_w s_w s_h s_c s_p s_s p_nx p_sz r_k r_r r_p l_z q_z t_t b_l b_b b_n r_t l_l l_b l_n q_l q_b q_n t_le s_cs u25.1 s_ha u25.2.1 pk ik s_ro u25.2.2 s_be s_se s_co pl pb pn il ib im l_a q_a) H := hP
            refine lv_aload_n hx hb dX4_layPoints_102 rfl (lv_at hl 1 rfl) ?_
            refine lv_iload_n hx hb dX4_layPoints_103 rfl (lv_at hl 0 rfl) ?_
            refine lv_iconst (v := 3) hx hb dX4_layPoints_104 (by decide) ?_
            refine lv_iload_n hx hb dX4_layPoints_105 rfl (lv_at hl 2 rfl) ?_
            refine lv_aload_n hx hb dX4_layPoints_106 rfl (lv_at hl 1 rfl) ?_
            refine va_get (D := D) (ci := 4) (v := .int s_h) (C := RX4) (T := TX4) (N := 14) hx hb hts u_X4 hown hk.1 hP 3 rfl rfl 1 (by decide) (hts _ q1_58) (fun _ h9 => h9) rfl dX4_layPoints_107 ?_
            refine lv_icmp_ge (tgt := 122) hx hb dX4_layPoints_110 (by decide) (fun c110 => ?_) (fun c110 => ?_)
            · have hr := (if_pos c110).symm.trans hr
              refine lv_bipush (v := (-9)) hx hb dX4_layPoints_122 (by decide) ?_
              obtain ⟨u26, hu26⟩ : ∃ z, f_X4_layPointSide ((y1 * (s_w + 1)) + x2) 3 ((-9)) u25.1 u25.2.1 u25.2.2 = z := ⟨_, rfl⟩
              have hr := (bd_eq hu26).symm.trans hr
              refine go_v (ru_V (n := 3) ⟨hx, hb, hml, hown, hts⟩ hk hP (c_X4_layPointSide l D cI cL cZ ad c_sr t_n t_r t_w s_w s_h s_c s_p s_s p_nx p_sz r_k r_r r_p l_z q_z t_t b_l b_b b_n r_t l_l l_b l_n q_l q_b q_n t_le s_cs u25.1 s_ha u25.2.1 pk ik s_ro u25.2.2 s_be s_se s_co pl pb pn il ib im l_a q_a hAd ((y1 * (s_w + 1)) + x2) 3 ((-9)) _ hu26) (cwV 3 hts (gV q2_42 q2_44 qs1_5 q1_3 q2_45) rfl rfl rfl hd_X4_layPointSide ⟨Nat.le_of_ble_eq_true rfl, Nat.le_of_ble_eq_true rfl⟩) (va_recv hk.1 hP (ci := 4) (q0 := 3) rfl rfl) rfl hl.1 rfl (Nat.le_of_ble_eq_true rfl) dX4_layPoints_124 ⟨Nat.zero_le _, Nat.zero_le _⟩) hS (fun _ h => h) (fun H locs hP hS => ?_)
              have hP : va_P D vwCl (cw ad cI cL cZ c_sr t_n t_r t_w s_w s_h s_c s_p s_s p_nx p_sz r_k r_r r_p l_z q_z t_t b_l b_b b_n r_t l_l l_b l_n q_l q_b q_n t_le s_cs u26.1 s_ha u26.2.1 pk ik s_ro u26.2.2 s_be s_se s_co pl pb pn il ib im l_a q_a) H := hP
              refine lv_iinc (v := x2 + 1) (lv' := [(2, .int (x2 + 1)), (3, .int ((y1 * (s_w + 1)) + x2)), (0, .ref (ad 3)), (1, .int y1)]) hx hb dX4_layPoints_127 hl (k := 3) rfl rfl (by decide) rfl (fun ls hl => ?_)
              refine lv_goto (tgt := 12) hx hb dX4_layPoints_130 (by decide) ?_
              exact ih (x2 + 1) u26.1 u26.2.1 u26.2.2 _ _ _ (fuE_s hf c17 hw) hr hP hS (lv_sub hl [2, 3, 0] rfl)
            · have hr := (if_neg c110).symm.trans hr
              refine lv_aload_n hx hb dX4_layPoints_113 rfl (lv_at hl 1 rfl) ?_
              refine lv_iload_n hx hb dX4_layPoints_114 rfl (lv_at hl 3 rfl) ?_
              refine lv_iload_n hx hb dX4_layPoints_115 rfl (lv_at hl 2 rfl) ?_
              refine go_i (ru_V (n := 2) ⟨hx, hb, hml, hown, hts⟩ hk hP (c_X4_standing l D cI cL cZ ad c_sr t_n t_r t_w s_w s_h s_c s_p s_s p_nx p_sz r_k r_r r_p l_z q_z t_t b_l b_b b_n r_t l_l l_b l_n q_l q_b q_n t_le s_cs u25.1 s_ha u25.2.1 pk ik s_ro u25.2.2 s_be s_se s_co pl pb pn il ib im l_a q_a hAd x2 y1 _ rfl) (cwV 2 hts (gV q2_27 q2_29 qs1_3 q1_3 q2_30) rfl rfl rfl hd_X4_standing ⟨Nat.le_of_ble_eq_true rfl, Nat.le_of_ble_eq_true rfl⟩) (va_recv hk.1 hP (ci := 4) (q0 := 3) rfl rfl) rfl hl.1 rfl (Nat.le_of_ble_eq_true rfl) dX4_layPoints_116 ⟨Nat.zero_le _, Nat.zero_le _⟩) hS (fun _ h => h) (fun H locs hP hS => ?_)
              have hP : va_P D vwCl (cw ad cI cL cZ c_sr t_n t_r t_w s_w s_h s_c s_p s_s p_nx p_sz r_k r_r r_p l_z q_z t_t b_l b_b b_n r_t l_l l_b l_n q_l q_b q_n t_le s_cs u25.1 s_ha u25.2.1 pk ik s_ro u25.2.2 s_be s_se s_co pl pb pn il ib im l_a q_a) H := hP
              refine lv_goto (tgt := 124) hx hb dX4_layPoints_119 (by decide) ?_
              obtain ⟨u27, hu27⟩ : ∃ z, f_X4_layPointSide ((y1 * (s_w + 1)) + x2) 3 (f_X4_standing x2 y1 s_w s_h) u25.1 u25.2.1 u25.2.2 = z := ⟨_, rfl⟩
              have hr := (bd_eq hu27).symm.trans hr
              refine go_v (ru_V (n := 3) ⟨hx, hb, hml, hown, hts⟩ hk hP (c_X4_layPointSide l D cI cL cZ ad c_sr t_n t_r t_w s_w s_h s_c s_p s_s p_nx p_sz r_k r_r r_p l_z q_z t_t b_l b_b b_n r_t l_l l_b l_n q_l q_b q_n t_le s_cs u25.1 s_ha u25.2.1 pk ik s_ro u25.2.2 s_be s_se s_co pl pb pn il ib im l_a q_a hAd ((y1 * (s_w + 1)) + x2) 3 (f_X4_standing x2 y1 s_w s_h) _ hu27) (cwV 3 hts (gV q2_42 q2_44 qs1_5 q1_3 q2_45) rfl rfl rfl hd_X4_layPointSide ⟨Nat.le_of_ble_eq_true rfl, Nat.le_of_ble_eq_true rfl⟩) (va_recv hk.1 hP (ci := 4) (q0 := 3) rfl rfl) rfl hl.1 rfl (Nat.le_of_ble_eq_true rfl) dX4_layPoints_124 ⟨Nat.zero_le _, Nat.zero_le _⟩) hS (fun _ h => h) (fun H locs hP hS => ?_)
              have hP : va_P D vwCl (cw ad cI cL cZ c_sr t_n t_r t_w s_w s_h s_c s_p s_s p_nx p_sz r_k r_r r_p l_z q_z t_t b_l b_b b_n r_t l_l l_b l_n q_l q_b q_n t_le s_cs u27.1 s_ha u27.2.1 pk ik s_ro u27.2.2 s_be s_se s_co pl pb pn il ib im l_a q_a) H := hP
              refine lv_iinc (v := x2 + 1) (lv' := [(2, .int (x2 + 1)), (3, .int ((y1 * (s_w + 1)) + x2)), (0, .ref (ad 3)), (1, .int y1)]) hx hb dX4_layPoints_127 hl (k := 3) rfl rfl (by decide) rfl (fun ls hl => ?_)
              refine lv_goto (tgt := 12) hx hb dX4_layPoints_130 (by decide) ?_
              exact ih (x2 + 1) u27.1 u27.2.1 u27.2.2 _ _ _ (fuE_s hf c17 hw) hr hP hS (lv_sub hl [2, 3, 0] rfl)
          · have hr := (if_neg c83).symm.trans hr
            refine lv_aload_n hx hb dX4_layPoints_86 rfl (lv_at hl 1 rfl) ?_
            refine lv_iload_n hx hb dX4_layPoints_87 rfl (lv_at hl 3 rfl) ?_
            refine lv_iload_n hx hb dX4_layPoints_88 rfl (lv_at hl 2 rfl) ?_
            refine lv_iconst (v := 1) hx hb dX4_layPoints_89 (by decide) ?_
            refine lv_isub hx hb dX4_layPoints_90 ?_
            refine go_i (ru_V (n := 2) ⟨hx, hb, hml, hown, hts⟩ hk hP (c_X4_standing l D cI cL cZ ad c_sr t_n t_r t_w s_w s_h s_c s_p s_s p_nx p_sz r_k r_r r_p l_z q_z t_t b_l b_b b_n r_t l_l l_b l_n q_l q_b q_n t_le s_cs u24.1 s_ha u24.2.1 pk ik s_ro u24.2.2 s_be s_se s_co pl pb pn il ib im l_a q_a hAd x2 (y1 - 1) _ rfl) (cwV 2 hts (gV q2_27 q2_29 qs1_3 q1_3 q2_30) rfl rfl rfl hd_X4_standing ⟨Nat.le_of_ble_eq_true rfl, Nat.le_of_ble_eq_true rfl⟩) (va_recv hk.1 hP (ci := 4) (q0 := 3) rfl rfl) rfl hl.1 rfl (Nat.le_of_ble_eq_true rfl) dX4_layPoints_91 ⟨Nat.zero_le _, Nat.zero_le _⟩) hS (fun _ h => h) (fun H locs hP hS => ?_)
            have hP : va_P D vwCl (cw ad cI cL cZ c_sr t_n t_r t_w s_w s_h s_c s_p s_s p_nx p_sz r_k r_r r_p l_z q_z t_t b_l b_b b_n r_t l_l l_b l_n q_l q_b q_n t_le s_cs u24.1 s_ha u24.2.1 pk ik s_ro u24.2.2 s_be s_se s_co pl pb pn il ib im l_a q_a) H := hP
            refine lv_goto (tgt := 99) hx hb dX4_layPoints_94 (by decide) ?_
            obtain ⟨u28, hu28⟩ : ∃ z, f_X4_layPointSide ((y1 * (s_w + 1)) + x2) 2 (f_X4_standing x2 (y1 - 1) s_w s_h) u24.1 u24.2.1 u24.2.2 = z := ⟨_, rfl⟩
            have hr := (bd_eq hu28).symm.trans hr
            refine go_v (ru_V (n := 3) ⟨hx, hb, hml, hown, hts⟩ hk hP (c_X4_layPointSide l D cI cL cZ ad c_sr t_n t_r t_w s_w s_h s_c s_p s_s p_nx p_sz r_k r_r r_p l_z q_z t_t b_l b_b b_n r_t l_l l_b l_n q_l q_b q_n t_le s_cs u24.1 s_ha u24.2.1 pk ik s_ro u24.2.2 s_be s_se s_co pl pb pn il ib im l_a q_a hAd ((y1 * (s_w + 1)) + x2) 2 (f_X4_standing x2 (y1 - 1) s_w s_h) _ hu28) (cwV 3 hts (gV q2_42 q2_44 qs1_5 q1_3 q2_45) rfl rfl rfl hd_X4_layPointSide ⟨Nat.le_of_ble_eq_true rfl, Nat.le_of_ble_eq_true rfl⟩) (va_recv hk.1 hP (ci := 4) (q0 := 3) rfl rfl) rfl hl.1 rfl (Nat.le_of_ble_eq_true rfl) dX4_layPoints_99 ⟨Nat.zero_le _, Nat.zero_le _⟩) hS (fun _ h => h) (fun H locs hP hS => ?_)
            have hP : va_P D vwCl (cw ad cI cL cZ c_sr t_n t_r t_w s_w s_h s_c s_p s_s p_nx p_sz r_k r_r r_p l_z q_z t_t b_l b_b b_n r_t l_l l_b l_n q_l q_b q_n t_le s_cs u28.1 s_ha u28.2.1 pk ik s_ro u28.2.2 s_be s_se s_co pl pb pn il ib im l_a q_a) H := hP
            refine lv_aload_n hx hb dX4_layPoints_102 rfl (lv_at hl 1 rfl) ?_
            refine lv_iload_n hx hb dX4_layPoints_103 rfl (lv_at hl 0 rfl) ?_
            refine lv_iconst (v := 3) hx hb dX4_layPoints_104 (by decide) ?_
            refine lv_iload_n hx hb dX4_layPoints_105 rfl (lv_at hl 2 rfl) ?_
            refine lv_aload_n hx hb dX4_layPoints_106 rfl (lv_at hl 1 rfl) ?_
            refine va_get (D := D) (ci := 4) (v := .int s_h) (C := RX4) (T := TX4) (N := 14) hx hb hts u_X4 hown hk.1 hP 3 rfl rfl 1 (by decide) (hts _ q1_58) (fun _ h9 => h9) rfl dX4_layPoints_107 ?_
            refine lv_icmp_ge (tgt := 122) hx hb dX4_layPoints_110 (by decide) (fun c110 => ?_) (fun c110 => ?_)
            · have hr := (if_pos c110).symm.trans hr
              refine lv_bipush (v := (-9)) hx hb dX4_layPoints_122 (by decide) ?_
              obtain ⟨u29, hu29⟩ : ∃ z, f_X4_layPointSide ((y1 * (s_w + 1)) + x2) 3 ((-9)) u28.1 u28.2.1 u28.2.2 = z := ⟨_, rfl⟩
              have hr := (bd_eq hu29).symm.trans hr
              refine go_v (ru_V (n := 3) ⟨hx, hb, hml, hown, hts⟩ hk hP (c_X4_layPointSide l D cI cL cZ ad c_sr t_n t_r t_w s_w s_h s_c s_p s_s p_nx p_sz r_k r_r r_p l_z q_z t_t b_l b_b b_n r_t l_l l_b l_n q_l q_b q_n t_le s_cs u28.1 s_ha u28.2.1 pk ik s_ro u28.2.2 s_be s_se s_co pl pb pn il ib im l_a q_a hAd ((y1 * (s_w + 1)) + x2) 3 ((-9)) _ hu29) (cwV 3 hts (gV q2_42 q2_44 qs1_5 q1_3 q2_45) rfl rfl rfl hd_X4_layPointSide ⟨Nat.le_of_ble_eq_true rfl, Nat.le_of_ble_eq_true rfl⟩) (va_recv hk.1 hP (ci := 4) (q0 := 3) rfl rfl) rfl hl.1 rfl (Nat.le_of_ble_eq_true rfl) dX4_layPoints_124 ⟨Nat.zero_le _, Nat.zero_le _⟩) hS (fun _ h => h) (fun H locs hP hS => ?_)
              have hP : va_P D vwCl (cw ad cI cL cZ c_sr t_n t_r t_w s_w s_h s_c s_p s_s p_nx p_sz r_k r_r r_p l_z q_z t_t b_l b_b b_n r_t l_l l_b l_n q_l q_b q_n t_le s_cs u29.1 s_ha u29.2.1 pk ik s_ro u29.2.2 s_be s_se s_co pl pb pn il ib im l_a q_a) H := hP
              refine lv_iinc (v := x2 + 1) (lv' := [(2, .int (x2 + 1)), (3, .int ((y1 * (s_w + 1)) + x2)), (0, .ref (ad 3)), (1, .int y1)]) hx hb dX4_layPoints_127 hl (k := 3) rfl rfl (by decide) rfl (fun ls hl => ?_)
              refine lv_goto (tgt := 12) hx hb dX4_layPoints_130 (by decide) ?_
              exact ih (x2 + 1) u29.1 u29.2.1 u29.2.2 _ _ _ (fuE_s hf c17 hw) hr hP hS (lv_sub hl [2, 3, 0] rfl)
            · have hr := (if_neg c110).symm.trans hr
              refine lv_aload_n hx hb dX4_layPoints_113 rfl (lv_at hl 1 rfl) ?_
              refine lv_iload_n hx hb dX4_layPoints_114 rfl (lv_at hl 3 rfl) ?_
              refine lv_iload_n hx hb dX4_layPoints_115 rfl (lv_at hl 2 rfl) ?_
              refine go_i (ru_V (n := 2) ⟨hx, hb, hml, hown, hts⟩ hk hP (c_X4_standing l D cI cL cZ ad c_sr t_n t_r t_w s_w s_h s_c s_p s_s p_nx p_sz r_k r_r r_p l_z q_z t_t b_l b_b b_n r_t l_l l_b l_n q_l q_b q_n t_le s_cs u28.1 s_ha u28.2.1 pk ik s_ro u28.2.2 s_be s_se s_co pl pb pn il ib im l_a q_a hAd x2 y1 _ rfl) (cwV 2 hts (gV q2_27 q2_29 qs1_3 q1_3 q2_30) rfl rfl rfl hd_X4_standing ⟨Nat.le_of_ble_eq_true rfl, Nat.le_of_ble_eq_true rfl⟩) (va_recv hk.1 hP (ci := 4) (q0 := 3) rfl rfl) rfl hl.1 rfl (Nat.le_of_ble_eq_true rfl) dX4_layPoints_116 ⟨Nat.zero_le _, Nat.zero_le _⟩) hS (fun _ h => h) (fun H locs hP hS => ?_)
              have hP : va_P D vwCl (cw ad cI cL cZ c_sr t_n t_r t_w s_w s_h s_c s_p s_s p_nx p_sz r_k r_r r_p l_z q_z t_t b_l b_b b_n r_t l_l l_b l_n q_l q_b q_n t_le s_cs u28.1 s_ha u28.2.1 pk ik s_ro u28.2.2 s_be s_se s_co pl pb pn il ib im l_a q_a) H := hP
              refine lv_goto (tgt := 124) hx hb dX4_layPoints_119 (by decide) ?_
              obtain ⟨u30, hu30⟩ : ∃ z, f_X4_layPointSide ((y1 * (s_w + 1)) + x2) 3 (f_X4_standing x2 y1 s_w s_h) u28.1 u28.2.1 u28.2.2 = z := ⟨_, rfl⟩
              have hr := (bd_eq hu30).symm.trans hr
              refine go_v (ru_V (n := 3) ⟨hx, hb, hml, hown, hts⟩ hk hP (c_X4_layPointSide l D cI cL cZ ad c_sr t_n t_r t_w s_w s_h s_c s_p s_s p_nx p_sz r_k r_r r_p l_z q_z t_t b_l b_b b_n r_t l_l l_b l_n q_l q_b q_n t_le s_cs u28.1 s_ha u28.2.1 pk ik s_ro u28.2.2 s_be s_se s_co pl pb pn il ib im l_a q_a hAd ((y1 * (s_w + 1)) + x2) 3 (f_X4_standing x2 y1 s_w s_h) _ hu30) (cwV 3 hts (gV q2_42 q2_44 qs1_5 q1_3 q2_45) rfl rfl rfl hd_X4_layPointSide ⟨Nat.le_of_ble_eq_true rfl, Nat.le_of_ble_eq_true rfl⟩) (va_recv hk.1 hP (ci := 4) (q0 := 3) rfl rfl) rfl hl.1 rfl (Nat.le_of_ble_eq_true rfl) dX4_layPoints_124 ⟨Nat.zero_le _, Nat.zero_le _⟩) hS (fun _ h => h) (fun H locs hP hS => ?_)
              have hP : va_P D vwCl (cw ad cI cL cZ c_sr t_n t_r t_w s_w s_h s_c s_p s_s p_nx p_sz r_k r_r r_p l_z q_z t_t b_l b_b b_n r_t l_l l_b l_n q_l q_b q_n t_le s_cs u30.1 s_ha u30.2.1 pk ik s_ro u30.2.2 s_be s_se s_co pl pb pn il ib im l_a q_a) H := hP
              refine lv_iinc (v := x2 + 1) (lv' := [(2, .int (x2 + 1)), (3, .int ((y1 * (s_w + 1)) + x2)), (0, .ref (ad 3)), (1, .int y1)]) hx hb dX4_layPoints_127 hl (k := 3) rfl rfl (by decide) rfl (fun ls hl => ?_)
              refine lv_goto (tgt := 12) hx hb dX4_layPoints_130 (by decide) ?_
              exact ih (x2 + 1) u30.1 u30.2.1 u30.2.2 _ _ _ (fuE_s hf c17 hw) hr hP hS (lv_sub hl [2, 3, 0] rfl)
set_option maxHeartbeats 4000000 in
set_option maxRecDepth 100000 in
theorem lp_X4_layPoints_2 (l : Launch) (D : va_G) (cI cL cZ : ClassId) (ad : Nat → Nat) (c_sr t_n t_r t_w s_w s_h s_c s_p s_s p_nx p_sz r_k r_r r_p l_z q_z : Int32) (t_t b_l b_b b_n r_t l_l l_b l_n q_l q_b q_n : Int64) (t_le s_cs s_ha pk ik : Nat → Int32) (s_ro s_be s_se s_co pl pb pn il ib im l_a q_a : Nat → Int64) {p : Program} {e : Env} {s : State} {m : MethodId} {args : Array Value} {below : List Frame} {meth : Method} {c : Code} {Q : State → Prop} (C : Cx p s m args meth c cX4_layPoints 4 none W0 RX4 D cI cL cZ) (hAd : cInj ad) (hw : s_w.toInt < 2147483647) (hh : s_h.toInt < 2147483647) {β : Type} (k0 : (Nat → Int32) → (Nat → Int32) → (Nat → Int64) → β) (r : β)
    (h0 : ∀ (s_ps s_en : Nat → Int32) (s_me : Nat → Int64) (H : Heap) (locs : List Loc) (ls : Array Slot), k0 s_ps s_en s_me = r → va_P D vwCl (cw ad cI cL cZ c_sr t_n t_r t_w s_w s_h s_c s_p s_s p_nx p_sz r_k r_r r_p l_z q_z t_t b_l b_b b_n r_t l_l l_b l_n q_l q_b q_n t_le s_cs s_ps s_ha s_en pk ik s_ro s_me s_be s_se s_co pl pb pn il ib im l_a q_a) H → va_S (cAd ad) s.heap H locs → lv_has ls 4 [] → W p l e (rmS 2 46) s m args below meth c H locs 0 0 Q (F0 m 139 ls [])) :
    ∀ (n : Nat) (x1 : Int32) (s_ps s_en : Nat → Int32) (s_me : Nat → Int64) (H : Heap) (locs : List Loc) (ls : Array Slot), fuE n s_h x1 → F_X4_layPoints_2 s_w s_h k0 n x1 s_ps s_en s_me = r → va_P D vwCl (cw ad cI cL cZ c_sr t_n t_r t_w s_w s_h s_c s_p s_s p_nx p_sz r_k r_r r_p l_z q_z t_t b_l b_b b_n r_t l_l l_b l_n q_l q_b q_n t_le s_cs s_ps s_ha s_en pk ik s_ro s_me s_be s_se s_co pl pb pn il ib im l_a q_a) H → va_S (cAd ad) s.heap H locs → lv_has ls 4 [(0, .ref (ad 3)), (1, .int x1)] → W p l e (rmS 2 46) s m args below meth c H locs 0 0 Q (F0 m 2 ls []) := by
  obtain ⟨hx, hb, hml, hrt, hlocks, hown, hts, hk⟩ := C
  intro n
  induction n with
  | zero =>
    intro x1 s_ps s_en s_me H locs ls hf
    exact absurd hf.1 (Nat.lt_irrefl 0)
  | succ n ih =>
    intro x1 s_ps s_en s_me H locs ls hf hr hP hS hl
    rw [F_X4_layPoints_2] at hr
    refine lv_iload_n hx hb dX4_layPoints_2 rfl (lv_at hl 1 rfl) ?_
    refine lv_aload_n hx hb dX4_layPoints_3 rfl (lv_at hl 0 rfl) ?_
    refine va_get (D := D) (ci := 4) (v := .int s_h) (C := RX4) (T := TX4) (N := 14) hx hb hts u_X4 hown hk.1 hP 3 rfl rfl 1 (by decide) (hts _ q1_58) (fun _ h9 => h9) rfl dX4_layPoints_4 ?_
    refine lv_icmp_gt (tgt := 139) hx hb dX4_layPoints_7 (by decide) (fun c7 => ?_) (fun c7 => ?_)
    · have hr := (if_pos c7).symm.trans hr
      exact h0 s_ps s_en s_me _ _ _ hr hP hS (lv_sub hl [] rfl)
    · have hr := (if_neg c7).symm.trans hr
      refine lv_iconst (v := 0) hx hb dX4_layPoints_10 (by decide) ?_
      refine lv_istore_n (lv' := [(2, .int 0), (0, .ref (ad 3)), (1, .int x1)]) hx hb dX4_layPoints_11 rfl hl (by decide) rfl (fun ls hl => ?_)
      refine lp_X4_layPoints_12 l D cI cL cZ ad c_sr t_n t_r t_w s_w s_h s_c s_p s_s p_nx p_sz r_k r_r r_p l_z q_z t_t b_l b_b b_n r_t l_l l_b l_n q_l q_b q_n t_le s_cs s_ha pk ik s_ro s_be s_se s_co pl pb pn il ib im l_a q_a ⟨hx, hb, hml, hrt, hlocks, hown, hts, hk⟩ hAd x1 hw hh _ _ (fun z31 z32 z33 H locs ls hr hP hS hl => ?_) (fue s_w (0 : Int32)) 0 s_ps s_en s_me _ _ _ (fuE_0 (by decide)) hr hP hS (lv_sub hl [1, 2, 0] rfl)
      refine lv_iinc (v := x1 + 1) (lv' := [(1, .int (x1 + 1)), (0, .ref (ad 3))]) hx hb dX4_layPoints_133 hl (k := 1) rfl rfl (by decide) rfl (fun ls hl => ?_)
      refine lv_goto (tgt := 2) hx hb dX4_layPoints_136 (by decide) ?_
      exact ih (x1 + 1) z31 z32 z33 _ _ _ (fuE_s hf c7 hh) hr hP hS (lv_sub hl [1, 0] rfl)
set_option maxHeartbeats 4000000 in
set_option maxRecDepth 100000 in
theorem c_X4_layPoints (l : Launch) (D : va_G) (cI cL cZ : ClassId) (ad : Nat → Nat) (c_sr t_n t_r t_w s_w s_h s_c s_p s_s p_nx p_sz r_k r_r r_p l_z q_z : Int32) (t_t b_l b_b b_n r_t l_l l_b l_n q_l q_b q_n : Int64) (t_le s_cs s_ps s_ha s_en pk ik : Nat → Int32) (s_ro s_me s_be s_se s_co pl pb pn il ib im l_a q_a : Nat → Int64) (hAd : cInj ad) (r : (Nat → Int32) × (Nat → Int32) × (Nat → Int64)) (hr : f_X4_layPoints s_w s_h s_ps s_en s_me = r) (hw : s_w.toInt < 2147483647) (hh : s_h.toInt < 2147483647) : MV l yX4_layPoints (Cond.code yX4_layPoints cX4_layPoints 4 none :: W0) 2 46 D cI cL cZ (cAd ad) [.ref (ad 3)] (cw ad cI cL cZ c_sr t_n t_r t_w s_w s_h s_c s_p s_s p_nx p_sz r_k r_r r_p l_z q_z t_t b_l b_b b_n r_t l_l l_b l_n q_l q_b q_n t_le s_cs s_ps s_ha s_en pk ik s_ro s_me s_be s_se s_co pl pb pn il ib im l_a q_a) (cw ad cI cL cZ c_sr t_n t_r t_w s_w s_h s_c s_p s_s p_nx p_sz r_k r_r r_p l_z q_z t_t b_l b_b b_n r_t l_l l_b l_n q_l q_b q_n t_le s_cs r.1 s_ha r.2.1 pk ik s_ro r.2.2 s_be s_se s_co pl pb pn il ib im l_a q_a) := by
  refine mk_start (cc := cX4_layPoints) (maxL := 4) (ret := none) (by decide) rfl (Nat.le_of_ble_eq_true rfl) ?_
  intro p e s m below meth c ls C hP hS hl
  obtain ⟨hx, hb, hml, hrt, hlocks, hown, hts, hk⟩ := C
  have hown : s.vm.findClass RX4 = some m.cls := hown
  have hl : lv_has ls 4 [(0, .ref (ad 3))] := hl
  rw [f_X4_layPoints] at hr
  refine lv_iconst (v := 0) hx hb dX4_layPoints_0 (by decide) ?_
  refine lv_istore_n (lv' := [(1, .int 0), (0, .ref (ad 3))]) hx hb dX4_layPoints_1 rfl hl (by decide) rfl (fun ls hl => ?_)
  refine lp_X4_layPoints_2 l D cI cL cZ ad c_sr t_n t_r t_w s_w s_h s_c s_p s_s p_nx p_sz r_k r_r r_p l_z q_z t_t b_l b_b b_n r_t l_l l_b l_n q_l q_b q_n t_le s_cs s_ha pk ik s_ro s_be s_se s_co pl pb pn il ib im l_a q_a ⟨hx, hb, hml, hrt, hlocks, hown, hts, hk⟩ hAd hw hh _ _ (fun z34 z35 z36 H locs ls hr hP hS hl => ?_) (fue s_h (0 : Int32)) 0 s_ps s_en s_me _ _ _ (fuE_0 (by decide)) hr hP hS (lv_sub hl [1, 0] rfl)
  subst hr
  exact ret_v hx hb hrt hlocks hP hS dX4_layPoints_139
theorem hd_X4_layBesides : yX4_layBesides.cls = RX4 ∧ yX4_layBesides.cls ≠ "java/lang/invoke/MethodHandle" ∧ yX4_layBesides.cls ≠ "java/lang/invoke/VarHandle" ∧ (parseMethodDescriptor yX4_layBesides.desc).map (fun d => d.parameters.length) = some 0 := by decide +kernel
def F_X4_layBesides_2 (s_s : Int32) (s_en : Nat → Int32) (s_me : Nat → Int64) {β : Type} (k0 : (Nat → Int64) → β) : Nat → Int32 → (Nat → Int64) → β
  | 0, x1, s_be => k0 s_be
  | n + 1, x1, s_be => (if s_s ≤ x1 then k0 s_be else F_X4_layBesides_2 s_s s_en s_me k0 n (x1 + 1) (f_X7_put_ x1 ((f_X4_atPoint (f_X4_end x1 0 s_en) s_me) ||| (f_X4_atPoint (f_X4_end x1 1 s_en) s_me)) 40 s_be))
def f_X4_layBesides (s_s : Int32) (s_en : Nat → Int32) (s_me : Nat → Int64) (s_be : Nat → Int64) : (Nat → Int64) := F_X4_layBesides_2 s_s s_en s_me (fun z1 => z1) (fu s_s (0 : Int32)) 0 s_be
set_option maxHeartbeats 4000000 in
set_option maxRecDepth 100000 in
theorem lp_X4_layBesides_2 (l : Launch) (D : va_G) (cI cL cZ : ClassId) (ad : Nat → Nat) (c_sr t_n t_r t_w s_w s_h s_c s_p s_s p_nx p_sz r_k r_r r_p l_z q_z : Int32) (t_t b_l b_b b_n r_t l_l l_b l_n q_l q_b q_n : Int64) (t_le s_cs s_ps s_ha s_en pk ik : Nat → Int32) (s_ro s_me s_se s_co pl pb pn il ib im l_a q_a : Nat → Int64) {p : Program} {e : Env} {s : State} {m : MethodId} {args : Array Value} {below : List Frame} {meth : Method} {c : Code} {Q : State → Prop} (C : Cx p s m args meth c cX4_layBesides 2 none W0 RX4 D cI cL cZ) (hAd : cInj ad) {β : Type} (k0 : (Nat → Int64) → β) (r : β)
    (h0 : ∀ (s_be : Nat → Int64) (H : Heap) (locs : List Loc) (ls : Array Slot), k0 s_be = r → va_P D vwCl (cw ad cI cL cZ c_sr t_n t_r t_w s_w s_h s_c s_p s_s p_nx p_sz r_k r_r r_p l_z q_z t_t b_l b_b b_n r_t l_l l_b l_n q_l q_b q_n t_le s_cs s_ps s_ha s_en pk ik s_ro s_me s_be s_se s_co pl pb pn il ib im l_a q_a) H → va_S (cAd ad) s.heap H locs → lv_has ls 2 [] → W p l e (rmS 2 43) s m args below meth c H locs 0 0 Q (F0 m 45 ls [])) :
    ∀ (n : Nat) (x1 : Int32) (s_be : Nat → Int64) (H : Heap) (locs : List Loc) (ls : Array Slot), fuU n s_s x1 → F_X4_layBesides_2 s_s s_en s_me k0 n x1 s_be = r → va_P D vwCl (cw ad cI cL cZ c_sr t_n t_r t_w s_w s_h s_c s_p s_s p_nx p_sz r_k r_r r_p l_z q_z t_t b_l b_b b_n r_t l_l l_b l_n q_l q_b q_n t_le s_cs s_ps s_ha s_en pk ik s_ro s_me s_be s_se s_co pl pb pn il ib im l_a q_a) H → va_S (cAd ad) s.heap H locs → lv_has ls 2 [(0, .ref (ad 3)), (1, .int x1)] → W p l e (rmS 2 43) s m args below meth c H locs 0 0 Q (F0 m 2 ls []) := by
  obtain ⟨hx, hb, hml, hrt, hlocks, hown, hts, hk⟩ := C
  intro n
  induction n with
  | zero =>
    intro x1 s_be H locs ls hf
    exact absurd hf.1 (Nat.lt_irrefl 0)
  | succ n ih =>
    intro x1 s_be H locs ls hf hr hP hS hl
    rw [F_X4_layBesides_2] at hr
    refine lv_iload_n hx hb dX4_layBesides_2 rfl (lv_at hl 1 rfl) ?_
    refine lv_aload_n hx hb dX4_layBesides_3 rfl (lv_at hl 0 rfl) ?_
    refine va_get (D := D) (ci := 4) (v := .int s_s) (C := RX4) (T := TX4) (N := 14) hx hb hts u_X4 hown hk.1 hP 3 rfl rfl 4 (by decide) (hts _ q1_66) (fun _ h9 => h9) rfl dX4_layBesides_4 ?_
    refine lv_icmp_ge (tgt := 45) hx hb dX4_layBesides_7 (by decide) (fun c7 => ?_) (fun c7 => ?_)
    · have hr := (if_pos c7).symm.trans hr
      exact h0 s_be _ _ _ hr hP hS (lv_sub hl [] rfl)
    · have hr := (if_neg c7).symm.trans hr
      refine lv_aload_n hx hb dX4_layBesides_10 rfl (lv_at hl 0 rfl) ?_
      refine va_get (D := D) (ci := 4) (v := .ref (ad 10)) (C := RX4) (T := TX4) (N := 14) hx hb hts u_X4 hown hk.1 hP 3 rfl rfl 11 (by decide) (hts _ q1_75) (fun _ h9 => h9) rfl dX4_layBesides_11 ?_
      refine lv_iload_n hx hb dX4_layBesides_14 rfl (lv_at hl 1 rfl) ?_
      refine lv_aload_n hx hb dX4_layBesides_15 rfl (lv_at hl 0 rfl) ?_
      refine lv_aload_n hx hb dX4_layBesides_16 rfl (lv_at hl 0 rfl) ?_
      refine lv_iload_n hx hb dX4_layBesides_17 rfl (lv_at hl 1 rfl) ?_
      refine lv_iconst (v := 0) hx hb dX4_layBesides_18 (by decide) ?_
      refine go_i (ru_V (n := 2) ⟨hx, hb, hml, hown, hts⟩ hk hP (c_X4_end l D cI cL cZ ad c_sr t_n t_r t_w s_w s_h s_c s_p s_s p_nx p_sz r_k r_r r_p l_z q_z t_t b_l b_b b_n r_t l_l l_b l_n q_l q_b q_n t_le s_cs s_ps s_ha s_en pk ik s_ro s_me s_be s_se s_co pl pb pn il ib im l_a q_a hAd x1 0 _ rfl) (cwV 2 hts (gV q2_54 q2_55 q2_56 q1_3 q2_57) rfl rfl rfl hd_X4_end ⟨Nat.le_of_ble_eq_true rfl, Nat.le_of_ble_eq_true rfl⟩) (va_recv hk.1 hP (ci := 4) (q0 := 3) rfl rfl) rfl hl.1 rfl (Nat.le_of_ble_eq_true rfl) dX4_layBesides_19 ⟨Nat.zero_le _, Nat.zero_le _⟩) hS (fun _ h => h) (fun H locs hP hS => ?_)
      have hP : va_P D vwCl (cw ad cI cL cZ c_sr t_n t_r t_w s_w s_h s_c s_p s_s p_nx p_sz r_k r_r r_p l_z q_z t_t b_l b_b b_n r_t l_l l_b l_n q_l q_b q_n t_le s_cs s_ps s_ha s_en pk ik s_ro s_me s_be s_se s_co pl pb pn il ib im l_a q_a) H := hP
      refine go_l (ru_V (n := 1) ⟨hx, hb, hml, hown, hts⟩ hk hP (c_X4_atPoint l D cI cL cZ ad c_sr t_n t_r t_w s_w s_h s_c s_p s_s p_nx p_sz r_k r_r r_p l_z q_z t_t b_l b_b b_n r_t l_l l_b l_n q_l q_b q_n t_le s_cs s_ps s_ha s_en pk ik s_ro s_me s_be s_se s_co pl pb pn il ib im l_a q_a hAd (f_X4_end x1 0 s_en) _ rfl) (cwV 1 hts (gV q2_46 q2_47 q2_48 q1_3 q2_49) rfl rfl rfl hd_X4_atPoint ⟨Nat.le_of_ble_eq_true rfl, Nat.le_of_ble_eq_true rfl⟩) (va_recv hk.1 hP (ci := 4) (q0 := 3) rfl rfl) rfl hl.1 rfl (Nat.le_of_ble_eq_true rfl) dX4_layBesides_22 ⟨Nat.zero_le _, Nat.zero_le _⟩) hS (fun _ h => h) (fun H locs hP hS => ?_)
      have hP : va_P D vwCl (cw ad cI cL cZ c_sr t_n t_r t_w s_w s_h s_c s_p s_s p_nx p_sz r_k r_r r_p l_z q_z t_t b_l b_b b_n r_t l_l l_b l_n q_l q_b q_n t_le s_cs s_ps s_ha s_en pk ik s_ro s_me s_be s_se s_co pl pb pn il ib im l_a q_a) H := hP
      refine lv_aload_n hx hb dX4_layBesides_25 rfl (lv_at hl 0 rfl) ?_
      refine lv_aload_n hx hb dX4_layBesides_26 rfl (lv_at hl 0 rfl) ?_
      refine lv_iload_n hx hb dX4_layBesides_27 rfl (lv_at hl 1 rfl) ?_
      refine lv_iconst (v := 1) hx hb dX4_layBesides_28 (by decide) ?_
      refine go_i (ru_V (n := 2) ⟨hx, hb, hml, hown, hts⟩ hk hP (c_X4_end l D cI cL cZ ad c_sr t_n t_r t_w s_w s_h s_c s_p s_s p_nx p_sz r_k r_r r_p l_z q_z t_t b_l b_b b_n r_t l_l l_b l_n q_l q_b q_n t_le s_cs s_ps s_ha s_en pk ik s_ro s_me s_be s_se s_co pl pb pn il ib im l_a q_a hAd x1 1 _ rfl) (cwV 2 hts (gV q2_54 q2_55 q2_56 q1_3 q2_57) rfl rfl rfl hd_X4_end ⟨Nat.le_of_ble_eq_true rfl, Nat.le_of_ble_eq_true rfl⟩) (va_recv hk.1 hP (ci := 4) (q0 := 3) rfl rfl) rfl hl.1 rfl (Nat.le_of_ble_eq_true rfl) dX4_layBesides_29 ⟨Nat.zero_le _, Nat.zero_le _⟩) hS (fun _ h => h) (fun H locs hP hS => ?_)
      have hP : va_P D vwCl (cw ad cI cL cZ c_sr t_n t_r t_w s_w s_h s_c s_p s_s p_nx p_sz r_k r_r r_p l_z q_z t_t b_l b_b b_n r_t l_l l_b l_n q_l q_b q_n t_le s_cs s_ps s_ha s_en pk ik s_ro s_me s_be s_se s_co pl pb pn il ib im l_a q_a) H := hP
      refine go_l (ru_V (n := 1) ⟨hx, hb, hml, hown, hts⟩ hk hP (c_X4_atPoint l D cI cL cZ ad c_sr t_n t_r t_w s_w s_h s_c s_p s_s p_nx p_sz r_k r_r r_p l_z q_z t_t b_l b_b b_n r_t l_l l_b l_n q_l q_b q_n t_le s_cs s_ps s_ha s_en pk ik s_ro s_me s_be s_se s_co pl pb pn il ib im l_a q_a hAd (f_X4_end x1 1 s_en) _ rfl) (cwV 1 hts (gV q2_46 q2_47 q2_48 q1_3 q2_49) rfl rfl rfl hd_X4_atPoint ⟨Nat.le_of_ble_eq_true rfl, Nat.le_of_ble_eq_true rfl⟩) (va_recv hk.1 hP (ci := 4) (q0 := 3) rfl rfl) rfl hl.1 rfl (Nat.le_of_ble_eq_true rfl) dX4_layBesides_32 ⟨Nat.zero_le _, Nat.zero_le _⟩) hS (fun _ h => h) (fun H locs hP hS => ?_)
      have hP : va_P D vwCl (cw ad cI cL cZ c_sr t_n t_r t_w s_w s_h s_c s_p s_s p_nx p_sz r_k r_r r_p l_z q_z t_t b_l b_b b_n r_t l_l l_b l_n q_l q_b q_n t_le s_cs s_ps s_ha s_en pk ik s_ro s_me s_be s_se s_co pl pb pn il ib im l_a q_a) H := hP
      refine lv_lor hx hb dX4_layBesides_35 ?_
      refine go_v (ru_N (n := 3) ⟨hx, hb, hml, hown, hts⟩ hk hP (c_X7_put_ l D cI cL cZ (cAd ad) (cw ad cI cL cZ c_sr t_n t_r t_w s_w s_h s_c s_p s_s p_nx p_sz r_k r_r r_p l_z q_z t_t b_l b_b b_n r_t l_l l_b l_n q_l q_b q_n t_le s_cs s_ps s_ha s_en pk ik s_ro s_me s_be s_se s_co pl pb pn il ib im l_a q_a) 10 (ad 10) 40 _ rfl (cw_D hAd) s_be x1 ((f_X4_atPoint (f_X4_end x1 0 s_en) s_me) ||| (f_X4_atPoint (f_X4_end x1 1 s_en) s_me)) _ rfl (by decide)) ⟨va_cnB 3 hts (gN q2_23) rfl rfl rfl (hk.2 _ nwm_X4_101) (hts _ q1_1) hd_X7_put_ ⟨Nat.le_of_ble_eq_true rfl, Nat.le_of_ble_eq_true rfl⟩, hts _ q2_22, trivial⟩ rfl hl.1 rfl (Nat.le_of_ble_eq_true rfl) dX4_layBesides_36 ⟨Nat.zero_le _, Nat.zero_le _⟩) hS (fun _ h => h) (fun H locs hP hS => ?_)
      have hP : va_P D vwCl (cw ad cI cL cZ c_sr t_n t_r t_w s_w s_h s_c s_p s_s p_nx p_sz r_k r_r r_p l_z q_z t_t b_l b_b b_n r_t l_l l_b l_n q_l q_b q_n t_le s_cs s_ps s_ha s_en pk ik s_ro s_me (f_X7_put_ x1 ((f_X4_atPoint (f_X4_end x1 0 s_en) s_me) ||| (f_X4_atPoint (f_X4_end x1 1 s_en) s_me)) 40 s_be) s_se s_co pl pb pn il ib im l_a q_a) H := hP
      refine lv_iinc (v := x1 + 1) (lv' := [(1, .int (x1 + 1)), (0, .ref (ad 3))]) hx hb dX4_layBesides_39 hl (k := 1) rfl rfl (by decide) rfl (fun ls hl => ?_)
      refine lv_goto (tgt := 2) hx hb dX4_layBesides_42 (by decide) ?_
      exact ih (x1 + 1) (f_X7_put_ x1 ((f_X4_atPoint (f_X4_end x1 0 s_en) s_me) ||| (f_X4_atPoint (f_X4_end x1 1 s_en) s_me)) 40 s_be) _ _ _ (fuU_s hf c7) hr hP hS (lv_sub hl [1, 0] rfl)
set_option maxHeartbeats 4000000 in
set_option maxRecDepth 100000 in
theorem c_X4_layBesides (l : Launch) (D : va_G) (cI cL cZ : ClassId) (ad : Nat → Nat) (c_sr t_n t_r t_w s_w s_h s_c s_p s_s p_nx p_sz r_k r_r r_p l_z q_z : Int32) (t_t b_l b_b b_n r_t l_l l_b l_n q_l q_b q_n : Int64) (t_le s_cs s_ps s_ha s_en pk ik : Nat → Int32) (s_ro s_me s_be s_se s_co pl pb pn il ib im l_a q_a : Nat → Int64) (hAd : cInj ad) (r : (Nat → Int64)) (hr : f_X4_layBesides s_s s_en s_me s_be = r) : MV l yX4_layBesides (Cond.code yX4_layBesides cX4_layBesides 2 none :: W0) 2 43 D cI cL cZ (cAd ad) [.ref (ad 3)] (cw ad cI cL cZ c_sr t_n t_r t_w s_w s_h s_c s_p s_s p_nx p_sz r_k r_r r_p l_z q_z t_t b_l b_b b_n r_t l_l l_b l_n q_l q_b q_n t_le s_cs s_ps s_ha s_en pk ik s_ro s_me s_be s_se s_co pl pb pn il ib im l_a q_a) (cw ad cI cL cZ c_sr t_n t_r t_w s_w s_h s_c s_p s_s p_nx p_sz r_k r_r r_p l_z q_z t_t b_l b_b b_n r_t l_l l_b l_n q_l q_b q_n t_le s_cs s_ps s_ha s_en pk ik s_ro s_me r s_se s_co pl pb pn il ib im l_a q_a) := by
  refine mk_start (cc := cX4_layBesides) (maxL := 2) (ret := none) (by decide) rfl (Nat.le_of_ble_eq_true rfl) ?_
  intro p e s m below meth c ls C hP hS hl
  obtain ⟨hx, hb, hml, hrt, hlocks, hown, hts, hk⟩ := C
  have hown : s.vm.findClass RX4 = some m.cls := hown
  have hl : lv_has ls 2 [(0, .ref (ad 3))] := hl
  rw [f_X4_layBesides] at hr
  refine lv_iconst (v := 0) hx hb dX4_layBesides_0 (by decide) ?_
  refine lv_istore_n (lv' := [(1, .int 0), (0, .ref (ad 3))]) hx hb dX4_layBesides_1 rfl hl (by decide) rfl (fun ls hl => ?_)
  refine lp_X4_layBesides_2 l D cI cL cZ ad c_sr t_n t_r t_w s_w s_h s_c s_p s_s p_nx p_sz r_k r_r r_p l_z q_z t_t b_l b_b b_n r_t l_l l_b l_n q_l q_b q_n t_le s_cs s_ps s_ha s_en pk ik s_ro s_me s_se s_co pl pb pn il ib im l_a q_a ⟨hx, hb, hml, hrt, hlocks, hown, hts, hk⟩ hAd _ _ (fun z1 H locs ls hr hP hS hl => ?_) (fu s_s (0 : Int32)) 0 s_be _ _ _ (fuU_0 (by decide)) hr hP hS (lv_sub hl [1, 0] rfl)
  subst hr
  exact ret_v hx hb hrt hlocks hP hS dX4_layBesides_45
theorem hd_X4_laySettled : yX4_laySettled.cls = RX4 ∧ yX4_laySettled.cls ≠ "java/lang/invoke/MethodHandle" ∧ yX4_laySettled.cls ≠ "java/lang/invoke/VarHandle" ∧ (parseMethodDescriptor yX4_laySettled.desc).map (fun d => d.parameters.length) = some 0 := by decide +kernel
def F_X4_laySettled_28 (y1 : Int32) (y2 : Int32) (s_c : Int32) {β : Type} (k0 : (Nat → Int64) → β) : Nat → Int32 → (Nat → Int64) → β
  | 0, x3, s_se => k0 s_se
  | n + 1, x3, s_se => (if y2 < x3 then k0 s_se else (if s_c ≤ x3 then k0 s_se else F_X4_laySettled_28 y1 y2 s_c k0 n (x3 + 1) (f_X7_put_ x3 ((f_X4_settledFrom x3 s_se) ||| (f_X7_bit y1)) 16 s_se)))
def F_X4_laySettled_2 (s_c : Int32) (s_s : Int32) (s_ha : Nat → Int32) {β : Type} (k0 : (Nat → Int64) → β) : Nat → Int32 → (Nat → Int64) → β
  | 0, x1, s_se => k0 s_se
  | n + 1, x1, s_se => (if s_s ≤ x1 then k0 s_se else F_X4_laySettled_28 x1 (minI (f_X4_hand x1 0 s_ha) (f_X4_hand x1 1 s_ha)) s_c (fun z1 => F_X4_laySettled_2 s_c s_s s_ha k0 n (x1 + 1) z1) (fu s_c (0 : Int32)) 0 s_se)
def f_X4_laySettled (s_c : Int32) (s_s : Int32) (s_ha : Nat → Int32) (s_se : Nat → Int64) : (Nat → Int64) := F_X4_laySettled_2 s_c s_s s_ha (fun z2 => z2) (fu s_s (0 : Int32)) 0 s_se
set_option maxHeartbeats 4000000 in
set_option maxRecDepth 100000 in
theorem lp_X4_laySettled_28 (l : Launch) (D : va_G) (cI cL cZ : ClassId) (ad : Nat → Nat) (c_sr t_n t_r t_w s_w s_h s_c s_p s_s p_nx p_sz r_k r_r r_p l_z q_z : Int32) (t_t b_l b_b b_n r_t l_l l_b l_n q_l q_b q_n : Int64) (t_le s_cs s_ps s_ha s_en pk ik : Nat → Int32) (s_ro s_me s_be s_co pl pb pn il ib im l_a q_a : Nat → Int64) {p : Program} {e : Env} {s : State} {m : MethodId} {args : Array Value} {below : List Frame} {meth : Method} {c : Code} {Q : State → Prop} (C : Cx p s m args meth c cX4_laySettled 4 none W0 RX4 D cI cL cZ) (hAd : cInj ad) (y1 y2 : Int32) {β : Type} (k0 : (Nat → Int64) → β) (r : β)
    (h0 : ∀ (s_se : Nat → Int64) (H : Heap) (locs : List Loc) (ls : Array Slot), k0 s_se = r → va_P D vwCl (cw ad cI cL cZ c_sr t_n t_r t_w s_w s_h s_c s_p s_s p_nx p_sz r_k r_r r_p l_z q_z t_t b_l b_b b_n r_t l_l l_b l_n q_l q_b q_n t_le s_cs s_ps s_ha s_en pk ik s_ro s_me s_be s_se s_co pl pb pn il ib im l_a q_a) H → va_S (cAd ad) s.heap H locs → lv_has ls 4 [(0, .ref (ad 3)), (1, .int y1)] → W p l e (rmS 2 43) s m args below meth c H locs 0 0 Q (F0 m 65 ls [])) :
    ∀ (n : Nat) (x3 : Int32) (s_se : Nat → Int64) (H : Heap) (locs : List Loc) (ls : Array Slot), fuU n s_c x3 → F_X4_laySettled_28 y1 y2 s_c k0 n x3 s_se = r → va_P D vwCl (cw ad cI cL cZ c_sr t_n t_r t_w s_w s_h s_c s_p s_s p_nx p_sz r_k r_r r_p l_z q_z t_t b_l b_b b_n r_t l_l l_b l_n q_l q_b q_n t_le s_cs s_ps s_ha s_en pk ik s_ro s_me s_be s_se s_co pl pb pn il ib im l_a q_a) H → va_S (cAd ad) s.heap H locs → lv_has ls 4 [(0, .ref (ad 3)), (1, .int y1), (2, .int y2), (3, .int x3)] → W p l e (rmS 2 43) s m args below meth c H locs 0 0 Q (F0 m 28 ls []) := by
  obtain ⟨hx, hb, hml, hrt, hlocks, hown, hts, hk⟩ := C
  intro n
  induction n with
  | zero =>
    intro x3 s_se H locs ls hf
    exact absurd hf.1 (Nat.lt_irrefl 0)
  | succ n ih =>
    intro x3 s_se H locs ls hf hr hP hS hl
    rw [F_X4_laySettled_28] at hr
    refine lv_iload_n hx hb dX4_laySettled_28 rfl (lv_at hl 3 rfl) ?_
    refine lv_iload_n hx hb dX4_laySettled_29 rfl (lv_at hl 2 rfl) ?_
    refine lv_icmp_gt (tgt := 65) hx hb dX4_laySettled_30 (by decide) (fun c30 => ?_) (fun c30 => ?_)
    · have hr := (if_pos c30).symm.trans hr
      exact h0 s_se _ _ _ hr hP hS (lv_sub hl [0, 1] rfl)
    · have hr := (if_neg c30).symm.trans hr
      refine lv_iload_n hx hb dX4_laySettled_33 rfl (lv_at hl 3 rfl) ?_
      refine lv_aload_n hx hb dX4_laySettled_34 rfl (lv_at hl 0 rfl) ?_
      refine va_get (D := D) (ci := 4) (v := .int s_c) (C := RX4) (T := TX4) (N := 14) hx hb hts u_X4 hown hk.1 hP 3 rfl rfl 2 (by decide) (hts _ q1_60) (fun _ h9 => h9) rfl dX4_laySettled_35 ?_
      refine lv_icmp_ge (tgt := 65) hx hb dX4_laySettled_38 (by decide) (fun c38 => ?_) (fun c38 => ?_)
      · have hr := (if_pos c38).symm.trans hr
        exact h0 s_se _ _ _ hr hP hS (lv_sub hl [0, 1] rfl)
      · have hr := (if_neg c38).symm.trans hr
        refine lv_aload_n hx hb dX4_laySettled_41 rfl (lv_at hl 0 rfl) ?_
        refine va_get (D := D) (ci := 4) (v := .ref (ad 11)) (C := RX4) (T := TX4) (N := 14) hx hb hts u_X4 hown hk.1 hP 3 rfl rfl 12 (by decide) (hts _ q1_76) (fun _ h9 => h9) rfl dX4_laySettled_42 ?_
        refine lv_iload_n hx hb dX4_laySettled_45 rfl (lv_at hl 3 rfl) ?_
        refine lv_aload_n hx hb dX4_laySettled_46 rfl (lv_at hl 0 rfl) ?_
        refine lv_iload_n hx hb dX4_laySettled_47 rfl (lv_at hl 3 rfl) ?_
        refine go_l (ru_V (n := 1) ⟨hx, hb, hml, hown, hts⟩ hk hP (c_X4_settledFrom l D cI cL cZ ad c_sr t_n t_r t_w s_w s_h s_c s_p s_s p_nx p_sz r_k r_r r_p l_z q_z t_t b_l b_b b_n r_t l_l l_b l_n q_l q_b q_n t_le s_cs s_ps s_ha s_en pk ik s_ro s_me s_be s_se s_co pl pb pn il ib im l_a q_a hAd x3 _ rfl) (cwV 1 hts (gV q2_65 q2_66 q2_67 q1_3 q2_68) rfl rfl rfl hd_X4_settledFrom ⟨Nat.le_of_ble_eq_true rfl, Nat.le_of_ble_eq_true rfl⟩) (va_recv hk.1 hP (ci := 4) (q0 := 3) rfl rfl) rfl hl.1 rfl (Nat.le_of_ble_eq_true rfl) dX4_laySettled_48 ⟨Nat.zero_le _, Nat.zero_le _⟩) hS (fun _ h => h) (fun H locs hP hS => ?_)
        have hP : va_P D vwCl (cw ad cI cL cZ c_sr t_n t_r t_w s_w s_h s_c s_p s_s p_nx p_sz r_k r_r r_p l_z q_z t_t b_l b_b b_n r_t l_l l_b l_n q_l q_b q_n t_le s_cs s_ps s_ha s_en pk ik s_ro s_me s_be s_se s_co pl pb pn il ib im l_a q_a) H := hP
        refine lv_iload_n hx hb dX4_laySettled_51 rfl (lv_at hl 1 rfl) ?_
        refine go_l (ru_N (n := 1) ⟨hx, hb, hml, hown, hts⟩ hk hP (c_X7_bit l D cI cL cZ (cAd ad) (cw ad cI cL cZ c_sr t_n t_r t_w s_w s_h s_c s_p s_s p_nx p_sz r_k r_r r_p l_z q_z t_t b_l b_b b_n r_t l_l l_b l_n q_l q_b q_n t_le s_cs s_ps s_ha s_en pk ik s_ro s_me s_be s_se s_co pl pb pn il ib im l_a q_a) y1 _ rfl) ⟨va_cnB 1 hts (gN q2_20) rfl rfl rfl (hk.2 _ nwm_X4_98) (hts _ q1_1) hd_X7_bit ⟨Nat.le_of_ble_eq_true rfl, Nat.le_of_ble_eq_true rfl⟩, hts _ q2_19, trivial⟩ rfl hl.1 rfl (Nat.le_of_ble_eq_true rfl) dX4_laySettled_52 ⟨Nat.zero_le _, Nat.zero_le _⟩) hS (fun _ h => h) (fun H locs hP hS => ?_)
        have hP : va_P D vwCl (cw ad cI cL cZ c_sr t_n t_r t_w s_w s_h s_c s_p s_s p_nx p_sz r_k r_r r_p l_z q_z t_t b_l b_b b_n r_t l_l l_b l_n q_l q_b q_n t_le s_cs s_ps s_ha s_en pk ik s_ro s_me s_be s_se s_co pl pb pn il ib im l_a q_a) H := hP
        refine lv_lor hx hb dX4_laySettled_55 ?_
        refine go_v (ru_N (n := 3) ⟨hx, hb, hml, hown, hts⟩ hk hP (c_X7_put_ l D cI cL cZ (cAd ad) (cw ad cI cL cZ c_sr t_n t_r t_w s_w s_h s_c s_p s_s p_nx p_sz r_k r_r r_p l_z q_z t_t b_l b_b b_n r_t l_l l_b l_n q_l q_b q_n t_le s_cs s_ps s_ha s_en pk ik s_ro s_me s_be s_se s_co pl pb pn il ib im l_a q_a) 11 (ad 11) 16 _ rfl (cw_D hAd) s_se x3 ((f_X4_settledFrom x3 s_se) ||| (f_X7_bit y1)) _ rfl (by decide)) ⟨va_cnB 3 hts (gN q2_23) rfl rfl rfl (hk.2 _ nwm_X4_101) (hts _ q1_1) hd_X7_put_ ⟨Nat.le_of_ble_eq_true rfl, Nat.le_of_ble_eq_true rfl⟩, hts _ q2_22, trivial⟩ rfl hl.1 rfl (Nat.le_of_ble_eq_true rfl) dX4_laySettled_56 ⟨Nat.zero_le _, Nat.zero_le _⟩) hS (fun _ h => h) (fun H locs hP hS => ?_)
        have hP : va_P D vwCl (cw ad cI cL cZ c_sr t_n t_r t_w s_w s_h s_c s_p s_s p_nx p_sz r_k r_r r_p l_z q_z t_t b_l b_b b_n r_t l_l l_b l_n q_l q_b q_n t_le s_cs s_ps s_ha s_en pk ik s_ro s_me s_be (f_X7_put_ x3 ((f_X4_settledFrom x3 s_se) ||| (f_X7_bit y1)) 16 s_se) s_co pl pb pn il ib im l_a q_a) H := hP
        refine lv_iinc (v := x3 + 1) (lv' := [(3, .int (x3 + 1)), (0, .ref (ad 3)), (1, .int y1), (2, .int y2)]) hx hb dX4_laySettled_59 hl (k := 3) rfl rfl (by decide) rfl (fun ls hl => ?_)
        refine lv_goto (tgt := 28) hx hb dX4_laySettled_62 (by decide) ?_
        exact ih (x3 + 1) (f_X7_put_ x3 ((f_X4_settledFrom x3 s_se) ||| (f_X7_bit y1)) 16 s_se) _ _ _ (fuU_s hf c38) hr hP hS (lv_sub hl [1, 2, 3, 0] rfl)
set_option maxHeartbeats 4000000 in
set_option maxRecDepth 100000 in
theorem lp_X4_laySettled_2 (l : Launch) (D : va_G) (cI cL cZ : ClassId) (ad : Nat → Nat) (c_sr t_n t_r t_w s_w s_h s_c s_p s_s p_nx p_sz r_k r_r r_p l_z q_z : Int32) (t_t b_l b_b b_n r_t l_l l_b l_n q_l q_b q_n : Int64) (t_le s_cs s_ps s_ha s_en pk ik : Nat → Int32) (s_ro s_me s_be s_co pl pb pn il ib im l_a q_a : Nat → Int64) {p : Program} {e : Env} {s : State} {m : MethodId} {args : Array Value} {below : List Frame} {meth : Method} {c : Code} {Q : State → Prop} (C : Cx p s m args meth c cX4_laySettled 4 none W0 RX4 D cI cL cZ) (hAd : cInj ad) {β : Type} (k0 : (Nat → Int64) → β) (r : β)
    (h0 : ∀ (s_se : Nat → Int64) (H : Heap) (locs : List Loc) (ls : Array Slot), k0 s_se = r → va_P D vwCl (cw ad cI cL cZ c_sr t_n t_r t_w s_w s_h s_c s_p s_s p_nx p_sz r_k r_r r_p l_z q_z t_t b_l b_b b_n r_t l_l l_b l_n q_l q_b q_n t_le s_cs s_ps s_ha s_en pk ik s_ro s_me s_be s_se s_co pl pb pn il ib im l_a q_a) H → va_S (cAd ad) s.heap H locs → lv_has ls 4 [] → W p l e (rmS 2 43) s m args below meth c H locs 0 0 Q (F0 m 71 ls [])) :
    ∀ (n : Nat) (x1 : Int32) (s_se : Nat → Int64) (H : Heap) (locs : List Loc) (ls : Array Slot), fuU n s_s x1 → F_X4_laySettled_2 s_c s_s s_ha k0 n x1 s_se = r → va_P D vwCl (cw ad cI cL cZ c_sr t_n t_r t_w s_w s_h s_c s_p s_s p_nx p_sz r_k r_r r_p l_z q_z t_t b_l b_b b_n r_t l_l l_b l_n q_l q_b q_n t_le s_cs s_ps s_ha s_en pk ik s_ro s_me s_be s_se s_co pl pb pn il ib im l_a q_a) H → va_S (cAd ad) s.heap H locs → lv_has ls 4 [(0, .ref (ad 3)), (1, .int x1)] → W p l e (rmS 2 43) s m args below meth c H locs 0 0 Q (F0 m 2 ls []) := by
  obtain ⟨hx, hb, hml, hrt, hlocks, hown, hts, hk⟩ := C
  intro n
  induction n with
  | zero =>
    intro x1 s_se H locs ls hf
    exact absurd hf.1 (Nat.lt_irrefl 0)
  | succ n ih =>
    intro x1 s_se H locs ls hf hr hP hS hl
    rw [F_X4_laySettled_2] at hr
    refine lv_iload_n hx hb dX4_laySettled_2 rfl (lv_at hl 1 rfl) ?_
    refine lv_aload_n hx hb dX4_laySettled_3 rfl (lv_at hl 0 rfl) ?_
    refine va_get (D := D) (ci := 4) (v := .int s_s) (C := RX4) (T := TX4) (N := 14) hx hb hts u_X4 hown hk.1 hP 3 rfl rfl 4 (by decide) (hts _ q1_66) (fun _ h9 => h9) rfl dX4_laySettled_4 ?_
    refine lv_icmp_ge (tgt := 71) hx hb dX4_laySettled_7 (by decide) (fun c7 => ?_) (fun c7 => ?_)
    · have hr := (if_pos c7).symm.trans hr
      exact h0 s_se _ _ _ hr hP hS (lv_sub hl [] rfl)
    · have hr := (if_neg c7).symm.trans hr
      refine lv_aload_n hx hb dX4_laySettled_10 rfl (lv_at hl 0 rfl) ?_
      refine lv_iload_n hx hb dX4_laySettled_11 rfl (lv_at hl 1 rfl) ?_
      refine lv_iconst (v := 0) hx hb dX4_laySettled_12 (by decide) ?_
      refine go_i (ru_V (n := 2) ⟨hx, hb, hml, hown, hts⟩ hk hP (c_X4_hand l D cI cL cZ ad c_sr t_n t_r t_w s_w s_h s_c s_p s_s p_nx p_sz r_k r_r r_p l_z q_z t_t b_l b_b b_n r_t l_l l_b l_n q_l q_b q_n t_le s_cs s_ps s_ha s_en pk ik s_ro s_me s_be s_se s_co pl pb pn il ib im l_a q_a hAd x1 0 _ rfl) (cwV 2 hts (gV q2_31 q2_32 q2_33 q1_3 q2_34) rfl rfl rfl hd_X4_hand ⟨Nat.le_of_ble_eq_true rfl, Nat.le_of_ble_eq_true rfl⟩) (va_recv hk.1 hP (ci := 4) (q0 := 3) rfl rfl) rfl hl.1 rfl (Nat.le_of_ble_eq_true rfl) dX4_laySettled_13 ⟨Nat.zero_le _, Nat.zero_le _⟩) hS (fun _ h => h) (fun H locs hP hS => ?_)
      have hP : va_P D vwCl (cw ad cI cL cZ c_sr t_n t_r t_w s_w s_h s_c s_p s_s p_nx p_sz r_k r_r r_p l_z q_z t_t b_l b_b b_n r_t l_l l_b l_n q_l q_b q_n t_le s_cs s_ps s_ha s_en pk ik s_ro s_me s_be s_se s_co pl pb pn il ib im l_a q_a) H := hP
      refine lv_aload_n hx hb dX4_laySettled_16 rfl (lv_at hl 0 rfl) ?_
      refine lv_iload_n hx hb dX4_laySettled_17 rfl (lv_at hl 1 rfl) ?_
      refine lv_iconst (v := 1) hx hb dX4_laySettled_18 (by decide) ?_
      refine go_i (ru_V (n := 2) ⟨hx, hb, hml, hown, hts⟩ hk hP (c_X4_hand l D cI cL cZ ad c_sr t_n t_r t_w s_w s_h s_c s_p s_s p_nx p_sz r_k r_r r_p l_z q_z t_t b_l b_b b_n r_t l_l l_b l_n q_l q_b q_n t_le s_cs s_ps s_ha s_en pk ik s_ro s_me s_be s_se s_co pl pb pn il ib im l_a q_a hAd x1 1 _ rfl) (cwV 2 hts (gV q2_31 q2_32 q2_33 q1_3 q2_34) rfl rfl rfl hd_X4_hand ⟨Nat.le_of_ble_eq_true rfl, Nat.le_of_ble_eq_true rfl⟩) (va_recv hk.1 hP (ci := 4) (q0 := 3) rfl rfl) rfl hl.1 rfl (Nat.le_of_ble_eq_true rfl) dX4_laySettled_19 ⟨Nat.zero_le _, Nat.zero_le _⟩) hS (fun _ h => h) (fun H locs hP hS => ?_)
      have hP : va_P D vwCl (cw ad cI cL cZ c_sr t_n t_r t_w s_w s_h s_c s_p s_s p_nx p_sz r_k r_r r_p l_z q_z t_t b_l b_b b_n r_t l_l l_b l_n q_l q_b q_n t_le s_cs s_ps s_ha s_en pk ik s_ro s_me s_be s_se s_co pl pb pn il ib im l_a q_a) H := hP
      refine va_mmin hx hb (hml.trans hl.1.symm) hown (hts _ q2_62) (hts _ q2_63) (hts _ q1_7) (hts _ q2_64) (Nat.le_of_ble_eq_true rfl) (Nat.le_of_ble_eq_true rfl) (Nat.zero_le _) (Nat.zero_le _) dX4_laySettled_22 ?_
      refine lv_istore_n (lv' := [(2, .int (minI (f_X4_hand x1 0 s_ha) (f_X4_hand x1 1 s_ha))), (0, .ref (ad 3)), (1, .int x1)]) hx hb dX4_laySettled_25 rfl hl (by decide) rfl (fun ls hl => ?_)
      refine lv_iconst (v := 0) hx hb dX4_laySettled_26 (by decide) ?_
      refine lv_istore_n (lv' := [(3, .int 0), (2, .int (minI (f_X4_hand x1 0 s_ha) (f_X4_hand x1 1 s_ha))), (0, .ref (ad 3)), (1, .int x1)]) hx hb dX4_laySettled_27 rfl hl (by decide) rfl (fun ls hl => ?_)
      refine lp_X4_laySettled_28 l D cI cL cZ ad c_sr t_n t_r t_w s_w s_h s_c s_p s_s p_nx p_sz r_k r_r r_p l_z q_z t_t b_l b_b b_n r_t l_l l_b l_n q_l q_b q_n t_le s_cs s_ps s_ha s_en pk ik s_ro s_me s_be s_co pl pb pn il ib im l_a q_a ⟨hx, hb, hml, hrt, hlocks, hown, hts, hk⟩ hAd x1 (minI (f_X4_hand x1 0 s_ha) (f_X4_hand x1 1 s_ha)) _ _ (fun z1 H locs ls hr hP hS hl => ?_) (fu s_c (0 : Int32)) 0 s_se _ _ _ (fuU_0 (by decide)) hr hP hS (lv_sub hl [2, 3, 1, 0] rfl)
      refine lv_iinc (v := x1 + 1) (lv' := [(1, .int (x1 + 1)), (0, .ref (ad 3))]) hx hb dX4_laySettled_65 hl (k := 1) rfl rfl (by decide) rfl (fun ls hl => ?_)
      refine lv_goto (tgt := 2) hx hb dX4_laySettled_68 (by decide) ?_
      exact ih (x1 + 1) z1 _ _ _ (fuU_s hf c7) hr hP hS (lv_sub hl [1, 0] rfl)
set_option maxHeartbeats 4000000 in
set_option maxRecDepth 100000 in
theorem c_X4_laySettled (l : Launch) (D : va_G) (cI cL cZ : ClassId) (ad : Nat → Nat) (c_sr t_n t_r t_w s_w s_h s_c s_p s_s p_nx p_sz r_k r_r r_p l_z q_z : Int32) (t_t b_l b_b b_n r_t l_l l_b l_n q_l q_b q_n : Int64) (t_le s_cs s_ps s_ha s_en pk ik : Nat → Int32) (s_ro s_me s_be s_se s_co pl pb pn il ib im l_a q_a : Nat → Int64) (hAd : cInj ad) (r : (Nat → Int64)) (hr : f_X4_laySettled s_c s_s s_ha s_se = r) : MV l yX4_laySettled (Cond.code yX4_laySettled cX4_laySettled 4 none :: W0) 2 43 D cI cL cZ (cAd ad) [.ref (ad 3)] (cw ad cI cL cZ c_sr t_n t_r t_w s_w s_h s_c s_p s_s p_nx p_sz r_k r_r r_p l_z q_z t_t b_l b_b b_n r_t l_l l_b l_n q_l q_b q_n t_le s_cs s_ps s_ha s_en pk ik s_ro s_me s_be s_se s_co pl pb pn il ib im l_a q_a) (cw ad cI cL cZ c_sr t_n t_r t_w s_w s_h s_c s_p s_s p_nx p_sz r_k r_r r_p l_z q_z t_t b_l b_b b_n r_t l_l l_b l_n q_l q_b q_n t_le s_cs s_ps s_ha s_en pk ik s_ro s_me s_be r s_co pl pb pn il ib im l_a q_a) := by
  refine mk_start (cc := cX4_laySettled) (maxL := 4) (ret := none) (by decide) rfl (Nat.le_of_ble_eq_true rfl) ?_
  intro p e s m below meth c ls C hP hS hl
  obtain ⟨hx, hb, hml, hrt, hlocks, hown, hts, hk⟩ := C
  have hown : s.vm.findClass RX4 = some m.cls := hown
  have hl : lv_has ls 4 [(0, .ref (ad 3))] := hl
  rw [f_X4_laySettled] at hr
  refine lv_iconst (v := 0) hx hb dX4_laySettled_0 (by decide) ?_
  refine lv_istore_n (lv' := [(1, .int 0), (0, .ref (ad 3))]) hx hb dX4_laySettled_1 rfl hl (by decide) rfl (fun ls hl => ?_)
  refine lp_X4_laySettled_2 l D cI cL cZ ad c_sr t_n t_r t_w s_w s_h s_c s_p s_s p_nx p_sz r_k r_r r_p l_z q_z t_t b_l b_b b_n r_t l_l l_b l_n q_l q_b q_n t_le s_cs s_ps s_ha s_en pk ik s_ro s_me s_be s_co pl pb pn il ib im l_a q_a ⟨hx, hb, hml, hrt, hlocks, hown, hts, hk⟩ hAd _ _ (fun z2 H locs ls hr hP hS hl => ?_) (fu s_s (0 : Int32)) 0 s_se _ _ _ (fuU_0 (by decide)) hr hP hS (lv_sub hl [1, 0] rfl)
  subst hr
  exact ret_v hx hb hrt hlocks hP hS dX4_laySettled_71
theorem hd_X4_layCorners : yX4_layCorners.cls = RX4 ∧ yX4_layCorners.cls ≠ "java/lang/invoke/MethodHandle" ∧ yX4_layCorners.cls ≠ "java/lang/invoke/VarHandle" ∧ (parseMethodDescriptor yX4_layCorners.desc).map (fun d => d.parameters.length) = some 0 := by decide +kernel
def F_X4_layCorners_2 (s_c : Int32) (s_cs : Nat → Int32) (s_en : Nat → Int32) (s_me : Nat → Int64) {β : Type} (k0 : (Nat → Int64) → β) : Nat → Int32 → (Nat → Int64) → β
  | 0, x1, s_co => k0 s_co
  | n + 1, x1, s_co => (if s_c ≤ x1 then k0 s_co else F_X4_layCorners_2 s_c s_cs s_en s_me k0 n (x1 + 1) (f_X7_put_ x1 (f_X4_atPoint (f_X4_end (f_X4_sideOfCell x1 1 s_cs) 1 s_en) s_me) 16 s_co))
def f_X4_layCorners (s_c : Int32) (s_cs : Nat → Int32) (s_en : Nat → Int32) (s_me : Nat → Int64) (s_co : Nat → Int64) : (Nat → Int64) := F_X4_layCorners_2 s_c s_cs s_en s_me (fun z1 => z1) (fu s_c (0 : Int32)) 0 s_co
set_option maxHeartbeats 4000000 in
set_option maxRecDepth 100000 in
theorem lp_X4_layCorners_2 (l : Launch) (D : va_G) (cI cL cZ : ClassId) (ad : Nat → Nat) (c_sr t_n t_r t_w s_w s_h s_c s_p s_s p_nx p_sz r_k r_r r_p l_z q_z : Int32) (t_t b_l b_b b_n r_t l_l l_b l_n q_l q_b q_n : Int64) (t_le s_cs s_ps s_ha s_en pk ik : Nat → Int32) (s_ro s_me s_be s_se pl pb pn il ib im l_a q_a : Nat → Int64) {p : Program} {e : Env} {s : State} {m : MethodId} {args : Array Value} {below : List Frame} {meth : Method} {c : Code} {Q : State → Prop} (C : Cx p s m args meth c cX4_layCorners 2 none W0 RX4 D cI cL cZ) (hAd : cInj ad) {β : Type} (k0 : (Nat → Int64) → β) (r : β)
    (h0 : ∀ (s_co : Nat → Int64) (H : Heap) (locs : List Loc) (ls : Array Slot), k0 s_co = r → va_P D vwCl (cw ad cI cL cZ c_sr t_n t_r t_w s_w s_h s_c s_p s_s p_nx p_sz r_k r_r r_p l_z q_z t_t b_l b_b b_n r_t l_l l_b l_n q_l q_b q_n t_le s_cs s_ps s_ha s_en pk ik s_ro s_me s_be s_se s_co pl pb pn il ib im l_a q_a) H → va_S (cAd ad) s.heap H locs → lv_has ls 2 [] → W p l e (rmS 2 43) s m args below meth c H locs 0 0 Q (F0 m 39 ls [])) :
    ∀ (n : Nat) (x1 : Int32) (s_co : Nat → Int64) (H : Heap) (locs : List Loc) (ls : Array Slot), fuU n s_c x1 → F_X4_layCorners_2 s_c s_cs s_en s_me k0 n x1 s_co = r → va_P D vwCl (cw ad cI cL cZ c_sr t_n t_r t_w s_w s_h s_c s_p s_s p_nx p_sz r_k r_r r_p l_z q_z t_t b_l b_b b_n r_t l_l l_b l_n q_l q_b q_n t_le s_cs s_ps s_ha s_en pk ik s_ro s_me s_be s_se s_co pl pb pn il ib im l_a q_a) H → va_S (cAd ad) s.heap H locs → lv_has ls 2 [(0, .ref (ad 3)), (1, .int x1)] → W p l e (rmS 2 43) s m args below meth c H locs 0 0 Q (F0 m 2 ls []) := by
  obtain ⟨hx, hb, hml, hrt, hlocks, hown, hts, hk⟩ := C
  intro n
  induction n with
  | zero =>
    intro x1 s_co H locs ls hf
    exact absurd hf.1 (Nat.lt_irrefl 0)
  | succ n ih =>
    intro x1 s_co H locs ls hf hr hP hS hl
    rw [F_X4_layCorners_2] at hr
    refine lv_iload_n hx hb dX4_layCorners_2 rfl (lv_at hl 1 rfl) ?_
    refine lv_aload_n hx hb dX4_layCorners_3 rfl (lv_at hl 0 rfl) ?_
    refine va_get (D := D) (ci := 4) (v := .int s_c) (C := RX4) (T := TX4) (N := 14) hx hb hts u_X4 hown hk.1 hP 3 rfl rfl 2 (by decide) (hts _ q1_60) (fun _ h9 => h9) rfl dX4_layCorners_4 ?_
    refine lv_icmp_ge (tgt := 39) hx hb dX4_layCorners_7 (by decide) (fun c7 => ?_) (fun c7 => ?_)
    · have hr := (if_pos c7).symm.trans hr
      exact h0 s_co _ _ _ hr hP hS (lv_sub hl [] rfl)
    · have hr := (if_neg c7).symm.trans hr
      refine lv_aload_n hx hb dX4_layCorners_10 rfl (lv_at hl 0 rfl) ?_
      refine va_get (D := D) (ci := 4) (v := .ref (ad 12)) (C := RX4) (T := TX4) (N := 14) hx hb hts u_X4 hown hk.1 hP 3 rfl rfl 13 (by decide) (hts _ q1_77) (fun _ h9 => h9) rfl dX4_layCorners_11 ?_
      refine lv_iload_n hx hb dX4_layCorners_14 rfl (lv_at hl 1 rfl) ?_
      refine lv_aload_n hx hb dX4_layCorners_15 rfl (lv_at hl 0 rfl) ?_
      refine lv_aload_n hx hb dX4_layCorners_16 rfl (lv_at hl 0 rfl) ?_
      refine lv_aload_n hx hb dX4_layCorners_17 rfl (lv_at hl 0 rfl) ?_
      refine lv_iload_n hx hb dX4_layCorners_18 rfl (lv_at hl 1 rfl) ?_
      refine lv_iconst (v := 1) hx hb dX4_layCorners_19 (by decide) ?_
      refine go_i (ru_V (n := 2) ⟨hx, hb, hml, hown, hts⟩ hk hP (c_X4_sideOfCell l D cI cL cZ ad c_sr t_n t_r t_w s_w s_h s_c s_p s_s p_nx p_sz r_k r_r r_p l_z q_z t_t b_l b_b b_n r_t l_l l_b l_n q_l q_b q_n t_le s_cs s_ps s_ha s_en pk ik s_ro s_me s_be s_se s_co pl pb pn il ib im l_a q_a hAd x1 1 _ rfl) (cwV 2 hts (gV q2_73 q2_74 q2_75 q1_3 q2_76) rfl rfl rfl hd_X4_sideOfCell ⟨Nat.le_of_ble_eq_true rfl, Nat.le_of_ble_eq_true rfl⟩) (va_recv hk.1 hP (ci := 4) (q0 := 3) rfl rfl) rfl hl.1 rfl (Nat.le_of_ble_eq_true rfl) dX4_layCorners_20 ⟨Nat.zero_le _, Nat.zero_le _⟩) hS (fun _ h => h) (fun H locs hP hS => ?_)
      have hP : va_P D vwCl (cw ad cI cL cZ c_sr t_n t_r t_w s_w s_h s_c s_p s_s p_nx p_sz r_k r_r r_p l_z q_z t_t b_l b_b b_n r_t l_l l_b l_n q_l q_b q_n t_le s_cs s_ps s_ha s_en pk ik s_ro s_me s_be s_se s_co pl pb pn il ib im l_a q_a) H := hP
      refine lv_iconst (v := 1) hx hb dX4_layCorners_23 (by decide) ?_
      refine go_i (ru_V (n := 2) ⟨hx, hb, hml, hown, hts⟩ hk hP (c_X4_end l D cI cL cZ ad c_sr t_n t_r t_w s_w s_h s_c s_p s_s p_nx p_sz r_k r_r r_p l_z q_z t_t b_l b_b b_n r_t l_l l_b l_n q_l q_b q_n t_le s_cs s_ps s_ha s_en pk ik s_ro s_me s_be s_se s_co pl pb pn il ib im l_a q_a hAd (f_X4_sideOfCell x1 1 s_cs) 1 _ rfl) (cwV 2 hts (gV q2_54 q2_55 q2_56 q1_3 q2_57) rfl rfl rfl hd_X4_end ⟨Nat.le_of_ble_eq_true rfl, Nat.le_of_ble_eq_true rfl⟩) (va_recv hk.1 hP (ci := 4) (q0 := 3) rfl rfl) rfl hl.1 rfl (Nat.le_of_ble_eq_true rfl) dX4_layCorners_24 ⟨Nat.zero_le _, Nat.zero_le _⟩) hS (fun _ h => h) (fun H locs hP hS => ?_)
      have hP : va_P D vwCl (cw ad cI cL cZ c_sr t_n t_r t_w s_w s_h s_c s_p s_s p_nx p_sz r_k r_r r_p l_z q_z t_t b_l b_b b_n r_t l_l l_b l_n q_l q_b q_n t_le s_cs s_ps s_ha s_en pk ik s_ro s_me s_be s_se s_co pl pb pn il ib im l_a q_a) H := hP
      refine go_l (ru_V (n := 1) ⟨hx, hb, hml, hown, hts⟩ hk hP (c_X4_atPoint l D cI cL cZ ad c_sr t_n t_r t_w s_w s_h s_c s_p s_s p_nx p_sz r_k r_r r_p l_z q_z t_t b_l b_b b_n r_t l_l l_b l_n q_l q_b q_n t_le s_cs s_ps s_ha s_en pk ik s_ro s_me s_be s_se s_co pl pb pn il ib im l_a q_a hAd (f_X4_end (f_X4_sideOfCell x1 1 s_cs) 1 s_en) _ rfl) (cwV 1 hts (gV q2_46 q2_47 q2_48 q1_3 q2_49) rfl rfl rfl hd_X4_atPoint ⟨Nat.le_of_ble_eq_true rfl, Nat.le_of_ble_eq_true rfl⟩) (va_recv hk.1 hP (ci := 4) (q0 := 3) rfl rfl) rfl hl.1 rfl (Nat.le_of_ble_eq_true rfl) dX4_layCorners_27 ⟨Nat.zero_le _, Nat.zero_le _⟩) hS (fun _ h => h) (fun H locs hP hS => ?_)
      have hP : va_P D vwCl (cw ad cI cL cZ c_sr t_n t_r t_w s_w s_h s_c s_p s_s p_nx p_sz r_k r_r r_p l_z q_z t_t b_l b_b b_n r_t l_l l_b l_n q_l q_b q_n t_le s_cs s_ps s_ha s_en pk ik s_ro s_me s_be s_se s_co pl pb pn il ib im l_a q_a) H := hP
      refine go_v (ru_N (n := 3) ⟨hx, hb, hml, hown, hts⟩ hk hP (c_X7_put_ l D cI cL cZ (cAd ad) (cw ad cI cL cZ c_sr t_n t_r t_w s_w s_h s_c s_p s_s p_nx p_sz r_k r_r r_p l_z q_z t_t b_l b_b b_n r_t l_l l_b l_n q_l q_b q_n t_le s_cs s_ps s_ha s_en pk ik s_ro s_me s_be s_se s_co pl pb pn il ib im l_a q_a) 12 (ad 12) 16 _ rfl (cw_D hAd) s_co x1 (f_X4_atPoint (f_X4_end (f_X4_sideOfCell x1 1 s_cs) 1 s_en) s_me) _ rfl (by decide)) ⟨va_cnB 3 hts (gN q2_23) rfl rfl rfl (hk.2 _ nwm_X4_101) (hts _ q1_1) hd_X7_put_ ⟨Nat.le_of_ble_eq_true rfl, Nat.le_of_ble_eq_true rfl⟩, hts _ q2_22, trivial⟩ rfl hl.1 rfl (Nat.le_of_ble_eq_true rfl) dX4_layCorners_30 ⟨Nat.zero_le _, Nat.zero_le _⟩) hS (fun _ h => h) (fun H locs hP hS => ?_)
      have hP : va_P D vwCl (cw ad cI cL cZ c_sr t_n t_r t_w s_w s_h s_c s_p s_s p_nx p_sz r_k r_r r_p l_z q_z t_t b_l b_b b_n r_t l_l l_b l_n q_l q_b q_n t_le s_cs s_ps s_ha s_en pk ik s_ro s_me s_be s_se (f_X7_put_ x1 (f_X4_atPoint (f_X4_end (f_X4_sideOfCell x1 1 s_cs) 1 s_en) s_me) 16 s_co) pl pb pn il ib im l_a q_a) H := hP
      refine lv_iinc (v := x1 + 1) (lv' := [(1, .int (x1 + 1)), (0, .ref (ad 3))]) hx hb dX4_layCorners_33 hl (k := 1) rfl rfl (by decide) rfl (fun ls hl => ?_)
      refine lv_goto (tgt := 2) hx hb dX4_layCorners_36 (by decide) ?_
      exact ih (x1 + 1) (f_X7_put_ x1 (f_X4_atPoint (f_X4_end (f_X4_sideOfCell x1 1 s_cs) 1 s_en) s_me) 16 s_co) _ _ _ (fuU_s hf c7) hr hP hS (lv_sub hl [1, 0] rfl)
set_option maxHeartbeats 4000000 in
set_option maxRecDepth 100000 in
theorem c_X4_layCorners (l : Launch) (D : va_G) (cI cL cZ : ClassId) (ad : Nat → Nat) (c_sr t_n t_r t_w s_w s_h s_c s_p s_s p_nx p_sz r_k r_r r_p l_z q_z : Int32) (t_t b_l b_b b_n r_t l_l l_b l_n q_l q_b q_n : Int64) (t_le s_cs s_ps s_ha s_en pk ik : Nat → Int32) (s_ro s_me s_be s_se s_co pl pb pn il ib im l_a q_a : Nat → Int64) (hAd : cInj ad) (r : (Nat → Int64)) (hr : f_X4_layCorners s_c s_cs s_en s_me s_co = r) : MV l yX4_layCorners (Cond.code yX4_layCorners cX4_layCorners 2 none :: W0) 2 43 D cI cL cZ (cAd ad) [.ref (ad 3)] (cw ad cI cL cZ c_sr t_n t_r t_w s_w s_h s_c s_p s_s p_nx p_sz r_k r_r r_p l_z q_z t_t b_l b_b b_n r_t l_l l_b l_n q_l q_b q_n t_le s_cs s_ps s_ha s_en pk ik s_ro s_me s_be s_se s_co pl pb pn il ib im l_a q_a) (cw ad cI cL cZ c_sr t_n t_r t_w s_w s_h s_c s_p s_s p_nx p_sz r_k r_r r_p l_z q_z t_t b_l b_b b_n r_t l_l l_b l_n q_l q_b q_n t_le s_cs s_ps s_ha s_en pk ik s_ro s_me s_be s_se r pl pb pn il ib im l_a q_a) := by
  refine mk_start (cc := cX4_layCorners) (maxL := 2) (ret := none) (by decide) rfl (Nat.le_of_ble_eq_true rfl) ?_
  intro p e s m below meth c ls C hP hS hl
  obtain ⟨hx, hb, hml, hrt, hlocks, hown, hts, hk⟩ := C
  have hown : s.vm.findClass RX4 = some m.cls := hown
  have hl : lv_has ls 2 [(0, .ref (ad 3))] := hl
  rw [f_X4_layCorners] at hr
  refine lv_iconst (v := 0) hx hb dX4_layCorners_0 (by decide) ?_
  refine lv_istore_n (lv' := [(1, .int 0), (0, .ref (ad 3))]) hx hb dX4_layCorners_1 rfl hl (by decide) rfl (fun ls hl => ?_)
  refine lp_X4_layCorners_2 l D cI cL cZ ad c_sr t_n t_r t_w s_w s_h s_c s_p s_s p_nx p_sz r_k r_r r_p l_z q_z t_t b_l b_b b_n r_t l_l l_b l_n q_l q_b q_n t_le s_cs s_ps s_ha s_en pk ik s_ro s_me s_be s_se pl pb pn il ib im l_a q_a ⟨hx, hb, hml, hrt, hlocks, hown, hts, hk⟩ hAd _ _ (fun z1 H locs ls hr hP hS hl => ?_) (fu s_c (0 : Int32)) 0 s_co _ _ _ (fuU_0 (by decide)) hr hP hS (lv_sub hl [1, 0] rfl)
  subst hr
  exact ret_v hx hb hrt hlocks hP hS dX4_layCorners_39
