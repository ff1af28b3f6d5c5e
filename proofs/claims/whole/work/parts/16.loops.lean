theorem hd_X1_fitsNumber : yX1_fitsNumber.cls = RX1 ∧ yX1_fitsNumber.cls ≠ "java/lang/invoke/MethodHandle" ∧ yX1_fitsNumber.cls ≠ "java/lang/invoke/VarHandle" ∧ (parseMethodDescriptor yX1_fitsNumber.desc).map (fun d => d.parameters.length) = some 3 := by decide +kernel
def f_X1_fitsNumber (p1 : Int32) (p2 : Int64) (p4 : Int64) (l_n : Int64) (s_ro : Nat → Int64) : Int32 := (if 16 ≤ p1 then 1 else (if 0 ≤ (f_X0_numberIn l_n p1) then (if (f_X0_numberIn l_n p1) < (f_J13_bitCount_95d88 (((f_X4_roundCell p1 s_ro) &&& p4) &&& p2)) then 0 else (if ((f_J13_bitCount_95d88 (((f_X4_roundCell p1 s_ro) &&& p4) &&& p2)) + (f_J13_bitCount_95d88 ((f_X4_roundCell p1 s_ro) &&& (p4 ^^^ ((-1)))))) < (f_X0_numberIn l_n p1) then 0 else 1)) else 1))
set_option maxHeartbeats 4000000 in
set_option maxRecDepth 100000 in
theorem c_X1_fitsNumber (l : Launch) (D : va_G) (cI cL cZ : ClassId) (ad : Nat → Nat) (c_sr t_n t_r t_w s_w s_h s_c s_p s_s p_nx p_sz r_k r_r r_p l_z q_z : Int32) (t_t b_l b_b b_n r_t l_l l_b l_n q_l q_b q_n : Int64) (t_le s_cs s_ps s_ha s_en pk ik : Nat → Int32) (s_ro s_me s_be s_se s_co pl pb pn il ib im l_a q_a : Nat → Int64) (hAd : cInj ad) (p1 : Int32) (p2 p4 : Int64) (r : Int32) (hr : f_X1_fitsNumber p1 p2 p4 l_n s_ro = r) : MZ l yX1_fitsNumber (Cond.code yX1_fitsNumber cX1_fitsNumber 11 (some .boolean) :: W0) 1 22 D cI cL cZ (cAd ad) [.ref (ad 26), .int p1, .long p2, .long p4] (cw ad cI cL cZ c_sr t_n t_r t_w s_w s_h s_c s_p s_s p_nx p_sz r_k r_r r_p l_z q_z t_t b_l b_b b_n r_t l_l l_b l_n q_l q_b q_n t_le s_cs s_ps s_ha s_en pk ik s_ro s_me s_be s_se s_co pl pb pn il ib im l_a q_a) r (cw ad cI cL cZ c_sr t_n t_r t_w s_w s_h s_c s_p s_s p_nx p_sz r_k r_r r_p l_z q_z t_t b_l b_b b_n r_t l_l l_b l_n q_l q_b q_n t_le s_cs s_ps s_ha s_en pk ik s_ro s_me s_be s_se s_co pl pb pn il ib im l_a q_a) := by
  refine mk_start (cc := cX1_fitsNumber) (maxL := 11) (ret := (some .boolean)) (by decide) rfl (Nat.le_of_ble_eq_true rfl) ?_
  intro p e s m below meth c ls C hP hS hl
  obtain ⟨hx, hb, hml, hrt, hlocks, hown, hts, hk⟩ := C
  have hown : s.vm.findClass RX1 = some m.cls := hown
  have hl : lv_has ls 11 [(0, .ref (ad 26)), (1, .int p1), (2, .long p2), (4, .long p4)] := hl
  rw [f_X1_fitsNumber] at hr
  refine lv_iload_n hx hb dX1_fitsNumber_0 rfl (lv_at hl 1 rfl) ?_
  refine lv_bipush (v := 16) hx hb dX1_fitsNumber_1 (by decide) ?_
  refine lv_icmp_ge (tgt := 17) hx hb dX1_fitsNumber_3 (by decide) (fun c3 => ?_) (fun c3 => ?_)
  · have hr := (if_pos c3).symm.trans hr
    refine lv_iconst (v := (-1)) hx hb dX1_fitsNumber_17 (by decide) ?_
    refine lv_istore (lv' := [(6, .int ((-1))), (0, .ref (ad 26)), (1, .int p1), (2, .long p2), (4, .long p4)]) hx hb dX1_fitsNumber_18 hl (by decide) rfl (fun ls hl => ?_)
    refine lv_iload hx hb dX1_fitsNumber_20 (lv_at hl 0 rfl) ?_
    refine lv_if_ge (tgt := 27) hx hb dX1_fitsNumber_22 (by decide) (fun c22 => ?_) (fun c22 => ?_)
    · exact absurd c22 (by decide)
    · refine lv_iconst (v := 1) hx hb dX1_fitsNumber_25 (by decide) ?_
      subst hr
      exact ret_z hx hb hrt hlocks bz_1 hP hS dX1_fitsNumber_26
  · have hr := (if_neg c3).symm.trans hr
    refine lv_aload_n hx hb dX1_fitsNumber_6 rfl (lv_at hl 0 rfl) ?_
    refine va_get (D := D) (ci := 1) (v := .long l_n) (C := RX1) (T := TX1) (N := 6) hx hb hts u_X1 hown hk.1 hP 26 rfl rfl 4 (by decide) (hts _ q1_213) (fun _ h9 => h9) rfl dX1_fitsNumber_7 ?_
    refine lv_iload_n hx hb dX1_fitsNumber_10 rfl (lv_at hl 1 rfl) ?_
    refine go_i (ru_S (n := 2) ⟨hx, hb, hml, hown, hts⟩ hk hP (c_X0_numberIn l D cI cL cZ (cAd ad) (cw ad cI cL cZ c_sr t_n t_r t_w s_w s_h s_c s_p s_s p_nx p_sz r_k r_r r_p l_z q_z t_t b_l b_b b_n r_t l_l l_b l_n q_l q_b q_n t_le s_cs s_ps s_ha s_en pk ik s_ro s_me s_be s_se s_co pl pb pn il ib im l_a q_a) l_n p1 _ rfl) (va_cwS 2 hts (gS q3_146 q2_168 q1_4 q2_169) rfl rfl rfl hd_X0_numberIn ⟨Nat.le_of_ble_eq_true rfl, Nat.le_of_ble_eq_true rfl⟩) rfl hl.1 rfl (Nat.le_of_ble_eq_true rfl) dX1_fitsNumber_11 ⟨Nat.zero_le _, Nat.zero_le _⟩) hS (fun _ h => h) (fun H locs hP hS => ?_)
    have hP : va_P D vwCl (cw ad cI cL cZ c_sr t_n t_r t_w s_w s_h s_c s_p s_s p_nx p_sz r_k r_r r_p l_z q_z t_t b_l b_b b_n r_t l_l l_b l_n q_l q_b q_n t_le s_cs s_ps s_ha s_en pk ik s_ro s_me s_be s_se s_co pl pb pn il ib im l_a q_a) H := hP
    refine lv_goto (tgt := 18) hx hb dX1_fitsNumber_14 (by decide) ?_
    refine lv_istore (lv' := [(6, .int (f_X0_numberIn l_n p1)), (0, .ref (ad 26)), (1, .int p1), (2, .long p2), (4, .long p4)]) hx hb dX1_fitsNumber_18 hl (by decide) rfl (fun ls hl => ?_)
    refine lv_iload hx hb dX1_fitsNumber_20 (lv_at hl 0 rfl) ?_
    refine lv_if_ge (tgt := 27) hx hb dX1_fitsNumber_22 (by decide) (fun c22 => ?_) (fun c22 => ?_)
    · have hr := (if_pos c22).symm.trans hr
      refine lv_aload_n hx hb dX1_fitsNumber_27 rfl (lv_at hl 1 rfl) ?_
      refine va_get (D := D) (ci := 1) (v := .ref (ad 3)) (C := RX1) (T := TX1) (N := 6) hx hb hts u_X1 hown hk.1 hP 26 rfl rfl 0 (by decide) (hts _ q1_209) (fun _ h9 => h9) rfl dX1_fitsNumber_28 ?_
      refine lv_iload_n hx hb dX1_fitsNumber_31 rfl (lv_at hl 2 rfl) ?_
      refine go_l (ru_V (n := 1) ⟨hx, hb, hml, hown, hts⟩ hk hP (c_X4_roundCell l D cI cL cZ ad c_sr t_n t_r t_w s_w s_h s_c s_p s_s p_nx p_sz r_k r_r r_p l_z q_z t_t b_l b_b b_n r_t l_l l_b l_n q_l q_b q_n t_le s_cs s_ps s_ha s_en pk ik s_ro s_me s_be s_se s_co pl pb pn il ib im l_a q_a hAd p1 _ rfl) (cwV 1 hts (gV q3_127 q2_15 q2_16 q1_3 q2_17) rfl rfl rfl hd_X4_roundCell ⟨Nat.le_of_ble_eq_true rfl, Nat.le_of_ble_eq_true rfl⟩) (va_recv hk.1 hP (ci := 4) (q0 := 3) rfl rfl) rfl hl.1 rfl (Nat.le_of_ble_eq_true rfl) dX1_fitsNumber_32 ⟨Nat.zero_le _, Nat.zero_le _⟩) hS (fun _ h => h) (fun H locs hP hS => ?_)
      have hP : va_P D vwCl (cw ad cI cL cZ c_sr t_n t_r t_w s_w s_h s_c s_p s_s p_nx p_sz r_k r_r r_p l_z q_z t_t b_l b_b b_n r_t l_l l_b l_n q_l q_b q_n t_le s_cs s_ps s_ha s_en pk ik s_ro s_me s_be s_se s_co pl pb pn il ib im l_a q_a) H := hP
      refine lv_lstore (lv' := [(7, .long (f_X4_roundCell p1 s_ro)), (6, .int (f_X0_numberIn l_n p1)), (0, .ref (ad 26)), (1, .int p1), (2, .long p2), (4, .long p4)]) hx hb dX1_fitsNumber_35 hl (by decide) rfl (fun ls hl => ?_)
      refine lv_lload hx hb dX1_fitsNumber_37 (lv_at hl 0 rfl) ?_
      refine lv_lload hx hb dX1_fitsNumber_39 (lv_at hl 5 rfl) ?_
      refine lv_land hx hb dX1_fitsNumber_41 ?_
      refine lv_lload_n hx hb dX1_fitsNumber_42 rfl (lv_at hl 4 rfl) ?_
      refine lv_land hx hb dX1_fitsNumber_43 ?_
      refine go_i (ru_S (n := 1) ⟨hx, hb, hml, hown, hts⟩ hk hP (c_J13_bitCount_95d88 l D cI cL cZ (cAd ad) (cw ad cI cL cZ c_sr t_n t_r t_w s_w s_h s_c s_p s_s p_nx p_sz r_k r_r r_p l_z q_z t_t b_l b_b b_n r_t l_l l_b l_n q_l q_b q_n t_le s_cs s_ps s_ha s_en pk ik s_ro s_me s_be s_se s_co pl pb pn il ib im l_a q_a) (((f_X4_roundCell p1 s_ro) &&& p4) &&& p2) _ rfl) (va_cwS 1 hts (gS q3_140 q3_4 q1_13 q3_5) rfl rfl rfl hd_J13_bitCount_95d88 ⟨Nat.le_of_ble_eq_true rfl, Nat.le_of_ble_eq_true rfl⟩) rfl hl.1 rfl (Nat.le_of_ble_eq_true rfl) dX1_fitsNumber_44 ⟨Nat.zero_le _, Nat.zero_le _⟩) hS (fun _ h => h) (fun H locs hP hS => ?_)
      have hP : va_P D vwCl (cw ad cI cL cZ c_sr t_n t_r t_w s_w s_h s_c s_p s_s p_nx p_sz r_k r_r r_p l_z q_z t_t b_l b_b b_n r_t l_l l_b l_n q_l q_b q_n t_le s_cs s_ps s_ha s_en pk ik s_ro s_me s_be s_se s_co pl pb pn il ib im l_a q_a) H := hP
      refine lv_istore (lv' := [(9, .int (f_J13_bitCount_95d88 (((f_X4_roundCell p1 s_ro) &&& p4) &&& p2))), (7, .long (f_X4_roundCell p1 s_ro)), (6, .int (f_X0_numberIn l_n p1)), (0, .ref (ad 26)), (1, .int p1), (2, .long p2), (4, .long p4)]) hx hb dX1_fitsNumber_47 hl (by decide) rfl (fun ls hl => ?_)
      refine lv_lload hx hb dX1_fitsNumber_49 (lv_at hl 1 rfl) ?_
      refine lv_lload hx hb dX1_fitsNumber_51 (lv_at hl 6 rfl) ?_
      refine lv_ldc2 hx hb hown (hts _ q3_135) dX1_fitsNumber_53 ?_
      refine lv_lxor hx hb dX1_fitsNumber_56 ?_
      refine lv_land hx hb dX1_fitsNumber_57 ?_
      refine go_i (ru_S (n := 1) ⟨hx, hb, hml, hown, hts⟩ hk hP (c_J13_bitCount_95d88 l D cI cL cZ (cAd ad) (cw ad cI cL cZ c_sr t_n t_r t_w s_w s_h s_c s_p s_s p_nx p_sz r_k r_r r_p l_z q_z t_t b_l b_b b_n r_t l_l l_b l_n q_l q_b q_n t_le s_cs s_ps s_ha s_en pk ik s_ro s_me s_be s_se s_co pl pb pn il ib im l_a q_a) ((f_X4_roundCell p1 s_ro) &&& (p4 ^^^ ((-1)))) _ rfl) (va_cwS 1 hts (gS q3_140 q3_4 q1_13 q3_5) rfl rfl rfl hd_J13_bitCount_95d88 ⟨Nat.le_of_ble_eq_true rfl, Nat.le_of_ble_eq_true rfl⟩) rfl hl.1 rfl (Nat.le_of_ble_eq_true rfl) dX1_fitsNumber_58 ⟨Nat.zero_le _, Nat.zero_le _⟩) hS (fun _ h => h) (fun H locs hP hS => ?_)
      have hP : va_P D vwCl (cw ad cI cL cZ c_sr t_n t_r t_w s_w s_h s_c s_p s_s p_nx p_sz r_k r_r r_p l_z q_z t_t b_l b_b b_n r_t l_l l_b l_n q_l q_b q_n t_le s_cs s_ps s_ha s_en pk ik s_ro s_me s_be s_se s_co pl pb pn il ib im l_a q_a) H := hP
      refine lv_istore (lv' := [(10, .int (f_J13_bitCount_95d88 ((f_X4_roundCell p1 s_ro) &&& (p4 ^^^ ((-1)))))), (9, .int (f_J13_bitCount_95d88 (((f_X4_roundCell p1 s_ro) &&& p4) &&& p2))), (7, .long (f_X4_roundCell p1 s_ro)), (6, .int (f_X0_numberIn l_n p1)), (0, .ref (ad 26)), (1, .int p1), (2, .long p2), (4, .long p4)]) hx hb dX1_fitsNumber_61 hl (by decide) rfl (fun ls hl => ?_)
      refine lv_iload hx hb dX1_fitsNumber_63 (lv_at hl 1 rfl) ?_
      refine lv_iload hx hb dX1_fitsNumber_65 (lv_at hl 3 rfl) ?_
      refine lv_icmp_gt (tgt := 84) hx hb dX1_fitsNumber_67 (by decide) (fun c67 => ?_) (fun c67 => ?_)
      · have hr := (if_pos c67).symm.trans hr
        refine lv_iconst (v := 0) hx hb dX1_fitsNumber_84 (by decide) ?_
        subst hr
        exact ret_z hx hb hrt hlocks bz_0 hP hS dX1_fitsNumber_85
      · have hr := (if_neg c67).symm.trans hr
        refine lv_iload hx hb dX1_fitsNumber_70 (lv_at hl 3 rfl) ?_
        refine lv_iload hx hb dX1_fitsNumber_72 (lv_at hl 1 rfl) ?_
        refine lv_iload hx hb dX1_fitsNumber_74 (lv_at hl 0 rfl) ?_
        refine lv_iadd hx hb dX1_fitsNumber_76 ?_
        refine lv_icmp_gt (tgt := 84) hx hb dX1_fitsNumber_77 (by decide) (fun c77 => ?_) (fun c77 => ?_)
        · have hr := (if_pos c77).symm.trans hr
          refine lv_iconst (v := 0) hx hb dX1_fitsNumber_84 (by decide) ?_
          subst hr
          exact ret_z hx hb hrt hlocks bz_0 hP hS dX1_fitsNumber_85
        · have hr := (if_neg c77).symm.trans hr
          refine lv_iconst (v := 1) hx hb dX1_fitsNumber_80 (by decide) ?_
          refine lv_goto (tgt := 85) hx hb dX1_fitsNumber_81 (by decide) ?_
          subst hr
          exact ret_z hx hb hrt hlocks bz_1 hP hS dX1_fitsNumber_85
    · have hr := (if_neg c22).symm.trans hr
      refine lv_iconst (v := 1) hx hb dX1_fitsNumber_25 (by decide) ?_
      subst hr
      exact ret_z hx hb hrt hlocks bz_1 hP hS dX1_fitsNumber_26
theorem hd_X1_fits : yX1_fits.cls = RX1 ∧ yX1_fits.cls ≠ "java/lang/invoke/MethodHandle" ∧ yX1_fits.cls ≠ "java/lang/invoke/VarHandle" ∧ (parseMethodDescriptor yX1_fits.desc).map (fun d => d.parameters.length) = some 2 := by decide +kernel
def f_X1_fits (p1 : Int32) (p2 : Int64) (l_l : Int64) (l_b : Int64) (l_n : Int64) (s_cs : Nat → Int32) (s_ha : Nat → Int32) (s_ro : Nat → Int64) (s_se : Nat → Int64) (s_co : Nat → Int64) : Int32 := (if (lg_cmp ((p2 &&& (f_X4_settledFrom p1 s_se)) &&& l_b) 0) = 0 then (if (lg_cmp (((p2 ^^^ ((-1))) &&& (f_X4_settledFrom p1 s_se)) &&& l_l) 0) = 0 then (if (f_J13_bitCount_95d88 (p2 &&& (f_X4_atCorner p1 s_co))) ≤ 2 then (if (lg_cmp l_n 0) = 0 then 1 else (if (f_X1_fitsNumber p1 p2 (f_X4_settledFrom p1 s_se) l_n s_ro) = 0 then 0 else (if (f_X1_fitsNumber (f_X4_hand (f_X4_sideOfCell p1 1 s_cs) 1 s_ha) p2 (f_X4_settledFrom p1 s_se) l_n s_ro) = 0 then 0 else (if (f_X1_fitsNumber (f_X4_hand (f_X4_sideOfCell p1 3 s_cs) 1 s_ha) p2 (f_X4_settledFrom p1 s_se) l_n s_ro) = 0 then 0 else 1)))) else 0) else 0) else 0)
set_option maxHeartbeats 4000000 in
set_option maxRecDepth 100000 in
theorem c_X1_fits (l : Launch) (D : va_G) (cI cL cZ : ClassId) (ad : Nat → Nat) (c_sr t_n t_r t_w s_w s_h s_c s_p s_s p_nx p_sz r_k r_r r_p l_z q_z : Int32) (t_t b_l b_b b_n r_t l_l l_b l_n q_l q_b q_n : Int64) (t_le s_cs s_ps s_ha s_en pk ik : Nat → Int32) (s_ro s_me s_be s_se s_co pl pb pn il ib im l_a q_a : Nat → Int64) (hAd : cInj ad) (p1 : Int32) (p2 : Int64) (r : Int32) (hr : f_X1_fits p1 p2 l_l l_b l_n s_cs s_ha s_ro s_se s_co = r) : MZ l yX1_fits (Cond.code yX1_fits cX1_fits 8 (some .boolean) :: W0) 2 52 D cI cL cZ (cAd ad) [.ref (ad 26), .int p1, .long p2] (cw ad cI cL cZ c_sr t_n t_r t_w s_w s_h s_c s_p s_s p_nx p_sz r_k r_r r_p l_z q_z t_t b_l b_b b_n r_t l_l l_b l_n q_l q_b q_n t_le s_cs s_ps s_ha s_en pk ik s_ro s_me s_be s_se s_co pl pb pn il ib im l_a q_a) r (cw ad cI cL cZ c_sr t_n t_r t_w s_w s_h s_c s_p s_s p_nx p_sz r_k r_r r_p l_z q_z t_t b_l b_b b_n r_t l_l l_b l_n q_l q_b q_n t_le s_cs s_ps s_ha s_en pk ik s_ro s_me s_be s_se s_co pl pb pn il ib im l_a q_a) := by
  refine mk_start (cc := cX1_fits) (maxL := 8) (ret := (some .boolean)) (by decide) rfl (Nat.le_of_ble_eq_true rfl) ?_
  intro p e s m below meth c ls C hP hS hl
  obtain ⟨hx, hb, hml, hrt, hlocks, hown, hts, hk⟩ := C
  have hown : s.vm.findClass RX1 = some m.cls := hown
  have hl : lv_has ls 8 [(0, .ref (ad 26)), (1, .int p1), (2, .long p2)] := hl
  rw [f_X1_fits] at hr
  refine lv_aload_n hx hb dX1_fits_0 rfl (lv_at hl 0 rfl) ?_
  refine va_get (D := D) (ci := 1) (v := .ref (ad 3)) (C := RX1) (T := TX1) (N := 6) hx hb hts u_X1 hown hk.1 hP 26 rfl rfl 0 (by decide) (hts _ q1_209) (fun _ h9 => h9) rfl dX1_fits_1 ?_
  refine lv_iload_n hx hb dX1_fits_4 rfl (lv_at hl 1 rfl) ?_
  refine go_l (ru_V (n := 1) ⟨hx, hb, hml, hown, hts⟩ hk hP (c_X4_settledFrom l D cI cL cZ ad c_sr t_n t_r t_w s_w s_h s_c s_p s_s p_nx p_sz r_k r_r r_p l_z q_z t_t b_l b_b b_n r_t l_l l_b l_n q_l q_b q_n t_le s_cs s_ps s_ha s_en pk ik s_ro s_me s_be s_se s_co pl pb pn il ib im l_a q_a hAd p1 _ rfl) (cwV 1 hts (gV q3_134 q2_66 q2_67 q1_3 q2_68) rfl rfl rfl hd_X4_settledFrom ⟨Nat.le_of_ble_eq_true rfl, Nat.le_of_ble_eq_true rfl⟩) (va_recv hk.1 hP (ci := 4) (q0 := 3) rfl rfl) rfl hl.1 rfl (Nat.le_of_ble_eq_true rfl) dX1_fits_5 ⟨Nat.zero_le _, Nat.zero_le _⟩) hS (fun _ h => h) (fun H locs hP hS => ?_)
  have hP : va_P D vwCl (cw ad cI cL cZ c_sr t_n t_r t_w s_w s_h s_c s_p s_s p_nx p_sz r_k r_r r_p l_z q_z t_t b_l b_b b_n r_t l_l l_b l_n q_l q_b q_n t_le s_cs s_ps s_ha s_en pk ik s_ro s_me s_be s_se s_co pl pb pn il ib im l_a q_a) H := hP
  refine lv_lstore (lv' := [(4, .long (f_X4_settledFrom p1 s_se)), (0, .ref (ad 26)), (1, .int p1), (2, .long p2)]) hx hb dX1_fits_8 hl (by decide) rfl (fun ls hl => ?_)
  refine lv_lload_n hx hb dX1_fits_10 rfl (lv_at hl 3 rfl) ?_
  refine lv_lload hx hb dX1_fits_11 (lv_at hl 0 rfl) ?_
  refine lv_land hx hb dX1_fits_13 ?_
  refine lv_aload_n hx hb dX1_fits_14 rfl (lv_at hl 1 rfl) ?_
  refine va_get (D := D) (ci := 1) (v := .long l_b) (C := RX1) (T := TX1) (N := 6) hx hb hts u_X1 hown hk.1 hP 26 rfl rfl 3 (by decide) (hts _ q1_212) (fun _ h9 => h9) rfl dX1_fits_15 ?_
  refine lv_land hx hb dX1_fits_18 ?_
  refine lv_lconst (v := 0) hx hb dX1_fits_19 (by decide) ?_
  refine W.lcmp hx hb dX1_fits_20 ?_
  refine lv_if_ne (tgt := 42) hx hb dX1_fits_21 (by decide) (fun c21 => ?_) (fun c21 => ?_)
  · have hr := (if_neg c21).symm.trans hr
    refine lv_iconst (v := 0) hx hb dX1_fits_42 (by decide) ?_
    subst hr
    exact ret_z hx hb hrt hlocks bz_0 hP hS dX1_fits_43
  · have hr := (if_pos c21).symm.trans hr
    refine lv_lload_n hx hb dX1_fits_24 rfl (lv_at hl 3 rfl) ?_
    refine lv_ldc2 hx hb hown (hts _ q3_135) dX1_fits_25 ?_
    refine lv_lxor hx hb dX1_fits_28 ?_
    refine lv_lload hx hb dX1_fits_29 (lv_at hl 0 rfl) ?_
    refine lv_land hx hb dX1_fits_31 ?_
    refine lv_aload_n hx hb dX1_fits_32 rfl (lv_at hl 1 rfl) ?_
    refine va_get (D := D) (ci := 1) (v := .long l_l) (C := RX1) (T := TX1) (N := 6) hx hb hts u_X1 hown hk.1 hP 26 rfl rfl 2 (by decide) (hts _ q1_211) (fun _ h9 => h9) rfl dX1_fits_33 ?_
    refine lv_land hx hb dX1_fits_36 ?_
    refine lv_lconst (v := 0) hx hb dX1_fits_37 (by decide) ?_
    refine W.lcmp hx hb dX1_fits_38 ?_
    refine lv_if_eq (tgt := 44) hx hb dX1_fits_39 (by decide) (fun c39 => ?_) (fun c39 => ?_)
    · have hr := (if_pos c39).symm.trans hr
      refine lv_lload_n hx hb dX1_fits_44 rfl (lv_at hl 3 rfl) ?_
      refine lv_aload_n hx hb dX1_fits_45 rfl (lv_at hl 1 rfl) ?_
      refine va_get (D := D) (ci := 1) (v := .ref (ad 3)) (C := RX1) (T := TX1) (N := 6) hx hb hts u_X1 hown hk.1 hP 26 rfl rfl 0 (by decide) (hts _ q1_209) (fun _ h9 => h9) rfl dX1_fits_46 ?_
      refine lv_iload_n hx hb dX1_fits_49 rfl (lv_at hl 2 rfl) ?_
      refine go_l (ru_V (n := 1) ⟨hx, hb, hml, hown, hts⟩ hk hP (c_X4_atCorner l D cI cL cZ ad c_sr t_n t_r t_w s_w s_h s_c s_p s_s p_nx p_sz r_k r_r r_p l_z q_z t_t b_l b_b b_n r_t l_l l_b l_n q_l q_b q_n t_le s_cs s_ps s_ha s_en pk ik s_ro s_me s_be s_se s_co pl pb pn il ib im l_a q_a hAd p1 _ rfl) (cwV 1 hts (gV q3_136 q3_137 q3_138 q1_3 q3_139) rfl rfl rfl hd_X4_atCorner ⟨Nat.le_of_ble_eq_true rfl, Nat.le_of_ble_eq_true rfl⟩) (va_recv hk.1 hP (ci := 4) (q0 := 3) rfl rfl) rfl hl.1 rfl (Nat.le_of_ble_eq_true rfl) dX1_fits_50 ⟨Nat.zero_le _, Nat.zero_le _⟩) hS (fun _ h => h) (fun H locs hP hS => ?_)
      have hP : va_P D vwCl (cw ad cI cL cZ c_sr t_n t_r t_w s_w s_h s_c s_p s_s p_nx p_sz r_k r_r r_p l_z q_z t_t b_l b_b b_n r_t l_l l_b l_n q_l q_b q_n t_le s_cs s_ps s_ha s_en pk ik s_ro s_me s_be s_se s_co pl pb pn il ib im l_a q_a) H := hP
      refine lv_land hx hb dX1_fits_53 ?_
      refine go_i (ru_S (n := 1) ⟨hx, hb, hml, hown, hts⟩ hk hP (c_J13_bitCount_95d88 l D cI cL cZ (cAd ad) (cw ad cI cL cZ c_sr t_n t_r t_w s_w s_h s_c s_p s_s p_nx p_sz r_k r_r r_p l_z q_z t_t b_l b_b b_n r_t l_l l_b l_n q_l q_b q_n t_le s_cs s_ps s_ha s_en pk ik s_ro s_me s_be s_se s_co pl pb pn il ib im l_a q_a) (p2 &&& (f_X4_atCorner p1 s_co)) _ rfl) (va_cwS 1 hts (gS q3_140 q3_4 q1_13 q3_5) rfl rfl rfl hd_J13_bitCount_95d88 ⟨Nat.le_of_ble_eq_true rfl, Nat.le_of_ble_eq_true rfl⟩) rfl hl.1 rfl (Nat.le_of_ble_eq_true rfl) dX1_fits_54 ⟨Nat.zero_le _, Nat.zero_le _⟩) hS (fun _ h => h) (fun H locs hP hS => ?_)
      have hP : va_P D vwCl (cw ad cI cL cZ c_sr t_n t_r t_w s_w s_h s_c s_p s_s p_nx p_sz r_k r_r r_p l_z q_z t_t b_l b_b b_n r_t l_l l_b l_n q_l q_b q_n t_le s_cs s_ps s_ha s_en pk ik s_ro s_me s_be s_se s_co pl pb pn il ib im l_a q_a) H := hP
      refine lv_iconst (v := 2) hx hb dX1_fits_57 (by decide) ?_
      refine lv_icmp_le (tgt := 63) hx hb dX1_fits_58 (by decide) (fun c58 => ?_) (fun c58 => ?_)
      · have hr := (if_pos c58).symm.trans hr
        refine lv_aload_n hx hb dX1_fits_63 rfl (lv_at hl 1 rfl) ?_
        refine va_get (D := D) (ci := 1) (v := .long l_n) (C := RX1) (T := TX1) (N := 6) hx hb hts u_X1 hown hk.1 hP 26 rfl rfl 4 (by decide) (hts _ q1_213) (fun _ h9 => h9) rfl dX1_fits_64 ?_
        refine lv_lconst (v := 0) hx hb dX1_fits_67 (by decide) ?_
        refine W.lcmp hx hb dX1_fits_68 ?_
        refine lv_if_ne (tgt := 74) hx hb dX1_fits_69 (by decide) (fun c69 => ?_) (fun c69 => ?_)
        · have hr := (if_neg c69).symm.trans hr
          refine lv_aload_n hx hb dX1_fits_74 rfl (lv_at hl 1 rfl) ?_
          refine va_get (D := D) (ci := 1) (v := .ref (ad 3)) (C := RX1) (T := TX1) (N := 6) hx hb hts u_X1 hown hk.1 hP 26 rfl rfl 0 (by decide) (hts _ q1_209) (fun _ h9 => h9) rfl dX1_fits_75 ?_
          refine lv_aload_n hx hb dX1_fits_78 rfl (lv_at hl 1 rfl) ?_
          refine va_get (D := D) (ci := 1) (v := .ref (ad 3)) (C := RX1) (T := TX1) (N := 6) hx hb hts u_X1 hown hk.1 hP 26 rfl rfl 0 (by decide) (hts _ q1_209) (fun _ h9 => h9) rfl dX1_fits_79 ?_
          refine lv_iload_n hx hb dX1_fits_82 rfl (lv_at hl 2 rfl) ?_
          refine lv_iconst (v := 1) hx hb dX1_fits_83 (by decide) ?_
          refine go_i (ru_V (n := 2) ⟨hx, hb, hml, hown, hts⟩ hk hP (c_X4_sideOfCell l D cI cL cZ ad c_sr t_n t_r t_w s_w s_h s_c s_p s_s p_nx p_sz r_k r_r r_p l_z q_z t_t b_l b_b b_n r_t l_l l_b l_n q_l q_b q_n t_le s_cs s_ps s_ha s_en pk ik s_ro s_me s_be s_se s_co pl pb pn il ib im l_a q_a hAd p1 1 _ rfl) (cwV 2 hts (gV q3_128 q2_74 q2_75 q1_3 q2_76) rfl rfl rfl hd_X4_sideOfCell ⟨Nat.le_of_ble_eq_true rfl, Nat.le_of_ble_eq_true rfl⟩) (va_recv hk.1 hP (ci := 4) (q0 := 3) rfl rfl) rfl hl.1 rfl (Nat.le_of_ble_eq_true rfl) dX1_fits_84 ⟨Nat.zero_le _, Nat.zero_le _⟩) hS (fun _ h => h) (fun H locs hP hS => ?_)
          have hP : va_P D vwCl (cw ad cI cL cZ c_sr t_n t_r t_w s_w s_h s_c s_p s_s p_nx p_sz r_k r_r r_p l_z q_z t_t b_l b_b b_n r_t l_l l_b l_n q_l q_b q_n t_le s_cs s_ps s_ha s_en pk ik s_ro s_me s_be s_se s_co pl pb pn il ib im l_a q_a) H := hP
          refine lv_iconst (v := 1) hx hb dX1_fits_87 (by decide) ?_
          refine go_i (ru_V (n := 2) ⟨hx, hb, hml, hown, hts⟩ hk hP (c_X4_hand l D cI cL cZ ad c_sr t_n t_r t_w s_w s_h s_c s_p s_s p_nx p_sz r_k r_r r_p l_z q_z t_t b_l b_b b_n r_t l_l l_b l_n q_l q_b q_n t_le s_cs s_ps s_ha s_en pk ik s_ro s_me s_be s_se s_co pl pb pn il ib im l_a q_a hAd (f_X4_sideOfCell p1 1 s_cs) 1 _ rfl) (cwV 2 hts (gV q3_141 q2_32 q2_33 q1_3 q2_34) rfl rfl rfl hd_X4_hand ⟨Nat.le_of_ble_eq_true rfl, Nat.le_of_ble_eq_true rfl⟩) (va_recv hk.1 hP (ci := 4) (q0 := 3) rfl rfl) rfl hl.1 rfl (Nat.le_of_ble_eq_true rfl) dX1_fits_88 ⟨Nat.zero_le _, Nat.zero_le _⟩) hS (fun _ h => h) (fun H locs hP hS => ?_)
          have hP : va_P D vwCl (cw ad cI cL cZ c_sr t_n t_r t_w s_w s_h s_c s_p s_s p_nx p_sz r_k r_r r_p l_z q_z t_t b_l b_b b_n r_t l_l l_b l_n q_l q_b q_n t_le s_cs s_ps s_ha s_en pk ik s_ro s_me s_be s_se s_co pl pb pn il ib im l_a q_a) H := hP
          refine lv_istore (lv' := [(6, .int (f_X4_hand (f_X4_sideOfCell p1 1 s_cs) 1 s_ha)), (4, .long (f_X4_settledFrom p1 s_se)), (0, .ref (ad 26)), (1, .int p1), (2, .long p2)]) hx hb dX1_fits_91 hl (by decide) rfl (fun ls hl => ?_)
          refine lv_aload_n hx hb dX1_fits_93 rfl (lv_at hl 2 rfl) ?_
          refine va_get (D := D) (ci := 1) (v := .ref (ad 3)) (C := RX1) (T := TX1) (N := 6) hx hb hts u_X1 hown hk.1 hP 26 rfl rfl 0 (by decide) (hts _ q1_209) (fun _ h9 => h9) rfl dX1_fits_94 ?_
          refine lv_aload_n hx hb dX1_fits_97 rfl (lv_at hl 2 rfl) ?_
          refine va_get (D := D) (ci := 1) (v := .ref (ad 3)) (C := RX1) (T := TX1) (N := 6) hx hb hts u_X1 hown hk.1 hP 26 rfl rfl 0 (by decide) (hts _ q1_209) (fun _ h9 => h9) rfl dX1_fits_98 ?_
          refine lv_iload_n hx hb dX1_fits_101 rfl (lv_at hl 3 rfl) ?_
          refine lv_iconst (v := 3) hx hb dX1_fits_102 (by decide) ?_
          refine go_i (ru_V (n := 2) ⟨hx, hb, hml, hown, hts⟩ hk hP (c_X4_sideOfCell l D cI cL cZ ad c_sr t_n t_r t_w s_w s_h s_c s_p s_s p_nx p_sz r_k r_r r_p l_z q_z t_t b_l b_b b_n r_t l_l l_b l_n q_l q_b q_n t_le s_cs s_ps s_ha s_en pk ik s_ro s_me s_be s_se s_co pl pb pn il ib im l_a q_a hAd p1 3 _ rfl) (cwV 2 hts (gV q3_128 q2_74 q2_75 q1_3 q2_76) rfl rfl rfl hd_X4_sideOfCell ⟨Nat.le_of_ble_eq_true rfl, Nat.le_of_ble_eq_true rfl⟩) (va_recv hk.1 hP (ci := 4) (q0 := 3) rfl rfl) rfl hl.1 rfl (Nat.le_of_ble_eq_true rfl) dX1_fits_103 ⟨Nat.zero_le _, Nat.zero_le _⟩) hS (fun _ h => h) (fun H locs hP hS => ?_)
          have hP : va_P D vwCl (cw ad cI cL cZ c_sr t_n t_r t_w s_w s_h s_c s_p s_s p_nx p_sz r_k r_r r_p l_z q_z t_t b_l b_b b_n r_t l_l l_b l_n q_l q_b q_n t_le s_cs s_ps s_ha s_en pk ik s_ro s_me s_be s_se s_co pl pb pn il ib im l_a q_a) H := hP
          refine lv_iconst (v := 1) hx hb dX1_fits_106 (by decide) ?_
          refine go_i (ru_V (n := 2) ⟨hx, hb, hml, hown, hts⟩ hk hP (c_X4_hand l D cI cL cZ ad c_sr t_n t_r t_w s_w s_h s_c s_p s_s p_nx p_sz r_k r_r r_p l_z q_z t_t b_l b_b b_n r_t l_l l_b l_n q_l q_b q_n t_le s_cs s_ps s_ha s_en pk ik s_ro s_me s_be s_se s_co pl pb pn il ib im l_a q_a hAd (f_X4_sideOfCell p1 3 s_cs) 1 _ rfl) (cwV 2 hts (gV q3_141 q2_32 q2_33 q1_3 q2_34) rfl rfl rfl hd_X4_hand ⟨Nat.le_of_ble_eq_true rfl, Nat.le_of_ble_eq_true rfl⟩) (va_recv hk.1 hP (ci := 4) (q0 := 3) rfl rfl) rfl hl.1 rfl (Nat.le_of_ble_eq_true rfl) dX1_fits_107 ⟨Nat.zero_le _, Nat.zero_le _⟩) hS (fun _ h => h) (fun H locs hP hS => ?_)
          have hP : va_P D vwCl (cw ad cI cL cZ c_sr t_n t_r t_w s_w s_h s_c s_p s_s p_nx p_sz r_k r_r r_p l_z q_z t_t b_l b_b b_n r_t l_l l_b l_n q_l q_b q_n t_le s_cs s_ps s_ha s_en pk ik s_ro s_me s_be s_se s_co pl pb pn il ib im l_a q_a) H := hP
          refine lv_istore (lv' := [(7, .int (f_X4_hand (f_X4_sideOfCell p1 3 s_cs) 1 s_ha)), (6, .int (f_X4_hand (f_X4_sideOfCell p1 1 s_cs) 1 s_ha)), (4, .long (f_X4_settledFrom p1 s_se)), (0, .ref (ad 26)), (1, .int p1), (2, .long p2)]) hx hb dX1_fits_110 hl (by decide) rfl (fun ls hl => ?_)
          refine lv_aload_n hx hb dX1_fits_112 rfl (lv_at hl 3 rfl) ?_
          refine lv_iload_n hx hb dX1_fits_113 rfl (lv_at hl 4 rfl) ?_
          refine lv_lload_n hx hb dX1_fits_114 rfl (lv_at hl 5 rfl) ?_
          refine lv_lload hx hb dX1_fits_115 (lv_at hl 2 rfl) ?_
          refine go_z (ru_V (n := 3) ⟨hx, hb, hml, hown, hts⟩ hk hP (c_X1_fitsNumber l D cI cL cZ ad c_sr t_n t_r t_w s_w s_h s_c s_p s_s p_nx p_sz r_k r_r r_p l_z q_z t_t b_l b_b b_n r_t l_l l_b l_n q_l q_b q_n t_le s_cs s_ps s_ha s_en pk ik s_ro s_me s_be s_se s_co pl pb pn il ib im l_a q_a hAd p1 p2 (f_X4_settledFrom p1 s_se) _ rfl) (cwV 3 hts (gV q3_142 q3_144 qs2_12 q1_9 q3_145) rfl rfl rfl hd_X1_fitsNumber ⟨Nat.le_of_ble_eq_true rfl, Nat.le_of_ble_eq_true rfl⟩) (va_recv hk.1 hP (ci := 1) (q0 := 26) rfl rfl) rfl hl.1 rfl (Nat.le_of_ble_eq_true rfl) dX1_fits_117 ⟨Nat.zero_le _, Nat.zero_le _⟩) hS (fun _ h => h) (fun H locs hz117 hP hS => ?_)
          have hP : va_P D vwCl (cw ad cI cL cZ c_sr t_n t_r t_w s_w s_h s_c s_p s_s p_nx p_sz r_k r_r r_p l_z q_z t_t b_l b_b b_n r_t l_l l_b l_n q_l q_b q_n t_le s_cs s_ps s_ha s_en pk ik s_ro s_me s_be s_se s_co pl pb pn il ib im l_a q_a) H := hP
          refine lv_if_eq (tgt := 151) hx hb dX1_fits_120 (by decide) (fun c120 => ?_) (fun c120 => ?_)
          · have hr := (if_pos c120).symm.trans hr
            refine lv_iconst (v := 0) hx hb dX1_fits_151 (by decide) ?_
            subst hr
            exact ret_z hx hb hrt hlocks bz_0 hP hS dX1_fits_152
          · have hr := (if_neg c120).symm.trans hr
            refine lv_aload_n hx hb dX1_fits_123 rfl (lv_at hl 3 rfl) ?_
            refine lv_iload hx hb dX1_fits_124 (lv_at hl 1 rfl) ?_
            refine lv_lload_n hx hb dX1_fits_126 rfl (lv_at hl 5 rfl) ?_
            refine lv_lload hx hb dX1_fits_127 (lv_at hl 2 rfl) ?_
            refine go_z (ru_V (n := 3) ⟨hx, hb, hml, hown, hts⟩ hk hP (c_X1_fitsNumber l D cI cL cZ ad c_sr t_n t_r t_w s_w s_h s_c s_p s_s p_nx p_sz r_k r_r r_p l_z q_z t_t b_l b_b b_n r_t l_l l_b l_n q_l q_b q_n t_le s_cs s_ps s_ha s_en pk ik s_ro s_me s_be s_se s_co pl pb pn il ib im l_a q_a hAd (f_X4_hand (f_X4_sideOfCell p1 1 s_cs) 1 s_ha) p2 (f_X4_settledFrom p1 s_se) _ rfl) (cwV 3 hts (gV q3_142 q3_144 qs2_12 q1_9 q3_145) rfl rfl rfl hd_X1_fitsNumber ⟨Nat.le_of_ble_eq_true rfl, Nat.le_of_ble_eq_true rfl⟩) (va_recv hk.1 hP (ci := 1) (q0 := 26) rfl rfl) rfl hl.1 rfl (Nat.le_of_ble_eq_true rfl) dX1_fits_129 ⟨Nat.zero_le _, Nat.zero_le _⟩) hS (fun _ h => h) (fun H locs hz129 hP hS => ?_)
            have hP : va_P D vwCl (cw ad cI cL cZ c_sr t_n t_r t_w s_w s_h s_c s_p s_s p_nx p_sz r_k r_r r_p l_z q_z t_t b_l b_b b_n r_t l_l l_b l_n q_l q_b q_n t_le s_cs s_ps s_ha s_en pk ik s_ro s_me s_be s_se s_co pl pb pn il ib im l_a q_a) H := hP
            refine lv_if_eq (tgt := 151) hx hb dX1_fits_132 (by decide) (fun c132 => ?_) (fun c132 => ?_)
            · have hr := (if_pos c132).symm.trans hr
              refine lv_iconst (v := 0) hx hb dX1_fits_151 (by decide) ?_
              subst hr
              exact ret_z hx hb hrt hlocks bz_0 hP hS dX1_fits_152
            · have hr := (if_neg c132).symm.trans hr
              refine lv_aload_n hx hb dX1_fits_135 rfl (lv_at hl 3 rfl) ?_
              refine lv_iload hx hb dX1_fits_136 (lv_at hl 0 rfl) ?_
              refine lv_lload_n hx hb dX1_fits_138 rfl (lv_at hl 5 rfl) ?_
              refine lv_lload hx hb dX1_fits_139 (lv_at hl 2 rfl) ?_
              refine go_z (ru_V (n := 3) ⟨hx, hb, hml, hown, hts⟩ hk hP (c_X1_fitsNumber l D cI cL cZ ad c_sr t_n t_r t_w s_w s_h s_c s_p s_s p_nx p_sz r_k r_r r_p l_z q_z t_t b_l b_b b_n r_t l_l l_b l_n q_l q_b q_n t_le s_cs s_ps s_ha s_en pk ik s_ro s_me s_be s_se s_co pl pb pn il ib im l_a q_a hAd (f_X4_hand (f_X4_sideOfCell p1 3 s_cs) 1 s_ha) p2 (f_X4_settledFrom p1 s_se) _ rfl) (cwV 3 hts (gV q3_142 q3_144 qs2_12 q1_9 q3_145) rfl rfl rfl hd_X1_fitsNumber ⟨Nat.le_of_ble_eq_true rfl, Nat.le_of_ble_eq_true rfl⟩) (va_recv hk.1 hP (ci := 1) (q0 := 26) rfl rfl) rfl hl.1 rfl (Nat.le_of_ble_eq_true rfl) dX1_fits_141 ⟨Nat.zero_le _, Nat.zero_le _⟩) hS (fun _ h => h) (fun H locs hz141 hP hS => ?_)
              have hP : va_P D vwCl (cw ad cI cL cZ c_sr t_n t_r t_w s_w s_h s_c s_p s_s p_nx p_sz r_k r_r r_p l_z q_z t_t b_l b_b b_n r_t l_l l_b l_n q_l q_b q_n t_le s_cs s_ps s_ha s_en pk ik s_ro s_me s_be s_se s_co pl pb pn il ib im l_a q_a) H := hP
              refine lv_if_eq (tgt := 151) hx hb dX1_fits_144 (by decide) (fun c144 => ?_) (fun c144 => ?_)
              · have hr := (if_pos c144).symm.trans hr
                refine lv_iconst (v := 0) hx hb dX1_fits_151 (by decide) ?_
                subst hr
                exact ret_z hx hb hrt hlocks bz_0 hP hS dX1_fits_152
              · have hr := (if_neg c144).symm.trans hr
                refine lv_iconst (v := 1) hx hb dX1_fits_147 (by decide) ?_
                refine lv_goto (tgt := 152) hx hb dX1_fits_148 (by decide) ?_
                subst hr
                exact ret_z hx hb hrt hlocks bz_1 hP hS dX1_fits_152
        · have hr := (if_pos c69).symm.trans hr
          refine lv_iconst (v := 1) hx hb dX1_fits_72 (by decide) ?_
          subst hr
          exact ret_z hx hb hrt hlocks bz_1 hP hS dX1_fits_73
      · have hr := (if_neg c58).symm.trans hr
        refine lv_iconst (v := 0) hx hb dX1_fits_61 (by decide) ?_
        subst hr
        exact ret_z hx hb hrt hlocks bz_0 hP hS dX1_fits_62
    · have hr := (if_neg c39).symm.trans hr
      refine lv_iconst (v := 0) hx hb dX1_fits_42 (by decide) ?_
      subst hr
      exact ret_z hx hb hrt hlocks bz_0 hP hS dX1_fits_43
theorem hd_X1_takeRing : yX1_takeRing.cls = RX1 ∧ yX1_takeRing.cls ≠ "java/lang/invoke/MethodHandle" ∧ yX1_takeRing.cls ≠ "java/lang/invoke/VarHandle" ∧ (parseMethodDescriptor yX1_takeRing.desc).map (fun d => d.parameters.length) = some 1 := by decide +kernel
def f_X1_takeRing (p1 : Int64) (l_z : Int32) (s_be : Nat → Int64) (l_a : Nat → Int64) : Int32 × (Nat → Int64) := (if (lg_cmp p1 0) = 0 then (l_z, l_a) else (if (lg_cmp (f_X4_chainOf p1 (f_J13_numberOfTrailingZeros_95d88 p1) s_be) p1) = 0 then (if l_z < 0 then (l_z, l_a) else (if 10000 ≤ l_z then (l_z, l_a) else (l_z + 1, vp_updL l_a l_z.toNatClampNeg p1))) else (l_z, l_a)))
set_option maxHeartbeats 4000000 in
set_option maxRecDepth 100000 in
theorem c_X1_takeRing (l : Launch) (D : va_G) (cI cL cZ : ClassId) (ad : Nat → Nat) (c_sr t_n t_r t_w s_w s_h s_c s_p s_s p_nx p_sz r_k r_r r_p l_z q_z : Int32) (t_t b_l b_b b_n r_t l_l l_b l_n q_l q_b q_n : Int64) (t_le s_cs s_ps s_ha s_en pk ik : Nat → Int32) (s_ro s_me s_be s_se s_co pl pb pn il ib im l_a q_a : Nat → Int64) (hAd : cInj ad) (p1 : Int64) (r : Int32 × (Nat → Int64)) (hr : f_X1_takeRing p1 l_z s_be l_a = r) : MV l yX1_takeRing (Cond.code yX1_takeRing cX1_takeRing 4 none :: W0) 3 74 D cI cL cZ (cAd ad) [.ref (ad 26), .long p1] (cw ad cI cL cZ c_sr t_n t_r t_w s_w s_h s_c s_p s_s p_nx p_sz r_k r_r r_p l_z q_z t_t b_l b_b b_n r_t l_l l_b l_n q_l q_b q_n t_le s_cs s_ps s_ha s_en pk ik s_ro s_me s_be s_se s_co pl pb pn il ib im l_a q_a) (cw ad cI cL cZ c_sr t_n t_r t_w s_w s_h s_c s_p s_s p_nx p_sz r_k r_r r_p r.1 q_z t_t b_l b_b b_n r_t l_l l_b l_n q_l q_b q_n t_le s_cs s_ps s_ha s_en pk ik s_ro s_me s_be s_se s_co pl pb pn il ib im r.2 q_a) := by
  refine mk_start (cc := cX1_takeRing) (maxL := 4) (ret := none) (by decide) rfl (Nat.le_of_ble_eq_true rfl) ?_
  intro p e s m below meth c ls C hP hS hl
  obtain ⟨hx, hb, hml, hrt, hlocks, hown, hts, hk⟩ := C
  have hown : s.vm.findClass RX1 = some m.cls := hown
  have hl : lv_has ls 4 [(0, .ref (ad 26)), (1, .long p1)] := hl
  rw [f_X1_takeRing] at hr
  refine lv_lload_n hx hb dX1_takeRing_0 rfl (lv_at hl 1 rfl) ?_
  refine lv_lconst (v := 0) hx hb dX1_takeRing_1 (by decide) ?_
  refine W.lcmp hx hb dX1_takeRing_2 ?_
  refine lv_if_eq (tgt := 27) hx hb dX1_takeRing_3 (by decide) (fun c3 => ?_) (fun c3 => ?_)
  · have hr := (if_pos c3).symm.trans hr
    refine lv_iconst (v := 0) hx hb dX1_takeRing_27 (by decide) ?_
    refine lv_istore_n (lv' := [(3, .int 0), (0, .ref (ad 26)), (1, .long p1)]) hx hb dX1_takeRing_28 rfl hl (by decide) rfl (fun ls hl => ?_)
    refine lv_iload_n hx hb dX1_takeRing_29 rfl (lv_at hl 0 rfl) ?_
    refine lv_if_eq (tgt := 72) hx hb dX1_takeRing_30 (by decide) (fun c30 => ?_) (fun c30 => ?_)
    · subst hr
      exact ret_v hx hb hrt hlocks hP hS dX1_takeRing_72
    · exact absurd (by decide) c30
  · have hr := (if_neg c3).symm.trans hr
    refine lv_aload_n hx hb dX1_takeRing_6 rfl (lv_at hl 0 rfl) ?_
    refine va_get (D := D) (ci := 1) (v := .ref (ad 3)) (C := RX1) (T := TX1) (N := 6) hx hb hts u_X1 hown hk.1 hP 26 rfl rfl 0 (by decide) (hts _ q1_209) (fun _ h9 => h9) rfl dX1_takeRing_7 ?_
    refine lv_lload_n hx hb dX1_takeRing_10 rfl (lv_at hl 1 rfl) ?_
    refine lv_lload_n hx hb dX1_takeRing_11 rfl (lv_at hl 1 rfl) ?_
    refine go_i (ru_S (n := 1) ⟨hx, hb, hml, hown, hts⟩ hk hP (c_J13_numberOfTrailingZeros_95d88 l D cI cL cZ (cAd ad) (cw ad cI cL cZ c_sr t_n t_r t_w s_w s_h s_c s_p s_s p_nx p_sz r_k r_r r_p l_z q_z t_t b_l b_b b_n r_t l_l l_b l_n q_l q_b q_n t_le s_cs s_ps s_ha s_en pk ik s_ro s_me s_be s_se s_co pl pb pn il ib im l_a q_a) p1 _ rfl) (va_cwS 1 hts (gS q3_125 q3_28 q1_13 q3_29) rfl rfl rfl hd_J13_numberOfTrailingZeros_95d88 ⟨Nat.le_of_ble_eq_true rfl, Nat.le_of_ble_eq_true rfl⟩) rfl hl.1 rfl (Nat.le_of_ble_eq_true rfl) dX1_takeRing_12 ⟨Nat.zero_le _, Nat.zero_le _⟩) hS (fun _ h => h) (fun H locs hP hS => ?_)
    have hP : va_P D vwCl (cw ad cI cL cZ c_sr t_n t_r t_w s_w s_h s_c s_p s_s p_nx p_sz r_k r_r r_p l_z q_z t_t b_l b_b b_n r_t l_l l_b l_n q_l q_b q_n t_le s_cs s_ps s_ha s_en pk ik s_ro s_me s_be s_se s_co pl pb pn il ib im l_a q_a) H := hP
    refine go_l (ru_V (n := 2) ⟨hx, hb, hml, hown, hts⟩ hk hP (c_X4_chainOf l D cI cL cZ ad c_sr t_n t_r t_w s_w s_h s_c s_p s_s p_nx p_sz r_k r_r r_p l_z q_z t_t b_l b_b b_n r_t l_l l_b l_n q_l q_b q_n t_le s_cs s_ps s_ha s_en pk ik s_ro s_me s_be s_se s_co pl pb pn il ib im l_a q_a hAd p1 (f_J13_numberOfTrailingZeros_95d88 p1) _ rfl) (cwV 2 hts (gV q3_126 q3_24 q3_25 q1_3 q3_26) rfl rfl rfl hd_X4_chainOf ⟨Nat.le_of_ble_eq_true rfl, Nat.le_of_ble_eq_true rfl⟩) (va_recv hk.1 hP (ci := 4) (q0 := 3) rfl rfl) rfl hl.1 rfl (Nat.le_of_ble_eq_true rfl) dX1_takeRing_15 ⟨Nat.zero_le _, Nat.zero_le _⟩) hS (fun _ h => h) (fun H locs hP hS => ?_)
    have hP : va_P D vwCl (cw ad cI cL cZ c_sr t_n t_r t_w s_w s_h s_c s_p s_s p_nx p_sz r_k r_r r_p l_z q_z t_t b_l b_b b_n r_t l_l l_b l_n q_l q_b q_n t_le s_cs s_ps s_ha s_en pk ik s_ro s_me s_be s_se s_co pl pb pn il ib im l_a q_a) H := hP
    refine lv_lload_n hx hb dX1_takeRing_18 rfl (lv_at hl 1 rfl) ?_
    refine W.lcmp hx hb dX1_takeRing_19 ?_
    refine lv_if_ne (tgt := 27) hx hb dX1_takeRing_20 (by decide) (fun c20 => ?_) (fun c20 => ?_)
    · have hr := (if_neg c20).symm.trans hr
      refine lv_iconst (v := 0) hx hb dX1_takeRing_27 (by decide) ?_
      refine lv_istore_n (lv' := [(3, .int 0), (0, .ref (ad 26)), (1, .long p1)]) hx hb dX1_takeRing_28 rfl hl (by decide) rfl (fun ls hl => ?_)
      refine lv_iload_n hx hb dX1_takeRing_29 rfl (lv_at hl 0 rfl) ?_
      refine lv_if_eq (tgt := 72) hx hb dX1_takeRing_30 (by decide) (fun c30 => ?_) (fun c30 => ?_)
      · subst hr
        exact ret_v hx hb hrt hlocks hP hS dX1_takeRing_72
      · exact absurd (by decide) c30
    · have hr := (if_pos c20).symm.trans hr
      refine lv_iconst (v := 1) hx hb dX1_takeRing_23 (by decide) ?_
      refine lv_goto (tgt := 28) hx hb dX1_takeRing_24 (by decide) ?_
      refine lv_istore_n (lv' := [(3, .int 1), (0, .ref (ad 26)), (1, .long p1)]) hx hb dX1_takeRing_28 rfl hl (by decide) rfl (fun ls hl => ?_)
      refine lv_iload_n hx hb dX1_takeRing_29 rfl (lv_at hl 0 rfl) ?_
      refine lv_if_eq (tgt := 72) hx hb dX1_takeRing_30 (by decide) (fun c30 => ?_) (fun c30 => ?_)
      · exact absurd c30 (by decide)
      · refine lv_aload_n hx hb dX1_takeRing_33 rfl (lv_at hl 1 rfl) ?_
        refine va_get (D := D) (ci := 1) (v := .int l_z) (C := RX1) (T := TX1) (N := 6) hx hb hts u_X1 hown hk.1 hP 26 rfl rfl 5 (by decide) (hts _ q1_214) (fun _ h9 => h9) rfl dX1_takeRing_34 ?_
        refine lv_if_lt (tgt := 72) hx hb dX1_takeRing_37 (by decide) (fun c37 => ?_) (fun c37 => ?_)
        · have hr := (if_pos c37).symm.trans hr
          subst hr
          exact ret_v hx hb hrt hlocks hP hS dX1_takeRing_72
        · have hr := (if_neg c37).symm.trans hr
          refine lv_aload_n hx hb dX1_takeRing_40 rfl (lv_at hl 1 rfl) ?_
          refine va_get (D := D) (ci := 1) (v := .int l_z) (C := RX1) (T := TX1) (N := 6) hx hb hts u_X1 hown hk.1 hP 26 rfl rfl 5 (by decide) (hts _ q1_214) (fun _ h9 => h9) rfl dX1_takeRing_41 ?_
          refine lv_aload_n hx hb dX1_takeRing_44 rfl (lv_at hl 1 rfl) ?_
          refine va_get (D := D) (ci := 1) (v := .ref (ad 27)) (C := RX1) (T := TX1) (N := 6) hx hb hts u_X1 hown hk.1 hP 26 rfl rfl 1 (by decide) (hts _ q1_210) (fun _ h9 => h9) rfl dX1_takeRing_45 ?_
          refine va_alen (v := 10000) hx hb hk.1 hP 27 1 rfl rfl rfl dX1_takeRing_48 ?_
          refine lv_icmp_ge (tgt := 72) hx hb dX1_takeRing_49 (by decide) (fun c49 => ?_) (fun c49 => ?_)
          · have hr := (if_pos c49).symm.trans hr
            subst hr
            exact ret_v hx hb hrt hlocks hP hS dX1_takeRing_72
          · have hr := (if_neg c49).symm.trans hr
            refine lv_aload_n hx hb dX1_takeRing_52 rfl (lv_at hl 1 rfl) ?_
            refine va_get (D := D) (ci := 1) (v := .ref (ad 27)) (C := RX1) (T := TX1) (N := 6) hx hb hts u_X1 hown hk.1 hP 26 rfl rfl 1 (by decide) (hts _ q1_210) (fun _ h9 => h9) rfl dX1_takeRing_53 ?_
            refine lv_aload_n hx hb dX1_takeRing_56 rfl (lv_at hl 1 rfl) ?_
            refine va_get (D := D) (ci := 1) (v := .int l_z) (C := RX1) (T := TX1) (N := 6) hx hb hts u_X1 hown hk.1 hP 26 rfl rfl 5 (by decide) (hts _ q1_214) (fun _ h9 => h9) rfl dX1_takeRing_57 ?_
            refine lv_lload_n hx hb dX1_takeRing_60 rfl (lv_at hl 2 rfl) ?_
            refine va_last hx hb hk.1 hP (cw_D hAd) hS 27 1 (rfl) rfl (vin_c (nn_of c37) c49 (by decide)) dX1_takeRing_61 (fun H locs hP _ hS => ?_)
            have hP : va_P D vwCl (cw ad cI cL cZ c_sr t_n t_r t_w s_w s_h s_c s_p s_s p_nx p_sz r_k r_r r_p l_z q_z t_t b_l b_b b_n r_t l_l l_b l_n q_l q_b q_n t_le s_cs s_ps s_ha s_en pk ik s_ro s_me s_be s_se s_co pl pb pn il ib im (vp_updL l_a l_z.toNatClampNeg p1) q_a) H := hP
            refine lv_aload_n hx hb dX1_takeRing_62 rfl (lv_at hl 1 rfl) ?_
            refine lv_dup hx hb dX1_takeRing_63 rfl ?_
            refine va_get (D := D) (ci := 1) (v := .int l_z) (C := RX1) (T := TX1) (N := 6) hx hb hts u_X1 hown hk.1 hP 26 rfl rfl 5 (by decide) (hts _ q1_214) (fun _ h9 => h9) rfl dX1_takeRing_64 ?_
            refine lv_iconst (v := 1) hx hb dX1_takeRing_67 (by decide) ?_
            refine lv_iadd hx hb dX1_takeRing_68 ?_
            refine va_put (D := D) (ci := 1) (v := .int (l_z + 1)) (ty := .int) (C := RX1) (T := TX1) (N := 6) hx hb hts u_X1 tyX1 tyX1_ok nmX1 hown hk.1 hP (cw_D hAd) hS 26 rfl rfl 5 (by decide) (hts _ q1_214) (fun _ h9 => h9) rfl (tyX1_ok 5 (by decide)) rfl rfl (Nat.le_of_ble_eq_true rfl) dX1_takeRing_69 (fun H locs hP _ hS => ?_)
            have hP : va_P D vwCl (cw ad cI cL cZ c_sr t_n t_r t_w s_w s_h s_c s_p s_s p_nx p_sz r_k r_r r_p (l_z + 1) q_z t_t b_l b_b b_n r_t l_l l_b l_n q_l q_b q_n t_le s_cs s_ps s_ha s_en pk ik s_ro s_me s_be s_se s_co pl pb pn il ib im (vp_updL l_a l_z.toNatClampNeg p1) q_a) H := hP
            subst hr
            exact ret_v hx hb hrt hlocks hP hS dX1_takeRing_72
theorem hd_X1_ring : yX1_ring.cls = RX1 ∧ yX1_ring.cls ≠ "java/lang/invoke/MethodHandle" ∧ yX1_ring.cls ≠ "java/lang/invoke/VarHandle" ∧ (parseMethodDescriptor yX1_ring.desc).map (fun d => d.parameters.length) = some 1 := by decide +kernel
def f_X1_ring (p1 : Int32) (l_a : Nat → Int64) : Int64 := f_X7_at_ p1 10000 l_a
set_option maxHeartbeats 4000000 in
set_option maxRecDepth 100000 in
theorem c_X1_ring (l : Launch) (D : va_G) (cI cL cZ : ClassId) (ad : Nat → Nat) (c_sr t_n t_r t_w s_w s_h s_c s_p s_s p_nx p_sz r_k r_r r_p l_z q_z : Int32) (t_t b_l b_b b_n r_t l_l l_b l_n q_l q_b q_n : Int64) (t_le s_cs s_ps s_ha s_en pk ik : Nat → Int32) (s_ro s_me s_be s_se s_co pl pb pn il ib im l_a q_a : Nat → Int64) (hAd : cInj ad) (p1 : Int32) (r : Int64) (hr : f_X1_ring p1 l_a = r) : ML l yX1_ring (Cond.code yX1_ring cX1_ring 2 (some .long) :: W0) 1 21 D cI cL cZ (cAd ad) [.ref (ad 26), .int p1] (cw ad cI cL cZ c_sr t_n t_r t_w s_w s_h s_c s_p s_s p_nx p_sz r_k r_r r_p l_z q_z t_t b_l b_b b_n r_t l_l l_b l_n q_l q_b q_n t_le s_cs s_ps s_ha s_en pk ik s_ro s_me s_be s_se s_co pl pb pn il ib im l_a q_a) r (cw ad cI cL cZ c_sr t_n t_r t_w s_w s_h s_c s_p s_s p_nx p_sz r_k r_r r_p l_z q_z t_t b_l b_b b_n r_t l_l l_b l_n q_l q_b q_n t_le s_cs s_ps s_ha s_en pk ik s_ro s_me s_be s_se s_co pl pb pn il ib im l_a q_a) := by
  refine mk_start (cc := cX1_ring) (maxL := 2) (ret := (some .long)) (by decide) rfl (Nat.le_of_ble_eq_true rfl) ?_
  intro p e s m below meth c ls C hP hS hl
  obtain ⟨hx, hb, hml, hrt, hlocks, hown, hts, hk⟩ := C
  have hown : s.vm.findClass RX1 = some m.cls := hown
  have hl : lv_has ls 2 [(0, .ref (ad 26)), (1, .int p1)] := hl
  rw [f_X1_ring] at hr
  refine lv_aload_n hx hb dX1_ring_0 rfl (lv_at hl 0 rfl) ?_
  refine va_get (D := D) (ci := 1) (v := .ref (ad 27)) (C := RX1) (T := TX1) (N := 6) hx hb hts u_X1 hown hk.1 hP 26 rfl rfl 1 (by decide) (hts _ q1_210) (fun _ h9 => h9) rfl dX1_ring_1 ?_
  refine lv_iload_n hx hb dX1_ring_4 rfl (lv_at hl 1 rfl) ?_
  refine go_l (ru_N (n := 2) ⟨hx, hb, hml, hown, hts⟩ hk hP (c_X7_at_ l D cI cL cZ (cAd ad) (cw ad cI cL cZ c_sr t_n t_r t_w s_w s_h s_c s_p s_s p_nx p_sz r_k r_r r_p l_z q_z t_t b_l b_b b_n r_t l_l l_b l_n q_l q_b q_n t_le s_cs s_ps s_ha s_en pk ik s_ro s_me s_be s_se s_co pl pb pn il ib im l_a q_a) 27 (ad 27) 10000 _ rfl (cw_D hAd) l_a p1 _ rfl (by decide)) ⟨va_cnB 2 hts (gN q3_95) rfl rfl rfl (hk.2 _ nwm_X1_51) (hts _ q1_1) hd_X7_at_ ⟨Nat.le_of_ble_eq_true rfl, Nat.le_of_ble_eq_true rfl⟩, hts _ q3_94, trivial⟩ rfl hl.1 rfl (Nat.le_of_ble_eq_true rfl) dX1_ring_5 ⟨Nat.zero_le _, Nat.zero_le _⟩) hS (fun _ h => h) (fun H locs hP hS => ?_)
  have hP : va_P D vwCl (cw ad cI cL cZ c_sr t_n t_r t_w s_w s_h s_c s_p s_s p_nx p_sz r_k r_r r_p l_z q_z t_t b_l b_b b_n r_t l_l l_b l_n q_l q_b q_n t_le s_cs s_ps s_ha s_en pk ik s_ro s_me s_be s_se s_co pl pb pn il ib im l_a q_a) H := hP
  subst hr
  exact ret_l hx hb hrt hlocks hP hS dX1_ring_8
def f_X1_fitsNumber_b (p1 : Int32) (p2 : Int64) (p4 : Int64) (q_n : Int64) (s_ro : Nat → Int64) : Int32 := (if 16 ≤ p1 then 1 else (if 0 ≤ (f_X0_numberIn q_n p1) then (if (f_X0_numberIn q_n p1) < (f_J13_bitCount_95d88 (((f_X4_roundCell p1 s_ro) &&& p4) &&& p2)) then 0 else (if ((f_J13_bitCount_95d88 (((f_X4_roundCell p1 s_ro) &&& p4) &&& p2)) + (f_J13_bitCount_95d88 ((f_X4_roundCell p1 s_ro) &&& (p4 ^^^ ((-1)))))) < (f_X0_numberIn q_n p1) then 0 else 1)) else 1))
set_option maxHeartbeats 4000000 in
set_option maxRecDepth 100000 in
theorem c_X1_fitsNumber_b (l : Launch) (D : va_G) (cI cL cZ : ClassId) (ad : Nat → Nat) (c_sr t_n t_r t_w s_w s_h s_c s_p s_s p_nx p_sz r_k r_r r_p l_z q_z : Int32) (t_t b_l b_b b_n r_t l_l l_b l_n q_l q_b q_n : Int64) (t_le s_cs s_ps s_ha s_en pk ik : Nat → Int32) (s_ro s_me s_be s_se s_co pl pb pn il ib im l_a q_a : Nat → Int64) (hAd : cInj ad) (p1 : Int32) (p2 p4 : Int64) (r : Int32) (hr : f_X1_fitsNumber_b p1 p2 p4 q_n s_ro = r) : MZ l yX1_fitsNumber (Cond.code yX1_fitsNumber cX1_fitsNumber 11 (some .boolean) :: W0) 1 22 D cI cL cZ (cAd ad) [.ref (ad 28), .int p1, .long p2, .long p4] (cw ad cI cL cZ c_sr t_n t_r t_w s_w s_h s_c s_p s_s p_nx p_sz r_k r_r r_p l_z q_z t_t b_l b_b b_n r_t l_l l_b l_n q_l q_b q_n t_le s_cs s_ps s_ha s_en pk ik s_ro s_me s_be s_se s_co pl pb pn il ib im l_a q_a) r (cw ad cI cL cZ c_sr t_n t_r t_w s_w s_h s_c s_p s_s p_nx p_sz r_k r_r r_p l_z q_z t_t b_l b_b b_n r_t l_l l_b l_n q_l q_b q_n t_le s_cs s_ps s_ha s_en pk ik s_ro s_me s_be s_se s_co pl pb pn il ib im l_a q_a) := by
  refine mk_start (cc := cX1_fitsNumber) (maxL := 11) (ret := (some .boolean)) (by decide) rfl (Nat.le_of_ble_eq_true rfl) ?_
  intro p e s m below meth c ls C hP hS hl
  obtain ⟨hx, hb, hml, hrt, hlocks, hown, hts, hk⟩ := C
  have hown : s.vm.findClass RX1 = some m.cls := hown
  have hl : lv_has ls 11 [(0, .ref (ad 28)), (1, .int p1), (2, .long p2), (4, .long p4)] := hl
  rw [f_X1_fitsNumber_b] at hr
  refine lv_iload_n hx hb dX1_fitsNumber_0 rfl (lv_at hl 1 rfl) ?_
  refine lv_bipush (v := 16) hx hb dX1_fitsNumber_1 (by decide) ?_
  refine lv_icmp_ge (tgt := 17) hx hb dX1_fitsNumber_3 (by decide) (fun c3 => ?_) (fun c3 => ?_)
  · have hr := (if_pos c3).symm.trans hr
    refine lv_iconst (v := (-1)) hx hb dX1_fitsNumber_17 (by decide) ?_
    refine lv_istore (lv' := [(6, .int ((-1))), (0, .ref (ad 28)), (1, .int p1), (2, .long p2), (4, .long p4)]) hx hb dX1_fitsNumber_18 hl (by decide) rfl (fun ls hl => ?_)
    refine lv_iload hx hb dX1_fitsNumber_20 (lv_at hl 0 rfl) ?_
    refine lv_if_ge (tgt := 27) hx hb dX1_fitsNumber_22 (by decide) (fun c22 => ?_) (fun c22 => ?_)
    · exact absurd c22 (by decide)
    · refine lv_iconst (v := 1) hx hb dX1_fitsNumber_25 (by decide) ?_
      subst hr
      exact ret_z hx hb hrt hlocks bz_1 hP hS dX1_fitsNumber_26
  · have hr := (if_neg c3).symm.trans hr
    refine lv_aload_n hx hb dX1_fitsNumber_6 rfl (lv_at hl 0 rfl) ?_
    refine va_get (D := D) (ci := 1) (v := .long q_n) (C := RX1) (T := TX1) (N := 6) hx hb hts u_X1 hown hk.1 hP 28 rfl rfl 4 (by decide) (hts _ q1_213) (fun _ h9 => h9) rfl dX1_fitsNumber_7 ?_
    refine lv_iload_n hx hb dX1_fitsNumber_10 rfl (lv_at hl 1 rfl) ?_
    refine go_i (ru_S (n := 2) ⟨hx, hb, hml, hown, hts⟩ hk hP (c_X0_numberIn l D cI cL cZ (cAd ad) (cw ad cI cL cZ c_sr t_n t_r t_w s_w s_h s_c s_p s_s p_nx p_sz r_k r_r r_p l_z q_z t_t b_l b_b b_n r_t l_l l_b l_n q_l q_b q_n t_le s_cs s_ps s_ha s_en pk ik s_ro s_me s_be s_se s_co pl pb pn il ib im l_a q_a) q_n p1 _ rfl) (va_cwS 2 hts (gS q3_146 q2_168 q1_4 q2_169) rfl rfl rfl hd_X0_numberIn ⟨Nat.le_of_ble_eq_true rfl, Nat.le_of_ble_eq_true rfl⟩) rfl hl.1 rfl (Nat.le_of_ble_eq_true rfl) dX1_fitsNumber_11 ⟨Nat.zero_le _, Nat.zero_le _⟩) hS (fun _ h => h) (fun H locs hP hS => ?_)
    have hP : va_P D vwCl (cw ad cI cL cZ c_sr t_n t_r t_w s_w s_h s_c s_p s_s p_nx p_sz r_k r_r r_p l_z q_z t_t b_l b_b b_n r_t l_l l_b l_n q_l q_b q_n t_le s_cs s_ps s_ha s_en pk ik s_ro s_me s_be s_se s_co pl pb pn il ib im l_a q_a) H := hP
    refine lv_goto (tgt := 18) hx hb dX1_fitsNumber_14 (by decide) ?_
    refine lv_istore (lv' := [(6, .int (f_X0_numberIn q_n p1)), (0, .ref (ad 28)), (1, .int p1), (2, .long p2), (4, .long p4)]) hx hb dX1_fitsNumber_18 hl (by decide) rfl (fun ls hl => ?_)
    refine lv_iload hx hb dX1_fitsNumber_20 (lv_at hl 0 rfl) ?_
    refine lv_if_ge (tgt := 27) hx hb dX1_fitsNumber_22 (by decide) (fun c22 => ?_) (fun c22 => ?_)
    · have hr := (if_pos c22).symm.trans hr
      refine lv_aload_n hx hb dX1_fitsNumber_27 rfl (lv_at hl 1 rfl) ?_
      refine va_get (D := D) (ci := 1) (v := .ref (ad 3)) (C := RX1) (T := TX1) (N := 6) hx hb hts u_X1 hown hk.1 hP 28 rfl rfl 0 (by decide) (hts _ q1_209) (fun _ h9 => h9) rfl dX1_fitsNumber_28 ?_
      refine lv_iload_n hx hb dX1_fitsNumber_31 rfl (lv_at hl 2 rfl) ?_
      refine go_l (ru_V (n := 1) ⟨hx, hb, hml, hown, hts⟩ hk hP (c_X4_roundCell l D cI cL cZ ad c_sr t_n t_r t_w s_w s_h s_c s_p s_s p_nx p_sz r_k r_r r_p l_z q_z t_t b_l b_b b_n r_t l_l l_b l_n q_l q_b q_n t_le s_cs s_ps s_ha s_en pk ik s_ro s_me s_be s_se s_co pl pb pn il ib im l_a q_a hAd p1 _ rfl) (cwV 1 hts (gV q3_127 q2_15 q2_16 q1_3 q2_17) rfl rfl rfl hd_X4_roundCell ⟨Nat.le_of_ble_eq_true rfl, Nat.le_of_ble_eq_true rfl⟩) (va_recv hk.1 hP (ci := 4) (q0 := 3) rfl rfl) rfl hl.1 rfl (Nat.le_of_ble_eq_true rfl) dX1_fitsNumber_32 ⟨Nat.zero_le _, Nat.zero_le _⟩) hS (fun _ h => h) (fun H locs hP hS => ?_)
      have hP : va_P D vwCl (cw ad cI cL cZ c_sr t_n t_r t_w s_w s_h s_c s_p s_s p_nx p_sz r_k r_r r_p l_z q_z t_t b_l b_b b_n r_t l_l l_b l_n q_l q_b q_n t_le s_cs s_ps s_ha s_en pk ik s_ro s_me s_be s_se s_co pl pb pn il ib im l_a q_a) H := hP
      refine lv_lstore (lv' := [(7, .long (f_X4_roundCell p1 s_ro)), (6, .int (f_X0_numberIn q_n p1)), (0, .ref (ad 28)), (1, .int p1), (2, .long p2), (4, .long p4)]) hx hb dX1_fitsNumber_35 hl (by decide) rfl (fun ls hl => ?_)
      refine lv_lload hx hb dX1_fitsNumber_37 (lv_at hl 0 rfl) ?_
      refine lv_lload hx hb dX1_fitsNumber_39 (lv_at hl 5 rfl) ?_
      refine lv_land hx hb dX1_fitsNumber_41 ?_
      refine lv_lload_n hx hb dX1_fitsNumber_42 rfl (lv_at hl 4 rfl) ?_
      refine lv_land hx hb dX1_fitsNumber_43 ?_
      refine go_i (ru_S (n := 1) ⟨hx, hb, hml, hown, hts⟩ hk hP (c_J13_bitCount_95d88 l D cI cL cZ (cAd ad) (cw ad cI cL cZ c_sr t_n t_r t_w s_w s_h s_c s_p s_s p_nx p_sz r_k r_r r_p l_z q_z t_t b_l b_b b_n r_t l_l l_b l_n q_l q_b q_n t_le s_cs s_ps s_ha s_en pk ik s_ro s_me s_be s_se s_co pl pb pn il ib im l_a q_a) (((f_X4_roundCell p1 s_ro) &&& p4) &&& p2) _ rfl) (va_cwS 1 hts (gS q3_140 q3_4 q1_13 q3_5) rfl rfl rfl hd_J13_bitCount_95d88 ⟨Nat.le_of_ble_eq_true rfl, Nat.le_of_ble_eq_true rfl⟩) rfl hl.1 rfl (Nat.le_of_ble_eq_true rfl) dX1_fitsNumber_44 ⟨Nat.zero_le _, Nat.zero_le _⟩) hS (fun _ h => h) (fun H locs hP hS => ?_)
      have hP : va_P D vwCl (cw ad cI cL cZ c_sr t_n t_r t_w s_w s_h s_c s_p s_s p_nx p_sz r_k r_r r_p l_z q_z t_t b_l b_b b_n r_t l_l l_b l_n q_l q_b q_n t_le s_cs s_ps s_ha s_en pk ik s_ro s_me s_be s_se s_co pl pb pn il ib im l_a q_a) H := hP
      refine lv_istore (lv' := [(9, .int (f_J13_bitCount_95d88 (((f_X4_roundCell p1 s_ro) &&& p4) &&& p2))), (7, .long (f_X4_roundCell p1 s_ro)), (6, .int (f_X0_numberIn q_n p1)), (0, .ref (ad 28)), (1, .int p1), (2, .long p2), (4, .long p4)]) hx hb dX1_fitsNumber_47 hl (by decide) rfl (fun ls hl => ?_)
      refine lv_lload hx hb dX1_fitsNumber_49 (lv_at hl 1 rfl) ?_
      refine lv_lload hx hb dX1_fitsNumber_51 (lv_at hl 6 rfl) ?_
      refine lv_ldc2 hx hb hown (hts _ q3_135) dX1_fitsNumber_53 ?_
      refine lv_lxor hx hb dX1_fitsNumber_56 ?_
      refine lv_land hx hb dX1_fitsNumber_57 ?_
      refine go_i (ru_S (n := 1) ⟨hx, hb, hml, hown, hts⟩ hk hP (c_J13_bitCount_95d88 l D cI cL cZ (cAd ad) (cw ad cI cL cZ c_sr t_n t_r t_w s_w s_h s_c s_p s_s p_nx p_sz r_k r_r r_p l_z q_z t_t b_l b_b b_n r_t l_l l_b l_n q_l q_b q_n t_le s_cs s_ps s_ha s_en pk ik s_ro s_me s_be s_se s_co pl pb pn il ib im l_a q_a) ((f_X4_roundCell p1 s_ro) &&& (p4 ^^^ ((-1)))) _ rfl) (va_cwS 1 hts (gS q3_140 q3_4 q1_13 q3_5) rfl rfl rfl hd_J13_bitCount_95d88 ⟨Nat.le_of_ble_eq_true rfl, Nat.le_of_ble_eq_true rfl⟩) rfl hl.1 rfl (Nat.le_of_ble_eq_true rfl) dX1_fitsNumber_58 ⟨Nat.zero_le _, Nat.zero_le _⟩) hS (fun _ h => h) (fun H locs hP hS => ?_)
      have hP : va_P D vwCl (cw ad cI cL cZ c_sr t_n t_r t_w s_w s_h s_c s_p s_s p_nx p_sz r_k r_r r_p l_z q_z t_t b_l b_b b_n r_t l_l l_b l_n q_l q_b q_n t_le s_cs s_ps s_ha s_en pk ik s_ro s_me s_be s_se s_co pl pb pn il ib im l_a q_a) H := hP
      refine lv_istore (lv' := [(10, .int (f_J13_bitCount_95d88 ((f_X4_roundCell p1 s_ro) &&& (p4 ^^^ ((-1)))))), (9, .int (f_J13_bitCount_95d88 (((f_X4_roundCell p1 s_ro) &&& p4) &&& p2))), (7, .long (f_X4_roundCell p1 s_ro)), (6, .int (f_X0_numberIn q_n p1)), (0, .ref (ad 28)), (1, .int p1), (2, .long p2), (4, .long p4)]) hx hb dX1_fitsNumber_61 hl (by decide) rfl (fun ls hl => ?_)
      refine lv_iload hx hb dX1_fitsNumber_63 (lv_at hl 1 rfl) ?_
      refine lv_iload hx hb dX1_fitsNumber_65 (lv_at hl 3 rfl) ?_
      refine lv_icmp_gt (tgt := 84) hx hb dX1_fitsNumber_67 (by decide) (fun c67 => ?_) (fun c67 => ?_)
      · have hr := (if_pos c67).symm.trans hr
        refine lv_iconst (v := 0) hx hb dX1_fitsNumber_84 (by decide) ?_
        subst hr
        exact ret_z hx hb hrt hlocks bz_0 hP hS dX1_fitsNumber_85
      · have hr := (if_neg c67).symm.trans hr
        refine lv_iload hx hb dX1_fitsNumber_70 (lv_at hl 3 rfl) ?_
        refine lv_iload hx hb dX1_fitsNumber_72 (lv_at hl 1 rfl) ?_
        refine lv_iload hx hb dX1_fitsNumber_74 (lv_at hl 0 rfl) ?_
        refine lv_iadd hx hb dX1_fitsNumber_76 ?_
        refine lv_icmp_gt (tgt := 84) hx hb dX1_fitsNumber_77 (by decide) (fun c77 => ?_) (fun c77 => ?_)
        · have hr := (if_pos c77).symm.trans hr
          refine lv_iconst (v := 0) hx hb dX1_fitsNumber_84 (by decide) ?_
          subst hr
          exact ret_z hx hb hrt hlocks bz_0 hP hS dX1_fitsNumber_85
        · have hr := (if_neg c77).symm.trans hr
          refine lv_iconst (v := 1) hx hb dX1_fitsNumber_80 (by decide) ?_
          refine lv_goto (tgt := 85) hx hb dX1_fitsNumber_81 (by decide) ?_
          subst hr
          exact ret_z hx hb hrt hlocks bz_1 hP hS dX1_fitsNumber_85
    · have hr := (if_neg c22).symm.trans hr
      refine lv_iconst (v := 1) hx hb dX1_fitsNumber_25 (by decide) ?_
      subst hr
      exact ret_z hx hb hrt hlocks bz_1 hP hS dX1_fitsNumber_26
def f_X1_fits_b (p1 : Int32) (p2 : Int64) (q_l : Int64) (q_b : Int64) (q_n : Int64) (s_cs : Nat → Int32) (s_ha : Nat → Int32) (s_ro : Nat → Int64) (s_se : Nat → Int64) (s_co : Nat → Int64) : Int32 := (if (lg_cmp ((p2 &&& (f_X4_settledFrom p1 s_se)) &&& q_b) 0) = 0 then (if (lg_cmp (((p2 ^^^ ((-1))) &&& (f_X4_settledFrom p1 s_se)) &&& q_l) 0) = 0 then (if (f_J13_bitCount_95d88 (p2 &&& (f_X4_atCorner p1 s_co))) ≤ 2 then (if (lg_cmp q_n 0) = 0 then 1 else (if (f_X1_fitsNumber_b p1 p2 (f_X4_settledFrom p1 s_se) q_n s_ro) = 0 then 0 else (if (f_X1_fitsNumber_b (f_X4_hand (f_X4_sideOfCell p1 1 s_cs) 1 s_ha) p2 (f_X4_settledFrom p1 s_se) q_n s_ro) = 0 then 0 else (if (f_X1_fitsNumber_b (f_X4_hand (f_X4_sideOfCell p1 3 s_cs) 1 s_ha) p2 (f_X4_settledFrom p1 s_se) q_n s_ro) = 0 then 0 else 1)))) else 0) else 0) else 0)
set_option maxHeartbeats 4000000 in
set_option maxRecDepth 100000 in
theorem c_X1_fits_b (l : Launch) (D : va_G) (cI cL cZ : ClassId) (ad : Nat → Nat) (c_sr t_n t_r t_w s_w s_h s_c s_p s_s p_nx p_sz r_k r_r r_p l_z q_z : Int32) (t_t b_l b_b b_n r_t l_l l_b l_n q_l q_b q_n : Int64) (t_le s_cs s_ps s_ha s_en pk ik : Nat → Int32) (s_ro s_me s_be s_se s_co pl pb pn il ib im l_a q_a : Nat → Int64) (hAd : cInj ad) (p1 : Int32) (p2 : Int64) (r : Int32) (hr : f_X1_fits_b p1 p2 q_l q_b q_n s_cs s_ha s_ro s_se s_co = r) : MZ l yX1_fits (Cond.code yX1_fits cX1_fits 8 (some .boolean) :: W0) 2 52 D cI cL cZ (cAd ad) [.ref (ad 28), .int p1, .long p2] (cw ad cI cL cZ c_sr t_n t_r t_w s_w s_h s_c s_p s_s p_nx p_sz r_k r_r r_p l_z q_z t_t b_l b_b b_n r_t l_l l_b l_n q_l q_b q_n t_le s_cs s_ps s_ha s_en pk ik s_ro s_me s_be s_se s_co pl pb pn il ib im l_a q_a) r (cw ad cI cL cZ c_sr t_n t_r t_w s_w s_h s_c s_p s_s p_nx p_sz r_k r_r r_p l_z q_z t_t b_l b_b b_n r_t l_l l_b l_n q_l q_b q_n t_le s_cs s_ps s_ha s_en pk ik s_ro s_me s_be s_se s_co pl pb pn il ib im l_a q_a) := by
  refine mk_start (cc := cX1_fits) (maxL := 8) (ret := (some .boolean)) (by decide) rfl (Nat.le_of_ble_eq_true rfl) ?_
  intro p e s m below meth c ls C hP hS hl
  obtain ⟨hx, hb, hml, hrt, hlocks, hown, hts, hk⟩ := C
  have hown : s.vm.findClass RX1 = some m.cls := hown
  have hl : lv_has ls 8 [(0, .ref (ad 28)), (1, .int p1), (2, .long p2)] := hl
  rw [f_X1_fits_b] at hr
  refine lv_aload_n hx hb dX1_fits_0 rfl (lv_at hl 0 rfl) ?_
  refine va_get (D := D) (ci := 1) (v := .ref (ad 3)) (C := RX1) (T := TX1) (N := 6) hx hb hts u_X1 hown hk.1 hP 28 rfl rfl 0 (by decide) (hts _ q1_209) (fun _ h9 => h9) rfl dX1_fits_1 ?_
  refine lv_iload_n hx hb dX1_fits_4 rfl (lv_at hl 1 rfl) ?_
  refine go_l (ru_V (n := 1) ⟨hx, hb, hml, hown, hts⟩ hk hP (c_X4_settledFrom l D cI cL cZ ad c_sr t_n t_r t_w s_w s_h s_c s_p s_s p_nx p_sz r_k r_r r_p l_z q_z t_t b_l b_b b_n r_t l_l l_b l_n q_l q_b q_n t_le s_cs s_ps s_ha s_en pk ik s_ro s_me s_be s_se s_co pl pb pn il ib im l_a q_a hAd p1 _ rfl) (cwV 1 hts (gV q3_134 q2_66 q2_67 q1_3 q2_68) rfl rfl rfl hd_X4_settledFrom ⟨Nat.le_of_ble_eq_true rfl, Nat.le_of_ble_eq_true rfl⟩) (va_recv hk.1 hP (ci := 4) (q0 := 3) rfl rfl) rfl hl.1 rfl (Nat.le_of_ble_eq_true rfl) dX1_fits_5 ⟨Nat.zero_le _, Nat.zero_le _⟩) hS (fun _ h => h) (fun H locs hP hS => ?_)
  have hP : va_P D vwCl (cw ad cI cL cZ c_sr t_n t_r t_w s_w s_h s_c s_p s_s p_nx p_sz r_k r_r r_p l_z q_z t_t b_l b_b b_n r_t l_l l_b l_n q_l q_b q_n t_le s_cs s_ps s_ha s_en pk ik s_ro s_me s_be s_se s_co pl pb pn il ib im l_a q_a) H := hP
  refine lv_lstore (lv' := [(4, .long (f_X4_settledFrom p1 s_se)), (0, .ref (ad 28)), (1, .int p1), (2, .long p2)]) hx hb dX1_fits_8 hl (by decide) rfl (fun ls hl => ?_)
  refine lv_lload_n hx hb dX1_fits_10 rfl (lv_at hl 3 rfl) ?_
  refine lv_lload hx hb dX1_fits_11 (lv_at hl 0 rfl) ?_
  refine lv_land hx hb dX1_fits_13 ?_
  refine lv_aload_n hx hb dX1_fits_14 rfl (lv_at hl 1 rfl) ?_
  refine va_get (D := D) (ci := 1) (v := .long q_b) (C := RX1) (T := TX1) (N := 6) hx hb hts u_X1 hown hk.1 hP 28 rfl rfl 3 (by decide) (hts _ q1_212) (fun _ h9 => h9) rfl dX1_fits_15 ?_
  refine lv_land hx hb dX1_fits_18 ?_
  refine lv_lconst (v := 0) hx hb dX1_fits_19 (by decide) ?_
  refine W.lcmp hx hb dX1_fits_20 ?_
  refine lv_if_ne (tgt := 42) hx hb dX1_fits_21 (by decide) (fun c21 => ?_) (fun c21 => ?_)
  · have hr := (if_neg c21).symm.trans hr
    refine lv_iconst (v := 0) hx hb dX1_fits_42 (by decide) ?_
    subst hr
    exact ret_z hx hb hrt hlocks bz_0 hP hS dX1_fits_43
  · have hr := (if_pos c21).symm.trans hr
    refine lv_lload_n hx hb dX1_fits_24 rfl (lv_at hl 3 rfl) ?_
    refine lv_ldc2 hx hb hown (hts _ q3_135) dX1_fits_25 ?_
    refine lv_lxor hx hb dX1_fits_28 ?_
    refine lv_lload hx hb dX1_fits_29 (lv_at hl 0 rfl) ?_
    refine lv_land hx hb dX1_fits_31 ?_
    refine lv_aload_n hx hb dX1_fits_32 rfl (lv_at hl 1 rfl) ?_
    refine va_get (D := D) (ci := 1) (v := .long q_l) (C := RX1) (T := TX1) (N := 6) hx hb hts u_X1 hown hk.1 hP 28 rfl rfl 2 (by decide) (hts _ q1_211) (fun _ h9 => h9) rfl dX1_fits_33 ?_
    refine lv_land hx hb dX1_fits_36 ?_
    refine lv_lconst (v := 0) hx hb dX1_fits_37 (by decide) ?_
    refine W.lcmp hx hb dX1_fits_38 ?_
    refine lv_if_eq (tgt := 44) hx hb dX1_fits_39 (by decide) (fun c39 => ?_) (fun c39 => ?_)
    · have hr := (if_pos c39).symm.trans hr
      refine lv_lload_n hx hb dX1_fits_44 rfl (lv_at hl 3 rfl) ?_
      refine lv_aload_n hx hb dX1_fits_45 rfl (lv_at hl 1 rfl) ?_
      refine va_get (D := D) (ci := 1) (v := .ref (ad 3)) (C := RX1) (T := TX1) (N := 6) hx hb hts u_X1 hown hk.1 hP 28 rfl rfl 0 (by decide) (hts _ q1_209) (fun _ h9 => h9) rfl dX1_fits_46 ?_
      refine lv_iload_n hx hb dX1_fits_49 rfl (lv_at hl 2 rfl) ?_
      refine go_l (ru_V (n := 1) ⟨hx, hb, hml, hown, hts⟩ hk hP (c_X4_atCorner l D cI cL cZ ad c_sr t_n t_r t_w s_w s_h s_c s_p s_s p_nx p_sz r_k r_r r_p l_z q_z t_t b_l b_b b_n r_t l_l l_b l_n q_l q_b q_n t_le s_cs s_ps s_ha s_en pk ik s_ro s_me s_be s_se s_co pl pb pn il ib im l_a q_a hAd p1 _ rfl) (cwV 1 hts (gV q3_136 q3_137 q3_138 q1_3 q3_139) rfl rfl rfl hd_X4_atCorner ⟨Nat.le_of_ble_eq_true rfl, Nat.le_of_ble_eq_true rfl⟩) (va_recv hk.1 hP (ci := 4) (q0 := 3) rfl rfl) rfl hl.1 rfl (Nat.le_of_ble_eq_true rfl) dX1_fits_50 ⟨Nat.zero_le _, Nat.zero_le _⟩) hS (fun _ h => h) (fun H locs hP hS => ?_)
      have hP : va_P D vwCl (cw ad cI cL cZ c_sr t_n t_r t_w s_w s_h s_c s_p s_s p_nx p_sz r_k r_r r_p l_z q_z t_t b_l b_b b_n r_t l_l l_b l_n q_l q_b q_n t_le s_cs s_ps s_ha s_en pk ik s_ro s_me s_be s_se s_co pl pb pn il ib im l_a q_a) H := hP
      refine lv_land hx hb dX1_fits_53 ?_
      refine go_i (ru_S (n := 1) ⟨hx, hb, hml, hown, hts⟩ hk hP (c_J13_bitCount_95d88 l D cI cL cZ (cAd ad) (cw ad cI cL cZ c_sr t_n t_r t_w s_w s_h s_c s_p s_s p_nx p_sz r_k r_r r_p l_z q_z t_t b_l b_b b_n r_t l_l l_b l_n q_l q_b q_n t_le s_cs s_ps s_ha s_en pk ik s_ro s_me s_be s_se s_co pl pb pn il ib im l_a q_a) (p2 &&& (f_X4_atCorner p1 s_co)) _ rfl) (va_cwS 1 hts (gS q3_140 q3_4 q1_13 q3_5) rfl rfl rfl hd_J13_bitCount_95d88 ⟨Nat.le_of_ble_eq_true rfl, Nat.le_of_ble_eq_true rfl⟩) rfl hl.1 rfl (Nat.le_of_ble_eq_true rfl) dX1_fits_54 ⟨Nat.zero_le _, Nat.zero_le _⟩) hS (fun _ h => h) (fun H locs hP hS => ?_)
      have hP : va_P D vwCl (cw ad cI cL cZ c_sr t_n t_r t_w s_w s_h s_c s_p s_s p_nx p_sz r_k r_r r_p l_z q_z t_t b_l b_b b_n r_t l_l l_b l_n q_l q_b q_n t_le s_cs s_ps s_ha s_en pk ik s_ro s_me s_be s_se s_co pl pb pn il ib im l_a q_a) H := hP
      refine lv_iconst (v := 2) hx hb dX1_fits_57 (by decide) ?_
      refine lv_icmp_le (tgt := 63) hx hb dX1_fits_58 (by decide) (fun c58 => ?_) (fun c58 => ?_)
      · have hr := (if_pos c58).symm.trans hr
        refine lv_aload_n hx hb dX1_fits_63 rfl (lv_at hl 1 rfl) ?_
        refine va_get (D := D) (ci := 1) (v := .long q_n) (C := RX1) (T := TX1) (N := 6) hx hb hts u_X1 hown hk.1 hP 28 rfl rfl 4 (by decide) (hts _ q1_213) (fun _ h9 => h9) rfl dX1_fits_64 ?_
        refine lv_lconst (v := 0) hx hb dX1_fits_67 (by decide) ?_
        refine W.lcmp hx hb dX1_fits_68 ?_
        refine lv_if_ne (tgt := 74) hx hb dX1_fits_69 (by decide) (fun c69 => ?_) (fun c69 => ?_)
        · have hr := (if_neg c69).symm.trans hr
          refine lv_aload_n hx hb dX1_fits_74 rfl (lv_at hl 1 rfl) ?_
          refine va_get (D := D) (ci := 1) (v := .ref (ad 3)) (C := RX1) (T := TX1) (N := 6) hx hb hts u_X1 hown hk.1 hP 28 rfl rfl 0 (by decide) (hts _ q1_209) (fun _ h9 => h9) rfl dX1_fits_75 ?_
          refine lv_aload_n hx hb dX1_fits_78 rfl (lv_at hl 1 rfl) ?_
          refine va_get (D := D) (ci := 1) (v := .ref (ad 3)) (C := RX1) (T := TX1) (N := 6) hx hb hts u_X1 hown hk.1 hP 28 rfl rfl 0 (by decide) (hts _ q1_209) (fun _ h9 => h9) rfl dX1_fits_79 ?_
          refine lv_iload_n hx hb dX1_fits_82 rfl (lv_at hl 2 rfl) ?_
          refine lv_iconst (v := 1) hx hb dX1_fits_83 (by decide) ?_
          refine go_i (ru_V (n := 2) ⟨hx, hb, hml, hown, hts⟩ hk hP (c_X4_sideOfCell l D cI cL cZ ad c_sr t_n t_r t_w s_w s_h s_c s_p s_s p_nx p_sz r_k r_r r_p l_z q_z t_t b_l b_b b_n r_t l_l l_b l_n q_l q_b q_n t_le s_cs s_ps s_ha s_en pk ik s_ro s_me s_be s_se s_co pl pb pn il ib im l_a q_a hAd p1 1 _ rfl) (cwV 2 hts (gV q3_128 q2_74 q2_75 q1_3 q2_76) rfl rfl rfl hd_X4_sideOfCell ⟨Nat.le_of_ble_eq_true rfl, Nat.le_of_ble_eq_true rfl⟩) (va_recv hk.1 hP (ci := 4) (q0 := 3) rfl rfl) rfl hl.1 rfl (Nat.le_of_ble_eq_true rfl) dX1_fits_84 ⟨Nat.zero_le _, Nat.zero_le _⟩) hS (fun _ h => h) (fun H locs hP hS => ?_)
          have hP : va_P D vwCl (cw ad cI cL cZ c_sr t_n t_r t_w s_w s_h s_c s_p s_s p_nx p_sz r_k r_r r_p l_z q_z t_t b_l b_b b_n r_t l_l l_b l_n q_l q_b q_n t_le s_cs s_ps s_ha s_en pk ik s_ro s_me s_be s_se s_co pl pb pn il ib im l_a q_a) H := hP
          refine lv_iconst (v := 1) hx hb dX1_fits_87 (by decide) ?_
          refine go_i (ru_V (n := 2) ⟨hx, hb, hml, hown, hts⟩ hk hP (c_X4_hand l D cI cL cZ ad c_sr t_n t_r t_w s_w s_h s_c s_p s_s p_nx p_sz r_k r_r r_p l_z q_z t_t b_l b_b b_n r_t l_l l_b l_n q_l q_b q_n t_le s_cs s_ps s_ha s_en pk ik s_ro s_me s_be s_se s_co pl pb pn il ib im l_a q_a hAd (f_X4_sideOfCell p1 1 s_cs) 1 _ rfl) (cwV 2 hts (gV q3_141 q2_32 q2_33 q1_3 q2_34) rfl rfl rfl hd_X4_hand ⟨Nat.le_of_ble_eq_true rfl, Nat.le_of_ble_eq_true rfl⟩) (va_recv hk.1 hP (ci := 4) (q0 := 3) rfl rfl) rfl hl.1 rfl (Nat.le_of_ble_eq_true rfl) dX1_fits_88 ⟨Nat.zero_le _, Nat.zero_le _⟩) hS (fun _ h => h) (fun H locs hP hS => ?_)
          have hP : va_P D vwCl (cw ad cI cL cZ c_sr t_n t_r t_w s_w s_h s_c s_p s_s p_nx p_sz r_k r_r r_p l_z q_z t_t b_l b_b b_n r_t l_l l_b l_n q_l q_b q_n t_le s_cs s_ps s_ha s_en pk ik s_ro s_me s_be s_se s_co pl pb pn il ib im l_a q_a) H := hP
          refine lv_istore (lv' := [(6, .int (f_X4_hand (f_X4_sideOfCell p1 1 s_cs) 1 s_ha)), (4, .long (f_X4_settledFrom p1 s_se)), (0, .ref (ad 28)), (1, .int p1), (2, .long p2)]) hx hb dX1_fits_91 hl (by decide) rfl (fun ls hl => ?_)
          refine lv_aload_n hx hb dX1_fits_93 rfl (lv_at hl 2 rfl) ?_
          refine va_get (D := D) (ci := 1) (v := .ref (ad 3)) (C := RX1) (T := TX1) (N := 6) hx hb hts u_X1 hown hk.1 hP 28 rfl rfl 0 (by decide) (hts _ q1_209) (fun _ h9 => h9) rfl dX1_fits_94 ?_
          refine lv_aload_n hx hb dX1_fits_97 rfl (lv_at hl 2 rfl) ?_
          refine va_get (D := D) (ci := 1) (v := .ref (ad 3)) (C := RX1) (T := TX1) (N := 6) hx hb hts u_X1 hown hk.1 hP 28 rfl rfl 0 (by decide) (hts _ q1_209) (fun _ h9 => h9) rfl dX1_fits_98 ?_
          refine lv_iload_n hx hb dX1_fits_101 rfl (lv_at hl 3 rfl) ?_
          refine lv_iconst (v := 3) hx hb dX1_fits_102 (by decide) ?_
          refine go_i (ru_V (n := 2) ⟨hx, hb, hml, hown, hts⟩ hk hP (c_X4_sideOfCell l D cI cL cZ ad c_sr t_n t_r t_w s_w s_h s_c s_p s_s p_nx p_sz r_k r_r r_p l_z q_z t_t b_l b_b b_n r_t l_l l_b l_n q_l q_b q_n t_le s_cs s_ps s_ha s_en pk ik s_ro s_me s_be s_se s_co pl pb pn il ib im l_a q_a hAd p1 3 _ rfl) (cwV 2 hts (gV q3_128 q2_74 q2_75 q1_3 q2_76) rfl rfl rfl hd_X4_sideOfCell ⟨Nat.le_of_ble_eq_true rfl, Nat.le_of_ble_eq_true rfl⟩) (va_recv hk.1 hP (ci := 4) (q0 := 3) rfl rfl) rfl hl.1 rfl (Nat.le_of_ble_eq_true rfl) dX1_fits_103 ⟨Nat.zero_le _, Nat.zero_le _⟩) hS (fun _ h => h) (fun H locs hP hS => ?_)
          have hP : va_P D vwCl (cw ad cI cL cZ c_sr t_n t_r t_w s_w s_h s_c s_p s_s p_nx p_sz r_k r_r r_p l_z q_z t_t b_l b_b b_n r_t l_l l_b l_n q_l q_b q_n t_le s_cs s_ps s_ha s_en pk ik s_ro s_me s_be s_se s_co pl pb pn il ib im l_a q_a) H := hP
          refine lv_iconst (v := 1) hx hb dX1_fits_106 (by decide) ?_
          refine go_i (ru_V (n := 2) ⟨hx, hb, hml, hown, hts⟩ hk hP (c_X4_hand l D cI cL cZ ad c_sr t_n t_r t_w s_w s_h s_c s_p s_s p_nx p_sz r_k r_r r_p l_z q_z t_t b_l b_b b_n r_t l_l l_b l_n q_l q_b q_n t_le s_cs s_ps s_ha s_en pk ik s_ro s_me s_be s_se s_co pl pb pn il ib im l_a q_a hAd (f_X4_sideOfCell p1 3 s_cs) 1 _ rfl) (cwV 2 hts (gV q3_141 q2_32 q2_33 q1_3 q2_34) rfl rfl rfl hd_X4_hand ⟨Nat.le_of_ble_eq_true rfl, Nat.le_of_ble_eq_true rfl⟩) (va_recv hk.1 hP (ci := 4) (q0 := 3) rfl rfl) rfl hl.1 rfl (Nat.le_of_ble_eq_true rfl) dX1_fits_107 ⟨Nat.zero_le _, Nat.zero_le _⟩) hS (fun _ h => h) (fun H locs hP hS => ?_)
          have hP : va_P D vwCl (cw ad cI cL cZ c_sr t_n t_r t_w s_w s_h s_c s_p s_s p_nx p_sz r_k r_r r_p l_z q_z t_t b_l b_b b_n r_t l_l l_b l_n q_l q_b q_n t_le s_cs s_ps s_ha s_en pk ik s_ro s_me s_be s_se s_co pl pb pn il ib im l_a q_a) H := hP
          refine lv_istore (lv' := [(7, .int (f_X4_hand (f_X4_sideOfCell p1 3 s_cs) 1 s_ha)), (6, .int (f_X4_hand (f_X4_sideOfCell p1 1 s_cs) 1 s_ha)), (4, .long (f_X4_settledFrom p1 s_se)), (0, .ref (ad 28)), (1, .int p1), (2, .long p2)]) hx hb dX1_fits_110 hl (by decide) rfl (fun ls hl => ?_)
          refine lv_aload_n hx hb dX1_fits_112 rfl (lv_at hl 3 rfl) ?_
          refine lv_iload_n hx hb dX1_fits_113 rfl (lv_at hl 4 rfl) ?_
          refine lv_lload_n hx hb dX1_fits_114 rfl (lv_at hl 5 rfl) ?_
          refine lv_lload hx hb dX1_fits_115 (lv_at hl 2 rfl) ?_
          refine go_z (ru_V (n := 3) ⟨hx, hb, hml, hown, hts⟩ hk hP (c_X1_fitsNumber_b l D cI cL cZ ad c_sr t_n t_r t_w s_w s_h s_c s_p s_s p_nx p_sz r_k r_r r_p l_z q_z t_t b_l b_b b_n r_t l_l l_b l_n q_l q_b q_n t_le s_cs s_ps s_ha s_en pk ik s_ro s_me s_be s_se s_co pl pb pn il ib im l_a q_a hAd p1 p2 (f_X4_settledFrom p1 s_se) _ rfl) (cwV 3 hts (gV q3_142 q3_144 qs2_12 q1_9 q3_145) rfl rfl rfl hd_X1_fitsNumber ⟨Nat.le_of_ble_eq_true rfl, Nat.le_of_ble_eq_true rfl⟩) (va_recv hk.1 hP (ci := 1) (q0 := 28) rfl rfl) rfl hl.1 rfl (Nat.le_of_ble_eq_true rfl) dX1_fits_117 ⟨Nat.zero_le _, Nat.zero_le _⟩) hS (fun _ h => h) (fun H locs hz117 hP hS => ?_)
          have hP : va_P D vwCl (cw ad cI cL cZ c_sr t_n t_r t_w s_w s_h s_c s_p s_s p_nx p_sz r_k r_r r_p l_z q_z t_t b_l b_b b_n r_t l_l l_b l_n q_l q_b q_n t_le s_cs s_ps s_ha s_en pk ik s_ro s_me s_be s_se s_co pl pb pn il ib im l_a q_a) H := hP
          refine lv_if_eq (tgt := 151) hx hb dX1_fits_120 (by decide) (fun c120 => ?_) (fun c120 => ?_)
          · have hr := (if_pos c120).symm.trans hr
            refine lv_iconst (v := 0) hx hb dX1_fits_151 (by decide) ?_
            subst hr
            exact ret_z hx hb hrt hlocks bz_0 hP hS dX1_fits_152
          · have hr := (if_neg c120).symm.trans hr
            refine lv_aload_n hx hb dX1_fits_123 rfl (lv_at hl 3 rfl) ?_
            refine lv_iload hx hb dX1_fits_124 (lv_at hl 1 rfl) ?_
            refine lv_lload_n hx hb dX1_fits_126 rfl (lv_at hl 5 rfl) ?_
            refine lv_lload hx hb dX1_fits_127 (lv_at hl 2 rfl) ?_
            refine go_z (ru_V (n := 3) ⟨hx, hb, hml, hown, hts⟩ hk hP (c_X1_fitsNumber_b l D cI cL cZ ad c_sr t_n t_r t_w s_w s_h s_c s_p s_s p_nx p_sz r_k r_r r_p l_z q_z t_t b_l b_b b_n r_t l_l l_b l_n q_l q_b q_n t_le s_cs s_ps s_ha s_en pk ik s_ro s_me s_be s_se s_co pl pb pn il ib im l_a q_a hAd (f_X4_hand (f_X4_sideOfCell p1 1 s_cs) 1 s_ha) p2 (f_X4_settledFrom p1 s_se) _ rfl) (cwV 3 hts (gV q3_142 q3_144 qs2_12 q1_9 q3_145) rfl rfl rfl hd_X1_fitsNumber ⟨Nat.le_of_ble_eq_true rfl, Nat.le_of_ble_eq_true rfl⟩) (va_recv hk.1 hP (ci := 1) (q0 := 28) rfl rfl) rfl hl.1 rfl (Nat.le_of_ble_eq_true rfl) dX1_fits_129 ⟨Nat.zero_le _, Nat.zero_le _⟩) hS (fun _ h => h) (fun H locs hz129 hP hS => ?_)
            have hP : va_P D vwCl (cw ad cI cL cZ c_sr t_n t_r t_w s_w s_h s_c s_p s_s p_nx p_sz r_k r_r r_p l_z q_z t_t b_l b_b b_n r_t l_l l_b l_n q_l q_b q_n t_le s_cs s_ps s_ha s_en pk ik s_ro s_me s_be s_se s_co pl pb pn il ib im l_a q_a) H := hP
            refine lv_if_eq (tgt := 151) hx hb dX1_fits_132 (by decide) (fun c132 => ?_) (fun c132 => ?_)
            · have hr := (if_pos c132).symm.trans hr
              refine lv_iconst (v := 0) hx hb dX1_fits_151 (by decide) ?_
              subst hr
              exact ret_z hx hb hrt hlocks bz_0 hP hS dX1_fits_152
            · have hr := (if_neg c132).symm.trans hr
              refine lv_aload_n hx hb dX1_fits_135 rfl (lv_at hl 3 rfl) ?_
              refine lv_iload hx hb dX1_fits_136 (lv_at hl 0 rfl) ?_
              refine lv_lload_n hx hb dX1_fits_138 rfl (lv_at hl 5 rfl) ?_
              refine lv_lload hx hb dX1_fits_139 (lv_at hl 2 rfl) ?_
              refine go_z (ru_V (n := 3) ⟨hx, hb, hml, hown, hts⟩ hk hP (c_X1_fitsNumber_b l D cI cL cZ ad c_sr t_n t_r t_w s_w s_h s_c s_p s_s p_nx p_sz r_k r_r r_p l_z q_z t_t b_l b_b b_n r_t l_l l_b l_n q_l q_b q_n t_le s_cs s_ps s_ha s_en pk ik s_ro s_me s_be s_se s_co pl pb pn il ib im l_a q_a hAd (f_X4_hand (f_X4_sideOfCell p1 3 s_cs) 1 s_ha) p2 (f_X4_settledFrom p1 s_se) _ rfl) (cwV 3 hts (gV q3_142 q3_144 qs2_12 q1_9 q3_145) rfl rfl rfl hd_X1_fitsNumber ⟨Nat.le_of_ble_eq_true rfl, Nat.le_of_ble_eq_true rfl⟩) (va_recv hk.1 hP (ci := 1) (q0 := 28) rfl rfl) rfl hl.1 rfl (Nat.le_of_ble_eq_true rfl) dX1_fits_141 ⟨Nat.zero_le _, Nat.zero_le _⟩) hS (fun _ h => h) (fun H locs hz141 hP hS => ?_)
              have hP : va_P D vwCl (cw ad cI cL cZ c_sr t_n t_r t_w s_w s_h s_c s_p s_s p_nx p_sz r_k r_r r_p l_z q_z t_t b_l b_b b_n r_t l_l l_b l_n q_l q_b q_n t_le s_cs s_ps s_ha s_en pk ik s_ro s_me s_be s_se s_co pl pb pn il ib im l_a q_a) H := hP
              refine lv_if_eq (tgt := 151) hx hb dX1_fits_144 (by decide) (fun c144 => ?_) (fun c144 => ?_)
              · have hr := (if_pos c144).symm.trans hr
                refine lv_iconst (v := 0) hx hb dX1_fits_151 (by decide) ?_
                subst hr
                exact ret_z hx hb hrt hlocks bz_0 hP hS dX1_fits_152
              · have hr := (if_neg c144).symm.trans hr
                refine lv_iconst (v := 1) hx hb dX1_fits_147 (by decide) ?_
                refine lv_goto (tgt := 152) hx hb dX1_fits_148 (by decide) ?_
                subst hr
                exact ret_z hx hb hrt hlocks bz_1 hP hS dX1_fits_152
        · have hr := (if_pos c69).symm.trans hr
          refine lv_iconst (v := 1) hx hb dX1_fits_72 (by decide) ?_
          subst hr
          exact ret_z hx hb hrt hlocks bz_1 hP hS dX1_fits_73
      · have hr := (if_neg c58).symm.trans hr
        refine lv_iconst (v := 0) hx hb dX1_fits_61 (by decide) ?_
        subst hr
        exact ret_z hx hb hrt hlocks bz_0 hP hS dX1_fits_62
    · have hr := (if_neg c39).symm.trans hr
      refine lv_iconst (v := 0) hx hb dX1_fits_42 (by decide) ?_
      subst hr
      exact ret_z hx hb hrt hlocks bz_0 hP hS dX1_fits_43
def f_X1_takeRing_b (p1 : Int64) (q_z : Int32) (s_be : Nat → Int64) (q_a : Nat → Int64) : Int32 × (Nat → Int64) := (if (lg_cmp p1 0) = 0 then (q_z, q_a) else (if (lg_cmp (f_X4_chainOf p1 (f_J13_numberOfTrailingZeros_95d88 p1) s_be) p1) = 0 then (if q_z < 0 then (q_z, q_a) else (if 2 ≤ q_z then (q_z, q_a) else (q_z + 1, vp_updL q_a q_z.toNatClampNeg p1))) else (q_z, q_a)))
set_option maxHeartbeats 4000000 in
set_option maxRecDepth 100000 in
theorem c_X1_takeRing_b (l : Launch) (D : va_G) (cI cL cZ : ClassId) (ad : Nat → Nat) (c_sr t_n t_r t_w s_w s_h s_c s_p s_s p_nx p_sz r_k r_r r_p l_z q_z : Int32) (t_t b_l b_b b_n r_t l_l l_b l_n q_l q_b q_n : Int64) (t_le s_cs s_ps s_ha s_en pk ik : Nat → Int32) (s_ro s_me s_be s_se s_co pl pb pn il ib im l_a q_a : Nat → Int64) (hAd : cInj ad) (p1 : Int64) (r : Int32 × (Nat → Int64)) (hr : f_X1_takeRing_b p1 q_z s_be q_a = r) : MV l yX1_takeRing (Cond.code yX1_takeRing cX1_takeRing 4 none :: W0) 3 74 D cI cL cZ (cAd ad) [.ref (ad 28), .long p1] (cw ad cI cL cZ c_sr t_n t_r t_w s_w s_h s_c s_p s_s p_nx p_sz r_k r_r r_p l_z q_z t_t b_l b_b b_n r_t l_l l_b l_n q_l q_b q_n t_le s_cs s_ps s_ha s_en pk ik s_ro s_me s_be s_se s_co pl pb pn il ib im l_a q_a) (cw ad cI cL cZ c_sr t_n t_r t_w s_w s_h s_c s_p s_s p_nx p_sz r_k r_r r_p l_z r.1 t_t b_l b_b b_n r_t l_l l_b l_n q_l q_b q_n t_le s_cs s_ps s_ha s_en pk ik s_ro s_me s_be s_se s_co pl pb pn il ib im l_a r.2) := by
  refine mk_start (cc := cX1_takeRing) (maxL := 4) (ret := none) (by decide) rfl (Nat.le_of_ble_eq_true rfl) ?_
  intro p e s m below meth c ls C hP hS hl
  obtain ⟨hx, hb, hml, hrt, hlocks, hown, hts, hk⟩ := C
  have hown : s.vm.findClass RX1 = some m.cls := hown
  have hl : lv_has ls 4 [(0, .ref (ad 28)), (1, .long p1)] := hl
  rw [f_X1_takeRing_b] at hr
  refine lv_lload_n hx hb dX1_takeRing_0 rfl (lv_at hl 1 rfl) ?_
  refine lv_lconst (v := 0) hx hb dX1_takeRing_1 (by decide) ?_
  refine W.lcmp hx hb dX1_takeRing_2 ?_
  refine lv_if_eq (tgt := 27) hx hb dX1_takeRing_3 (by decide) (fun c3 => ?_) (fun c3 => ?_)
  · have hr := (if_pos c3).symm.trans hr
    refine lv_iconst (v := 0) hx hb dX1_takeRing_27 (by decide) ?_
    refine lv_istore_n (lv' := [(3, .int 0), (0, .ref (ad 28)), (1, .long p1)]) hx hb dX1_takeRing_28 rfl hl (by decide) rfl (fun ls hl => ?_)
    refine lv_iload_n hx hb dX1_takeRing_29 rfl (lv_at hl 0 rfl) ?_
    refine lv_if_eq (tgt := 72) hx hb dX1_takeRing_30 (by decide) (fun c30 => ?_) (fun c30 => ?_)
    · subst hr
      exact ret_v hx hb hrt hlocks hP hS dX1_takeRing_72
    · exact absurd (by decide) c30
  · have hr := (if_neg c3).symm.trans hr
    refine lv_aload_n hx hb dX1_takeRing_6 rfl (lv_at hl 0 rfl) ?_
    refine va_get (D := D) (ci := 1) (v := .ref (ad 3)) (C := RX1) (T := TX1) (N := 6) hx hb hts u_X1 hown hk.1 hP 28 rfl rfl 0 (by decide) (hts _ q1_209) (fun _ h9 => h9) rfl dX1_takeRing_7 ?_
    refine lv_lload_n hx hb dX1_takeRing_10 rfl (lv_at hl 1 rfl) ?_
    refine lv_lload_n hx hb dX1_takeRing_11 rfl (lv_at hl 1 rfl) ?_
    refine go_i (ru_S (n := 1) ⟨hx, hb, hml, hown, hts⟩ hk hP (c_J13_numberOfTrailingZeros_95d88 l D cI cL cZ (cAd ad) (cw ad cI cL cZ c_sr t_n t_r t_w s_w s_h s_c s_p s_s p_nx p_sz r_k r_r r_p l_z q_z t_t b_l b_b b_n r_t l_l l_b l_n q_l q_b q_n t_le s_cs s_ps s_ha s_en pk ik s_ro s_me s_be s_se s_co pl pb pn il ib im l_a q_a) p1 _ rfl) (va_cwS 1 hts (gS q3_125 q3_28 q1_13 q3_29) rfl rfl rfl hd_J13_numberOfTrailingZeros_95d88 ⟨Nat.le_of_ble_eq_true rfl, Nat.le_of_ble_eq_true rfl⟩) rfl hl.1 rfl (Nat.le_of_ble_eq_true rfl) dX1_takeRing_12 ⟨Nat.zero_le _, Nat.zero_le _⟩) hS (fun _ h => h) (fun H locs hP hS => ?_)
    have hP : va_P D vwCl (cw ad cI cL cZ c_sr t_n t_r t_w s_w s_h s_c s_p s_s p_nx p_sz r_k r_r r_p l_z q_z t_t b_l b_b b_n r_t l_l l_b l_n q_l q_b q_n t_le s_cs s_ps s_ha s_en pk ik s_ro s_me s_be s_se s_co pl pb pn il ib im l_a q_a) H := hP
    refine go_l (ru_V (n := 2) ⟨hx, hb, hml, hown, hts⟩ hk hP (c_X4_chainOf l D cI cL cZ ad c_sr t_n t_r t_w s_w s_h s_c s_p s_s p_nx p_sz r_k r_r r_p l_z q_z t_t b_l b_b b_n r_t l_l l_b l_n q_l q_b q_n t_le s_cs s_ps s_ha s_en pk ik s_ro s_me s_be s_se s_co pl pb pn il ib im l_a q_a hAd p1 (f_J13_numberOfTrailingZeros_95d88 p1) _ rfl) (cwV 2 hts (gV q3_126 q3_24 q3_25 q1_3 q3_26) rfl rfl rfl hd_X4_chainOf ⟨Nat.le_of_ble_eq_true rfl, Nat.le_of_ble_eq_true rfl⟩) (va_recv hk.1 hP (ci := 4) (q0 := 3) rfl rfl) rfl hl.1 rfl (Nat.le_of_ble_eq_true rfl) dX1_takeRing_15 ⟨Nat.zero_le _, Nat.zero_le _⟩) hS (fun _ h => h) (fun H locs hP hS => ?_)
    have hP : va_P D vwCl (cw ad cI cL cZ c_sr t_n t_r t_w s_w s_h s_c s_p s_s p_nx p_sz r_k r_r r_p l_z q_z t_t b_l b_b b_n r_t l_l l_b l_n q_l q_b q_n t_le s_cs s_ps s_ha s_en pk ik s_ro s_me s_be s_se s_co pl pb pn il ib im l_a q_a) H := hP
    refine lv_lload_n hx hb dX1_takeRing_18 rfl (lv_at hl 1 rfl) ?_
    refine W.lcmp hx hb dX1_takeRing_19 ?_
    refine lv_if_ne (tgt := 27) hx hb dX1_takeRing_20 (by decide) (fun c20 => ?_) (fun c20 => ?_)
    · have hr := (if_neg c20).symm.trans hr
      refine lv_iconst (v := 0) hx hb dX1_takeRing_27 (by decide) ?_
      refine lv_istore_n (lv' := [(3, .int 0), (0, .ref (ad 28)), (1, .long p1)]) hx hb dX1_takeRing_28 rfl hl (by decide) rfl (fun ls hl => ?_)
      refine lv_iload_n hx hb dX1_takeRing_29 rfl (lv_at hl 0 rfl) ?_
      refine lv_if_eq (tgt := 72) hx hb dX1_takeRing_30 (by decide) (fun c30 => ?_) (fun c30 => ?_)
      · subst hr
        exact ret_v hx hb hrt hlocks hP hS dX1_takeRing_72
      · exact absurd (by decide) c30
    · have hr := (if_pos c20).symm.trans hr
      refine lv_iconst (v := 1) hx hb dX1_takeRing_23 (by decide) ?_
      refine lv_goto (tgt := 28) hx hb dX1_takeRing_24 (by decide) ?_
      refine lv_istore_n (lv' := [(3, .int 1), (0, .ref (ad 28)), (1, .long p1)]) hx hb dX1_takeRing_28 rfl hl (by decide) rfl (fun ls hl => ?_)
      refine lv_iload_n hx hb dX1_takeRing_29 rfl (lv_at hl 0 rfl) ?_
      refine lv_if_eq (tgt := 72) hx hb dX1_takeRing_30 (by decide) (fun c30 => ?_) (fun c30 => ?_)
      · exact absurd c30 (by decide)
      · refine lv_aload_n hx hb dX1_takeRing_33 rfl (lv_at hl 1 rfl) ?_
        refine va_get (D := D) (ci := 1) (v := .int q_z) (C := RX1) (T := TX1) (N := 6) hx hb hts u_X1 hown hk.1 hP 28 rfl rfl 5 (by decide) (hts _ q1_214) (fun _ h9 => h9) rfl dX1_takeRing_34 ?_
        refine lv_if_lt (tgt := 72) hx hb dX1_takeRing_37 (by decide) (fun c37 => ?_) (fun c37 => ?_)
        · have hr := (if_pos c37).symm.trans hr
          subst hr
          exact ret_v hx hb hrt hlocks hP hS dX1_takeRing_72
        · have hr := (if_neg c37).symm.trans hr
          refine lv_aload_n hx hb dX1_takeRing_40 rfl (lv_at hl 1 rfl) ?_
          refine va_get (D := D) (ci := 1) (v := .int q_z) (C := RX1) (T := TX1) (N := 6) hx hb hts u_X1 hown hk.1 hP 28 rfl rfl 5 (by decide) (hts _ q1_214) (fun _ h9 => h9) rfl dX1_takeRing_41 ?_
          refine lv_aload_n hx hb dX1_takeRing_44 rfl (lv_at hl 1 rfl) ?_
          refine va_get (D := D) (ci := 1) (v := .ref (ad 29)) (C := RX1) (T := TX1) (N := 6) hx hb hts u_X1 hown hk.1 hP 28 rfl rfl 1 (by decide) (hts _ q1_210) (fun _ h9 => h9) rfl dX1_takeRing_45 ?_
          refine va_alen (v := 2) hx hb hk.1 hP 29 1 rfl rfl rfl dX1_takeRing_48 ?_
          refine lv_icmp_ge (tgt := 72) hx hb dX1_takeRing_49 (by decide) (fun c49 => ?_) (fun c49 => ?_)
          · have hr := (if_pos c49).symm.trans hr
            subst hr
            exact ret_v hx hb hrt hlocks hP hS dX1_takeRing_72
          · have hr := (if_neg c49).symm.trans hr
            refine lv_aload_n hx hb dX1_takeRing_52 rfl (lv_at hl 1 rfl) ?_
            refine va_get (D := D) (ci := 1) (v := .ref (ad 29)) (C := RX1) (T := TX1) (N := 6) hx hb hts u_X1 hown hk.1 hP 28 rfl rfl 1 (by decide) (hts _ q1_210) (fun _ h9 => h9) rfl dX1_takeRing_53 ?_
            refine lv_aload_n hx hb dX1_takeRing_56 rfl (lv_at hl 1 rfl) ?_
            refine va_get (D := D) (ci := 1) (v := .int q_z) (C := RX1) (T := TX1) (N := 6) hx hb hts u_X1 hown hk.1 hP 28 rfl rfl 5 (by decide) (hts _ q1_214) (fun _ h9 => h9) rfl dX1_takeRing_57 ?_
            refine lv_lload_n hx hb dX1_takeRing_60 rfl (lv_at hl 2 rfl) ?_
            refine va_last hx hb hk.1 hP (cw_D hAd) hS 29 1 (rfl) rfl (vin_c (nn_of c37) c49 (by decide)) dX1_takeRing_61 (fun H locs hP _ hS => ?_)
            have hP : va_P D vwCl (cw ad cI cL cZ c_sr t_n t_r t_w s_w s_h s_c s_p s_s p_nx p_sz r_k r_r r_p l_z q_z t_t b_l b_b b_n r_t l_l l_b l_n q_l q_b q_n t_le s_cs s_ps s_ha s_en pk ik s_ro s_me s_be s_se s_co pl pb pn il ib im l_a (vp_updL q_a q_z.toNatClampNeg p1)) H := hP
            refine lv_aload_n hx hb dX1_takeRing_62 rfl (lv_at hl 1 rfl) ?_
            refine lv_dup hx hb dX1_takeRing_63 rfl ?_
            refine va_get (D := D) (ci := 1) (v := .int q_z) (C := RX1) (T := TX1) (N := 6) hx hb hts u_X1 hown hk.1 hP 28 rfl rfl 5 (by decide) (hts _ q1_214) (fun _ h9 => h9) rfl dX1_takeRing_64 ?_
            refine lv_iconst (v := 1) hx hb dX1_takeRing_67 (by decide) ?_
            refine lv_iadd hx hb dX1_takeRing_68 ?_
            refine va_put (D := D) (ci := 1) (v := .int (q_z + 1)) (ty := .int) (C := RX1) (T := TX1) (N := 6) hx hb hts u_X1 tyX1 tyX1_ok nmX1 hown hk.1 hP (cw_D hAd) hS 28 rfl rfl 5 (by decide) (hts _ q1_214) (fun _ h9 => h9) rfl (tyX1_ok 5 (by decide)) rfl rfl (Nat.le_of_ble_eq_true rfl) dX1_takeRing_69 (fun H locs hP _ hS => ?_)
            have hP : va_P D vwCl (cw ad cI cL cZ c_sr t_n t_r t_w s_w s_h s_c s_p s_s p_nx p_sz r_k r_r r_p l_z (q_z + 1) t_t b_l b_b b_n r_t l_l l_b l_n q_l q_b q_n t_le s_cs s_ps s_ha s_en pk ik s_ro s_me s_be s_se s_co pl pb pn il ib im l_a (vp_updL q_a q_z.toNatClampNeg p1)) H := hP
            subst hr
            exact ret_v hx hb hrt hlocks hP hS dX1_takeRing_72
def f_X1_ring_b (p1 : Int32) (q_a : Nat → Int64) : Int64 := f_X7_at_ p1 2 q_a
set_option maxHeartbeats 4000000 in
set_option maxRecDepth 100000 in
theorem c_X1_ring_b (l : Launch) (D : va_G) (cI cL cZ : ClassId) (ad : Nat → Nat) (c_sr t_n t_r t_w s_w s_h s_c s_p s_s p_nx p_sz r_k r_r r_p l_z q_z : Int32) (t_t b_l b_b b_n r_t l_l l_b l_n q_l q_b q_n : Int64) (t_le s_cs s_ps s_ha s_en pk ik : Nat → Int32) (s_ro s_me s_be s_se s_co pl pb pn il ib im l_a q_a : Nat → Int64) (hAd : cInj ad) (p1 : Int32) (r : Int64) (hr : f_X1_ring_b p1 q_a = r) : ML l yX1_ring (Cond.code yX1_ring cX1_ring 2 (some .long) :: W0) 1 21 D cI cL cZ (cAd ad) [.ref (ad 28), .int p1] (cw ad cI cL cZ c_sr t_n t_r t_w s_w s_h s_c s_p s_s p_nx p_sz r_k r_r r_p l_z q_z t_t b_l b_b b_n r_t l_l l_b l_n q_l q_b q_n t_le s_cs s_ps s_ha s_en pk ik s_ro s_me s_be s_se s_co pl pb pn il ib im l_a q_a) r (cw ad cI cL cZ c_sr t_n t_r t_w s_w s_h s_c s_p s_s p_nx p_sz r_k r_r r_p l_z q_z t_t b_l b_b b_n r_t l_l l_b l_n q_l q_b q_n t_le s_cs s_ps s_ha s_en pk ik s_ro s_me s_be s_se s_co pl pb pn il ib im l_a q_a) := by
  refine mk_start (cc := cX1_ring) (maxL := 2) (ret := (some .long)) (by decide) rfl (Nat.le_of_ble_eq_true rfl) ?_
  intro p e s m below meth c ls C hP hS hl
  obtain ⟨hx, hb, hml, hrt, hlocks, hown, hts, hk⟩ := C
  have hown : s.vm.findClass RX1 = some m.cls := hown
  have hl : lv_has ls 2 [(0, .ref (ad 28)), (1, .int p1)] := hl
  rw [f_X1_ring_b] at hr
  refine lv_aload_n hx hb dX1_ring_0 rfl (lv_at hl 0 rfl) ?_
  refine va_get (D := D) (ci := 1) (v := .ref (ad 29)) (C := RX1) (T := TX1) (N := 6) hx hb hts u_X1 hown hk.1 hP 28 rfl rfl 1 (by decide) (hts _ q1_210) (fun _ h9 => h9) rfl dX1_ring_1 ?_
  refine lv_iload_n hx hb dX1_ring_4 rfl (lv_at hl 1 rfl) ?_
  refine go_l (ru_N (n := 2) ⟨hx, hb, hml, hown, hts⟩ hk hP (c_X7_at_ l D cI cL cZ (cAd ad) (cw ad cI cL cZ c_sr t_n t_r t_w s_w s_h s_c s_p s_s p_nx p_sz r_k r_r r_p l_z q_z t_t b_l b_b b_n r_t l_l l_b l_n q_l q_b q_n t_le s_cs s_ps s_ha s_en pk ik s_ro s_me s_be s_se s_co pl pb pn il ib im l_a q_a) 29 (ad 29) 2 _ rfl (cw_D hAd) q_a p1 _ rfl (by decide)) ⟨va_cnB 2 hts (gN q3_95) rfl rfl rfl (hk.2 _ nwm_X1_51) (hts _ q1_1) hd_X7_at_ ⟨Nat.le_of_ble_eq_true rfl, Nat.le_of_ble_eq_true rfl⟩, hts _ q3_94, trivial⟩ rfl hl.1 rfl (Nat.le_of_ble_eq_true rfl) dX1_ring_5 ⟨Nat.zero_le _, Nat.zero_le _⟩) hS (fun _ h => h) (fun H locs hP hS => ?_)
  have hP : va_P D vwCl (cw ad cI cL cZ c_sr t_n t_r t_w s_w s_h s_c s_p s_s p_nx p_sz r_k r_r r_p l_z q_z t_t b_l b_b b_n r_t l_l l_b l_n q_l q_b q_n t_le s_cs s_ps s_ha s_en pk ik s_ro s_me s_be s_se s_co pl pb pn il ib im l_a q_a) H := hP
  subst hr
  exact ret_l hx hb hrt hlocks hP hS dX1_ring_8
theorem hd_X1_inAll : yX1_inAll.cls = RX1 ∧ yX1_inAll.cls ≠ "java/lang/invoke/MethodHandle" ∧ yX1_inAll.cls ≠ "java/lang/invoke/VarHandle" ∧ (parseMethodDescriptor yX1_inAll.desc).map (fun d => d.parameters.length) = some 0 := by decide +kernel
def F_X1_inAll_10 (l_z : Int32) (l_a : Nat → Int64) {β : Type} (k0 : Int64 → β) : Nat → Int64 → Int32 → β
  | 0, x1, x3 => k0 x1
  | n + 1, x1, x3 => (if l_z ≤ x3 then k0 x1 else (if 10000 ≤ x3 then k0 x1 else F_X1_inAll_10 l_z l_a k0 n (x1 &&& (l_a x3.toNatClampNeg)) (x3 + 1)))
def f_X1_inAll (s_s : Int32) (l_z : Int32) (l_a : Nat → Int64) : Int64 := F_X1_inAll_10 l_z l_a (fun z1 => z1) (fu l_z (0 : Int32)) (f_X4_allSides s_s) 0
set_option maxHeartbeats 4000000 in
set_option maxRecDepth 100000 in
theorem lp_X1_inAll_10 (l : Launch) (D : va_G) (cI cL cZ : ClassId) (ad : Nat → Nat) (c_sr t_n t_r t_w s_w s_h s_c s_p s_s p_nx p_sz r_k r_r r_p l_z q_z : Int32) (t_t b_l b_b b_n r_t l_l l_b l_n q_l q_b q_n : Int64) (t_le s_cs s_ps s_ha s_en pk ik : Nat → Int32) (s_ro s_me s_be s_se s_co pl pb pn il ib im l_a q_a : Nat → Int64) {p : Program} {e : Env} {s : State} {m : MethodId} {args : Array Value} {below : List Frame} {meth : Method} {c : Code} {Q : State → Prop} (C : Cx p s m args meth c cX1_inAll 4 (some .long) W0 RX1 D cI cL cZ) (hAd : cInj ad) {β : Type} (k0 : Int64 → β) (r : β)
    (h0 : ∀ (e1 : Int64) (H : Heap) (locs : List Loc) (ls : Array Slot), k0 e1 = r → va_P D vwCl (cw ad cI cL cZ c_sr t_n t_r t_w s_w s_h s_c s_p s_s p_nx p_sz r_k r_r r_p l_z q_z t_t b_l b_b b_n r_t l_l l_b l_n q_l q_b q_n t_le s_cs s_ps s_ha s_en pk ik s_ro s_me s_be s_se s_co pl pb pn il ib im l_a q_a) H → va_S (cAd ad) s.heap H locs → lv_has ls 4 [(1, .long e1)] → W p l e (rmS 2 40) s m args below meth c H locs 0 0 Q (F0 m 42 ls [])) :
    ∀ (n : Nat) (x1 : Int64) (x3 : Int32) (H : Heap) (locs : List Loc) (ls : Array Slot), fuU n l_z x3 → F_X1_inAll_10 l_z l_a k0 n x1 x3 = r → va_P D vwCl (cw ad cI cL cZ c_sr t_n t_r t_w s_w s_h s_c s_p s_s p_nx p_sz r_k r_r r_p l_z q_z t_t b_l b_b b_n r_t l_l l_b l_n q_l q_b q_n t_le s_cs s_ps s_ha s_en pk ik s_ro s_me s_be s_se s_co pl pb pn il ib im l_a q_a) H → va_S (cAd ad) s.heap H locs → lv_has ls 4 [(0, .ref (ad 26)), (1, .long x1), (3, .int x3)] → W p l e (rmS 2 40) s m args below meth c H locs 0 0 Q (F0 m 10 ls []) := by
  obtain ⟨hx, hb, hml, hrt, hlocks, hown, hts, hk⟩ := C
  intro n
  induction n with
  | zero =>
    intro x1 x3 H locs ls hf
    exact absurd hf.1 (Nat.lt_irrefl 0)
  | succ n ih =>
    intro x1 x3 H locs ls hf hr hP hS hl
    rw [F_X1_inAll_10] at hr
    refine lv_iload_n hx hb dX1_inAll_10 rfl (lv_at hl 2 rfl) ?_
    refine lv_aload_n hx hb dX1_inAll_11 rfl (lv_at hl 0 rfl) ?_
    refine va_get (D := D) (ci := 1) (v := .int l_z) (C := RX1) (T := TX1) (N := 6) hx hb hts u_X1 hown hk.1 hP 26 rfl rfl 5 (by decide) (hts _ q1_214) (fun _ h9 => h9) rfl dX1_inAll_12 ?_
    refine lv_icmp_ge (tgt := 42) hx hb dX1_inAll_15 (by decide) (fun c15 => ?_) (fun c15 => ?_)
    · have hr := (if_pos c15).symm.trans hr
      exact h0 x1 _ _ _ hr hP hS (lv_sub hl [1] rfl)
    · have hr := (if_neg c15).symm.trans hr
      refine lv_iload_n hx hb dX1_inAll_18 rfl (lv_at hl 2 rfl) ?_
      refine lv_aload_n hx hb dX1_inAll_19 rfl (lv_at hl 0 rfl) ?_
      refine va_get (D := D) (ci := 1) (v := .ref (ad 27)) (C := RX1) (T := TX1) (N := 6) hx hb hts u_X1 hown hk.1 hP 26 rfl rfl 1 (by decide) (hts _ q1_210) (fun _ h9 => h9) rfl dX1_inAll_20 ?_
      refine va_alen (v := 10000) hx hb hk.1 hP 27 1 rfl rfl rfl dX1_inAll_23 ?_
      refine lv_icmp_ge (tgt := 42) hx hb dX1_inAll_24 (by decide) (fun c24 => ?_) (fun c24 => ?_)
      · have hr := (if_pos c24).symm.trans hr
        exact h0 x1 _ _ _ hr hP hS (lv_sub hl [1] rfl)
      · have hr := (if_neg c24).symm.trans hr
        refine lv_lload_n hx hb dX1_inAll_27 rfl (lv_at hl 1 rfl) ?_
        refine lv_aload_n hx hb dX1_inAll_28 rfl (lv_at hl 0 rfl) ?_
        refine va_get (D := D) (ci := 1) (v := .ref (ad 27)) (C := RX1) (T := TX1) (N := 6) hx hb hts u_X1 hown hk.1 hP 26 rfl rfl 1 (by decide) (hts _ q1_210) (fun _ h9 => h9) rfl dX1_inAll_29 ?_
        refine lv_iload_n hx hb dX1_inAll_32 rfl (lv_at hl 2 rfl) ?_
        refine va_lald hx hb hk.1 hP 27 1 (rfl) rfl (vin_c hf.2.2 c24 (by decide)) dX1_inAll_33 ?_
        refine lv_land hx hb dX1_inAll_34 ?_
        refine lv_lstore_n (lv' := [(1, .long (x1 &&& (l_a x3.toNatClampNeg))), (0, .ref (ad 26)), (3, .int x3)]) hx hb dX1_inAll_35 rfl hl (by decide) rfl (fun ls hl => ?_)
        refine lv_iinc (v := x3 + 1) (lv' := [(3, .int (x3 + 1)), (1, .long (x1 &&& (l_a x3.toNatClampNeg))), (0, .ref (ad 26))]) hx hb dX1_inAll_36 hl (k := 2) rfl rfl (by decide) rfl (fun ls hl => ?_)
        refine lv_goto (tgt := 10) hx hb dX1_inAll_39 (by decide) ?_
        exact ih (x1 &&& (l_a x3.toNatClampNeg)) (x3 + 1) _ _ _ (fuU_s hf c15) hr hP hS (lv_sub hl [2, 1, 0] rfl)
set_option maxHeartbeats 4000000 in
set_option maxRecDepth 100000 in
theorem c_X1_inAll (l : Launch) (D : va_G) (cI cL cZ : ClassId) (ad : Nat → Nat) (c_sr t_n t_r t_w s_w s_h s_c s_p s_s p_nx p_sz r_k r_r r_p l_z q_z : Int32) (t_t b_l b_b b_n r_t l_l l_b l_n q_l q_b q_n : Int64) (t_le s_cs s_ps s_ha s_en pk ik : Nat → Int32) (s_ro s_me s_be s_se s_co pl pb pn il ib im l_a q_a : Nat → Int64) (hAd : cInj ad) (r : Int64) (hr : f_X1_inAll s_s l_z l_a = r) : ML l yX1_inAll (Cond.code yX1_inAll cX1_inAll 4 (some .long) :: W0) 2 40 D cI cL cZ (cAd ad) [.ref (ad 26)] (cw ad cI cL cZ c_sr t_n t_r t_w s_w s_h s_c s_p s_s p_nx p_sz r_k r_r r_p l_z q_z t_t b_l b_b b_n r_t l_l l_b l_n q_l q_b q_n t_le s_cs s_ps s_ha s_en pk ik s_ro s_me s_be s_se s_co pl pb pn il ib im l_a q_a) r (cw ad cI cL cZ c_sr t_n t_r t_w s_w s_h s_c s_p s_s p_nx p_sz r_k r_r r_p l_z q_z t_t b_l b_b b_n r_t l_l l_b l_n q_l q_b q_n t_le s_cs s_ps s_ha s_en pk ik s_ro s_me s_be s_se s_co pl pb pn il ib im l_a q_a) := by
  refine mk_start (cc := cX1_inAll) (maxL := 4) (ret := (some .long)) (by decide) rfl (Nat.le_of_ble_eq_true rfl) ?_
  intro p e s m below meth c ls C hP hS hl
  obtain ⟨hx, hb, hml, hrt, hlocks, hown, hts, hk⟩ := C
  have hown : s.vm.findClass RX1 = some m.cls := hown
  have hl : lv_has ls 4 [(0, .ref (ad 26))] := hl
  rw [f_X1_inAll] at hr
  refine lv_aload_n hx hb dX1_inAll_0 rfl (lv_at hl 0 rfl) ?_
  refine va_get (D := D) (ci := 1) (v := .ref (ad 3)) (C := RX1) (T := TX1) (N := 6) hx hb hts u_X1 hown hk.1 hP 26 rfl rfl 0 (by decide) (hts _ q1_209) (fun _ h9 => h9) rfl dX1_inAll_1 ?_
  refine go_l (ru_V (n := 0) ⟨hx, hb, hml, hown, hts⟩ hk hP (c_X4_allSides l D cI cL cZ ad c_sr t_n t_r t_w s_w s_h s_c s_p s_s p_nx p_sz r_k r_r r_p l_z q_z t_t b_l b_b b_n r_t l_l l_b l_n q_l q_b q_n t_le s_cs s_ps s_ha s_en pk ik s_ro s_me s_be s_se s_co pl pb pn il ib im l_a q_a hAd _ rfl) (cwV 0 hts (gV q3_167 q3_168 q3_169 q1_3 q3_170) rfl rfl rfl hd_X4_allSides ⟨Nat.le_of_ble_eq_true rfl, Nat.le_of_ble_eq_true rfl⟩) (va_recv hk.1 hP (ci := 4) (q0 := 3) rfl rfl) rfl hl.1 rfl (Nat.le_of_ble_eq_true rfl) dX1_inAll_4 ⟨Nat.zero_le _, Nat.zero_le _⟩) hS (fun _ h => h) (fun H locs hP hS => ?_)
  have hP : va_P D vwCl (cw ad cI cL cZ c_sr t_n t_r t_w s_w s_h s_c s_p s_s p_nx p_sz r_k r_r r_p l_z q_z t_t b_l b_b b_n r_t l_l l_b l_n q_l q_b q_n t_le s_cs s_ps s_ha s_en pk ik s_ro s_me s_be s_se s_co pl pb pn il ib im l_a q_a) H := hP
  refine lv_lstore_n (lv' := [(1, .long (f_X4_allSides s_s)), (0, .ref (ad 26))]) hx hb dX1_inAll_7 rfl hl (by decide) rfl (fun ls hl => ?_)
  refine lv_iconst (v := 0) hx hb dX1_inAll_8 (by decide) ?_
  refine lv_istore_n (lv' := [(3, .int 0), (1, .long (f_X4_allSides s_s)), (0, .ref (ad 26))]) hx hb dX1_inAll_9 rfl hl (by decide) rfl (fun ls hl => ?_)
  refine lp_X1_inAll_10 l D cI cL cZ ad c_sr t_n t_r t_w s_w s_h s_c s_p s_s p_nx p_sz r_k r_r r_p l_z q_z t_t b_l b_b b_n r_t l_l l_b l_n q_l q_b q_n t_le s_cs s_ps s_ha s_en pk ik s_ro s_me s_be s_se s_co pl pb pn il ib im l_a q_a ⟨hx, hb, hml, hrt, hlocks, hown, hts, hk⟩ hAd _ _ (fun z1 H locs ls hr hP hS hl => ?_) (fu l_z (0 : Int32)) (f_X4_allSides s_s) 0 _ _ _ (fuU_0 (by decide)) hr hP hS (lv_sub hl [2, 1, 0] rfl)
  refine lv_lload_n hx hb dX1_inAll_42 rfl (lv_at hl 0 rfl) ?_
  subst hr
  exact ret_l hx hb hrt hlocks hP hS dX1_inAll_43
theorem hd_X1_inNone : yX1_inNone.cls = RX1 ∧ yX1_inNone.cls ≠ "java/lang/invoke/MethodHandle" ∧ yX1_inNone.cls ≠ "java/lang/invoke/VarHandle" ∧ (parseMethodDescriptor yX1_inNone.desc).map (fun d => d.parameters.length) = some 0 := by decide +kernel
def F_X1_inNone_4 (l_z : Int32) (l_a : Nat → Int64) {β : Type} (k0 : Int64 → β) : Nat → Int64 → Int32 → β
  | 0, x1, x3 => k0 x1
  | n + 1, x1, x3 => (if l_z ≤ x3 then k0 x1 else (if 10000 ≤ x3 then k0 x1 else F_X1_inNone_4 l_z l_a k0 n (x1 ||| (l_a x3.toNatClampNeg)) (x3 + 1)))
def f_X1_inNone (s_s : Int32) (l_z : Int32) (l_a : Nat → Int64) : Int64 := F_X1_inNone_4 l_z l_a (fun z1 => (f_X4_allSides s_s) &&& (z1 ^^^ ((-1)))) (fu l_z (0 : Int32)) 0 0
set_option maxHeartbeats 4000000 in
set_option maxRecDepth 100000 in
theorem lp_X1_inNone_4 (l : Launch) (D : va_G) (cI cL cZ : ClassId) (ad : Nat → Nat) (c_sr t_n t_r t_w s_w s_h s_c s_p s_s p_nx p_sz r_k r_r r_p l_z q_z : Int32) (t_t b_l b_b b_n r_t l_l l_b l_n q_l q_b q_n : Int64) (t_le s_cs s_ps s_ha s_en pk ik : Nat → Int32) (s_ro s_me s_be s_se s_co pl pb pn il ib im l_a q_a : Nat → Int64) {p : Program} {e : Env} {s : State} {m : MethodId} {args : Array Value} {below : List Frame} {meth : Method} {c : Code} {Q : State → Prop} (C : Cx p s m args meth c cX1_inNone 4 (some .long) W0 RX1 D cI cL cZ) (hAd : cInj ad) {β : Type} (k0 : Int64 → β) (r : β)
    (h0 : ∀ (e1 : Int64) (H : Heap) (locs : List Loc) (ls : Array Slot), k0 e1 = r → va_P D vwCl (cw ad cI cL cZ c_sr t_n t_r t_w s_w s_h s_c s_p s_s p_nx p_sz r_k r_r r_p l_z q_z t_t b_l b_b b_n r_t l_l l_b l_n q_l q_b q_n t_le s_cs s_ps s_ha s_en pk ik s_ro s_me s_be s_se s_co pl pb pn il ib im l_a q_a) H → va_S (cAd ad) s.heap H locs → lv_has ls 4 [(0, .ref (ad 26)), (1, .long e1)] → W p l e (rmS 2 40) s m args below meth c H locs 0 0 Q (F0 m 36 ls [])) :
    ∀ (n : Nat) (x1 : Int64) (x3 : Int32) (H : Heap) (locs : List Loc) (ls : Array Slot), fuU n l_z x3 → F_X1_inNone_4 l_z l_a k0 n x1 x3 = r → va_P D vwCl (cw ad cI cL cZ c_sr t_n t_r t_w s_w s_h s_c s_p s_s p_nx p_sz r_k r_r r_p l_z q_z t_t b_l b_b b_n r_t l_l l_b l_n q_l q_b q_n t_le s_cs s_ps s_ha s_en pk ik s_ro s_me s_be s_se s_co pl pb pn il ib im l_a q_a) H → va_S (cAd ad) s.heap H locs → lv_has ls 4 [(0, .ref (ad 26)), (1, .long x1), (3, .int x3)] → W p l e (rmS 2 40) s m args below meth c H locs 0 0 Q (F0 m 4 ls []) := by
  obtain ⟨hx, hb, hml, hrt, hlocks, hown, hts, hk⟩ := C
  intro n
  induction n with
  | zero =>
    intro x1 x3 H locs ls hf
    exact absurd hf.1 (Nat.lt_irrefl 0)
  | succ n ih =>
    intro x1 x3 H locs ls hf hr hP hS hl
    rw [F_X1_inNone_4] at hr
    refine lv_iload_n hx hb dX1_inNone_4 rfl (lv_at hl 2 rfl) ?_
    refine lv_aload_n hx hb dX1_inNone_5 rfl (lv_at hl 0 rfl) ?_
    refine va_get (D := D) (ci := 1) (v := .int l_z) (C := RX1) (T := TX1) (N := 6) hx hb hts u_X1 hown hk.1 hP 26 rfl rfl 5 (by decide) (hts _ q1_214) (fun _ h9 => h9) rfl dX1_inNone_6 ?_
    refine lv_icmp_ge (tgt := 36) hx hb dX1_inNone_9 (by decide) (fun c9 => ?_) (fun c9 => ?_)
    · have hr := (if_pos c9).symm.trans hr
      exact h0 x1 _ _ _ hr hP hS (lv_sub hl [0, 1] rfl)
    · have hr := (if_neg c9).symm.trans hr
      refine lv_iload_n hx hb dX1_inNone_12 rfl (lv_at hl 2 rfl) ?_
      refine lv_aload_n hx hb dX1_inNone_13 rfl (lv_at hl 0 rfl) ?_
      refine va_get (D := D) (ci := 1) (v := .ref (ad 27)) (C := RX1) (T := TX1) (N := 6) hx hb hts u_X1 hown hk.1 hP 26 rfl rfl 1 (by decide) (hts _ q1_210) (fun _ h9 => h9) rfl dX1_inNone_14 ?_
      refine va_alen (v := 10000) hx hb hk.1 hP 27 1 rfl rfl rfl dX1_inNone_17 ?_
      refine lv_icmp_ge (tgt := 36) hx hb dX1_inNone_18 (by decide) (fun c18 => ?_) (fun c18 => ?_)
      · have hr := (if_pos c18).symm.trans hr
        exact h0 x1 _ _ _ hr hP hS (lv_sub hl [0, 1] rfl)
      · have hr := (if_neg c18).symm.trans hr
        refine lv_lload_n hx hb dX1_inNone_21 rfl (lv_at hl 1 rfl) ?_
        refine lv_aload_n hx hb dX1_inNone_22 rfl (lv_at hl 0 rfl) ?_
        refine va_get (D := D) (ci := 1) (v := .ref (ad 27)) (C := RX1) (T := TX1) (N := 6) hx hb hts u_X1 hown hk.1 hP 26 rfl rfl 1 (by decide) (hts _ q1_210) (fun _ h9 => h9) rfl dX1_inNone_23 ?_
        refine lv_iload_n hx hb dX1_inNone_26 rfl (lv_at hl 2 rfl) ?_
        refine va_lald hx hb hk.1 hP 27 1 (rfl) rfl (vin_c hf.2.2 c18 (by decide)) dX1_inNone_27 ?_
        refine lv_lor hx hb dX1_inNone_28 ?_
        refine lv_lstore_n (lv' := [(1, .long (x1 ||| (l_a x3.toNatClampNeg))), (0, .ref (ad 26)), (3, .int x3)]) hx hb dX1_inNone_29 rfl hl (by decide) rfl (fun ls hl => ?_)
        refine lv_iinc (v := x3 + 1) (lv' := [(3, .int (x3 + 1)), (1, .long (x1 ||| (l_a x3.toNatClampNeg))), (0, .ref (ad 26))]) hx hb dX1_inNone_30 hl (k := 2) rfl rfl (by decide) rfl (fun ls hl => ?_)
        refine lv_goto (tgt := 4) hx hb dX1_inNone_33 (by decide) ?_
        exact ih (x1 ||| (l_a x3.toNatClampNeg)) (x3 + 1) _ _ _ (fuU_s hf c9) hr hP hS (lv_sub hl [2, 1, 0] rfl)
set_option maxHeartbeats 4000000 in
set_option maxRecDepth 100000 in
theorem c_X1_inNone (l : Launch) (D : va_G) (cI cL cZ : ClassId) (ad : Nat → Nat) (c_sr t_n t_r t_w s_w s_h s_c s_p s_s p_nx p_sz r_k r_r r_p l_z q_z : Int32) (t_t b_l b_b b_n r_t l_l l_b l_n q_l q_b q_n : Int64) (t_le s_cs s_ps s_ha s_en pk ik : Nat → Int32) (s_ro s_me s_be s_se s_co pl pb pn il ib im l_a q_a : Nat → Int64) (hAd : cInj ad) (r : Int64) (hr : f_X1_inNone s_s l_z l_a = r) : ML l yX1_inNone (Cond.code yX1_inNone cX1_inNone 4 (some .long) :: W0) 2 40 D cI cL cZ (cAd ad) [.ref (ad 26)] (cw ad cI cL cZ c_sr t_n t_r t_w s_w s_h s_c s_p s_s p_nx p_sz r_k r_r r_p l_z q_z t_t b_l b_b b_n r_t l_l l_b l_n q_l q_b q_n t_le s_cs s_ps s_ha s_en pk ik s_ro s_me s_be s_se s_co pl pb pn il ib im l_a q_a) r (cw ad cI cL cZ c_sr t_n t_r t_w s_w s_h s_c s_p s_s p_nx p_sz r_k r_r r_p l_z q_z t_t b_l b_b b_n r_t l_l l_b l_n q_l q_b q_n t_le s_cs s_ps s_ha s_en pk ik s_ro s_me s_be s_se s_co pl pb pn il ib im l_a q_a) := by
  refine mk_start (cc := cX1_inNone) (maxL := 4) (ret := (some .long)) (by decide) rfl (Nat.le_of_ble_eq_true rfl) ?_
  intro p e s m below meth c ls C hP hS hl
  obtain ⟨hx, hb, hml, hrt, hlocks, hown, hts, hk⟩ := C
  have hown : s.vm.findClass RX1 = some m.cls := hown
  have hl : lv_has ls 4 [(0, .ref (ad 26))] := hl
  rw [f_X1_inNone] at hr
  refine lv_lconst (v := 0) hx hb dX1_inNone_0 (by decide) ?_
  refine lv_lstore_n (lv' := [(1, .long 0), (0, .ref (ad 26))]) hx hb dX1_inNone_1 rfl hl (by decide) rfl (fun ls hl => ?_)
  refine lv_iconst (v := 0) hx hb dX1_inNone_2 (by decide) ?_
  refine lv_istore_n (lv' := [(3, .int 0), (1, .long 0), (0, .ref (ad 26))]) hx hb dX1_inNone_3 rfl hl (by decide) rfl (fun ls hl => ?_)
  refine lp_X1_inNone_4 l D cI cL cZ ad c_sr t_n t_r t_w s_w s_h s_c s_p s_s p_nx p_sz r_k r_r r_p l_z q_z t_t b_l b_b b_n r_t l_l l_b l_n q_l q_b q_n t_le s_cs s_ps s_ha s_en pk ik s_ro s_me s_be s_se s_co pl pb pn il ib im l_a q_a ⟨hx, hb, hml, hrt, hlocks, hown, hts, hk⟩ hAd _ _ (fun z1 H locs ls hr hP hS hl => ?_) (fu l_z (0 : Int32)) 0 0 _ _ _ (fuU_0 (by decide)) hr hP hS (lv_sub hl [2, 1, 0] rfl)
  refine lv_aload_n hx hb dX1_inNone_36 rfl (lv_at hl 0 rfl) ?_
  refine va_get (D := D) (ci := 1) (v := .ref (ad 3)) (C := RX1) (T := TX1) (N := 6) hx hb hts u_X1 hown hk.1 hP 26 rfl rfl 0 (by decide) (hts _ q1_209) (fun _ h9 => h9) rfl dX1_inNone_37 ?_
  refine go_l (ru_V (n := 0) ⟨hx, hb, hml, hown, hts⟩ hk hP (c_X4_allSides l D cI cL cZ ad c_sr t_n t_r t_w s_w s_h s_c s_p s_s p_nx p_sz r_k r_r r_p l_z q_z t_t b_l b_b b_n r_t l_l l_b l_n q_l q_b q_n t_le s_cs s_ps s_ha s_en pk ik s_ro s_me s_be s_se s_co pl pb pn il ib im l_a q_a hAd _ rfl) (cwV 0 hts (gV q3_167 q3_168 q3_169 q1_3 q3_170) rfl rfl rfl hd_X4_allSides ⟨Nat.le_of_ble_eq_true rfl, Nat.le_of_ble_eq_true rfl⟩) (va_recv hk.1 hP (ci := 4) (q0 := 3) rfl rfl) rfl hl.1 rfl (Nat.le_of_ble_eq_true rfl) dX1_inNone_40 ⟨Nat.zero_le _, Nat.zero_le _⟩) hS (fun _ h => h) (fun H locs hP hS => ?_)
  have hP : va_P D vwCl (cw ad cI cL cZ c_sr t_n t_r t_w s_w s_h s_c s_p s_s p_nx p_sz r_k r_r r_p l_z q_z t_t b_l b_b b_n r_t l_l l_b l_n q_l q_b q_n t_le s_cs s_ps s_ha s_en pk ik s_ro s_me s_be s_se s_co pl pb pn il ib im l_a q_a) H := hP
  refine lv_lload_n hx hb dX1_inNone_43 rfl (lv_at hl 1 rfl) ?_
  refine lv_ldc2 hx hb hown (hts _ q3_135) dX1_inNone_44 ?_
  refine lv_lxor hx hb dX1_inNone_47 ?_
  refine lv_land hx hb dX1_inNone_48 ?_
  subst hr
  exact ret_l hx hb hrt hlocks hP hS dX1_inNone_49
theorem hd_X1_howManyHave : yX1_howManyHave.cls = RX1 ∧ yX1_howManyHave.cls ≠ "java/lang/invoke/MethodHandle" ∧ yX1_howManyHave.cls ≠ "java/lang/invoke/VarHandle" ∧ (parseMethodDescriptor yX1_howManyHave.desc).map (fun d => d.parameters.length) = some 1 := by decide +kernel
def F_X1_howManyHave_4 (y1 : Int32) (l_z : Int32) (l_a : Nat → Int64) {β : Type} (k0 : Int32 → β) : Nat → Int32 → Int32 → β
  | 0, x2, x3 => k0 x2
  | n + 1, x2, x3 => (if l_z ≤ x3 then k0 x2 else (if 10000 ≤ x3 then k0 x2 else F_X1_howManyHave_4 y1 l_z l_a k0 n (x2 + (((ushrL (l_a x3.toNatClampNeg) y1) &&& 1).toInt32)) (x3 + 1)))
def f_X1_howManyHave (p1 : Int32) (l_z : Int32) (l_a : Nat → Int64) : Int32 := F_X1_howManyHave_4 p1 l_z l_a (fun z1 => z1) (fu l_z (0 : Int32)) 0 0
set_option maxHeartbeats 4000000 in
set_option maxRecDepth 100000 in
theorem lp_X1_howManyHave_4 (l : Launch) (D : va_G) (cI cL cZ : ClassId) (ad : Nat → Nat) (c_sr t_n t_r t_w s_w s_h s_c s_p s_s p_nx p_sz r_k r_r r_p l_z q_z : Int32) (t_t b_l b_b b_n r_t l_l l_b l_n q_l q_b q_n : Int64) (t_le s_cs s_ps s_ha s_en pk ik : Nat → Int32) (s_ro s_me s_be s_se s_co pl pb pn il ib im l_a q_a : Nat → Int64) {p : Program} {e : Env} {s : State} {m : MethodId} {args : Array Value} {below : List Frame} {meth : Method} {c : Code} {Q : State → Prop} (C : Cx p s m args meth c cX1_howManyHave 4 (some .int) W0 RX1 D cI cL cZ) (hAd : cInj ad) (y1 : Int32) {β : Type} (k0 : Int32 → β) (r : β)
    (h0 : ∀ (e2 : Int32) (H : Heap) (locs : List Loc) (ls : Array Slot), k0 e2 = r → va_P D vwCl (cw ad cI cL cZ c_sr t_n t_r t_w s_w s_h s_c s_p s_s p_nx p_sz r_k r_r r_p l_z q_z t_t b_l b_b b_n r_t l_l l_b l_n q_l q_b q_n t_le s_cs s_ps s_ha s_en pk ik s_ro s_me s_be s_se s_co pl pb pn il ib im l_a q_a) H → va_S (cAd ad) s.heap H locs → lv_has ls 4 [(2, .int e2)] → W p l e (rmS 0 0) s m args below meth c H locs 0 0 Q (F0 m 41 ls [])) :
    ∀ (n : Nat) (x2 x3 : Int32) (H : Heap) (locs : List Loc) (ls : Array Slot), fuU n l_z x3 → F_X1_howManyHave_4 y1 l_z l_a k0 n x2 x3 = r → va_P D vwCl (cw ad cI cL cZ c_sr t_n t_r t_w s_w s_h s_c s_p s_s p_nx p_sz r_k r_r r_p l_z q_z t_t b_l b_b b_n r_t l_l l_b l_n q_l q_b q_n t_le s_cs s_ps s_ha s_en pk ik s_ro s_me s_be s_se s_co pl pb pn il ib im l_a q_a) H → va_S (cAd ad) s.heap H locs → lv_has ls 4 [(0, .ref (ad 26)), (1, .int y1), (2, .int x2), (3, .int x3)] → W p l e (rmS 0 0) s m args below meth c H locs 0 0 Q (F0 m 4 ls []) := by
  obtain ⟨hx, hb, hml, hrt, hlocks, hown, hts, hk⟩ := C
  intro n
  induction n with
  | zero =>
    intro x2 x3 H locs ls hf
    exact absurd hf.1 (Nat.lt_irrefl 0)
  | succ n ih =>
    intro x2 x3 H locs ls hf hr hP hS hl
    rw [F_X1_howManyHave_4] at hr
    refine lv_iload_n hx hb dX1_howManyHave_4 rfl (lv_at hl 3 rfl) ?_
    refine lv_aload_n hx hb dX1_howManyHave_5 rfl (lv_at hl 0 rfl) ?_
    refine va_get (D := D) (ci := 1) (v := .int l_z) (C := RX1) (T := TX1) (N := 6) hx hb hts u_X1 hown hk.1 hP 26 rfl rfl 5 (by decide) (hts _ q1_214) (fun _ h9 => h9) rfl dX1_howManyHave_6 ?_
    refine lv_icmp_ge (tgt := 41) hx hb dX1_howManyHave_9 (by decide) (fun c9 => ?_) (fun c9 => ?_)
    · have hr := (if_pos c9).symm.trans hr
      exact h0 x2 _ _ _ hr hP hS (lv_sub hl [2] rfl)
    · have hr := (if_neg c9).symm.trans hr
      refine lv_iload_n hx hb dX1_howManyHave_12 rfl (lv_at hl 3 rfl) ?_
      refine lv_aload_n hx hb dX1_howManyHave_13 rfl (lv_at hl 0 rfl) ?_
      refine va_get (D := D) (ci := 1) (v := .ref (ad 27)) (C := RX1) (T := TX1) (N := 6) hx hb hts u_X1 hown hk.1 hP 26 rfl rfl 1 (by decide) (hts _ q1_210) (fun _ h9 => h9) rfl dX1_howManyHave_14 ?_
      refine va_alen (v := 10000) hx hb hk.1 hP 27 1 rfl rfl rfl dX1_howManyHave_17 ?_
      refine lv_icmp_ge (tgt := 41) hx hb dX1_howManyHave_18 (by decide) (fun c18 => ?_) (fun c18 => ?_)
      · have hr := (if_pos c18).symm.trans hr
        exact h0 x2 _ _ _ hr hP hS (lv_sub hl [2] rfl)
      · have hr := (if_neg c18).symm.trans hr
        refine lv_iload_n hx hb dX1_howManyHave_21 rfl (lv_at hl 2 rfl) ?_
        refine lv_aload_n hx hb dX1_howManyHave_22 rfl (lv_at hl 0 rfl) ?_
        refine va_get (D := D) (ci := 1) (v := .ref (ad 27)) (C := RX1) (T := TX1) (N := 6) hx hb hts u_X1 hown hk.1 hP 26 rfl rfl 1 (by decide) (hts _ q1_210) (fun _ h9 => h9) rfl dX1_howManyHave_23 ?_
        refine lv_iload_n hx hb dX1_howManyHave_26 rfl (lv_at hl 3 rfl) ?_
        refine va_lald hx hb hk.1 hP 27 1 (rfl) rfl (vin_c hf.2.2 c18 (by decide)) dX1_howManyHave_27 ?_
        refine lv_iload_n hx hb dX1_howManyHave_28 rfl (lv_at hl 1 rfl) ?_
        refine lv_lushr (v := ushrL (l_a x3.toNatClampNeg) y1) hx hb dX1_howManyHave_29 rfl ?_
        refine lv_lconst (v := 1) hx hb dX1_howManyHave_30 (by decide) ?_
        refine lv_land hx hb dX1_howManyHave_31 ?_
        refine lv_l2i hx hb dX1_howManyHave_32 rfl ?_
        refine lv_iadd hx hb dX1_howManyHave_33 ?_
        refine lv_istore_n (lv' := [(2, .int (x2 + (((ushrL (l_a x3.toNatClampNeg) y1) &&& 1).toInt32))), (0, .ref (ad 26)), (1, .int y1), (3, .int x3)]) hx hb dX1_howManyHave_34 rfl hl (by decide) rfl (fun ls hl => ?_)
        refine lv_iinc (v := x3 + 1) (lv' := [(3, .int (x3 + 1)), (2, .int (x2 + (((ushrL (l_a x3.toNatClampNeg) y1) &&& 1).toInt32))), (0, .ref (ad 26)), (1, .int y1)]) hx hb dX1_howManyHave_35 hl (k := 3) rfl rfl (by decide) rfl (fun ls hl => ?_)
        refine lv_goto (tgt := 4) hx hb dX1_howManyHave_38 (by decide) ?_
        exact ih (x2 + (((ushrL (l_a x3.toNatClampNeg) y1) &&& 1).toInt32)) (x3 + 1) _ _ _ (fuU_s hf c9) hr hP hS (lv_sub hl [2, 3, 1, 0] rfl)
set_option maxHeartbeats 4000000 in
set_option maxRecDepth 100000 in
theorem c_X1_howManyHave (l : Launch) (D : va_G) (cI cL cZ : ClassId) (ad : Nat → Nat) (c_sr t_n t_r t_w s_w s_h s_c s_p s_s p_nx p_sz r_k r_r r_p l_z q_z : Int32) (t_t b_l b_b b_n r_t l_l l_b l_n q_l q_b q_n : Int64) (t_le s_cs s_ps s_ha s_en pk ik : Nat → Int32) (s_ro s_me s_be s_se s_co pl pb pn il ib im l_a q_a : Nat → Int64) (hAd : cInj ad) (p1 : Int32) (r : Int32) (hr : f_X1_howManyHave p1 l_z l_a = r) : MI l yX1_howManyHave (Cond.code yX1_howManyHave cX1_howManyHave 4 (some .int) :: W0) 0 0 D cI cL cZ (cAd ad) [.ref (ad 26), .int p1] (cw ad cI cL cZ c_sr t_n t_r t_w s_w s_h s_c s_p s_s p_nx p_sz r_k r_r r_p l_z q_z t_t b_l b_b b_n r_t l_l l_b l_n q_l q_b q_n t_le s_cs s_ps s_ha s_en pk ik s_ro s_me s_be s_se s_co pl pb pn il ib im l_a q_a) r (cw ad cI cL cZ c_sr t_n t_r t_w s_w s_h s_c s_p s_s p_nx p_sz r_k r_r r_p l_z q_z t_t b_l b_b b_n r_t l_l l_b l_n q_l q_b q_n t_le s_cs s_ps s_ha s_en pk ik s_ro s_me s_be s_se s_co pl pb pn il ib im l_a q_a) := by
  refine mk_start (cc := cX1_howManyHave) (maxL := 4) (ret := (some .int)) (by decide) rfl (Nat.le_of_ble_eq_true rfl) ?_
  intro p e s m below meth c ls C hP hS hl
  obtain ⟨hx, hb, hml, hrt, hlocks, hown, hts, hk⟩ := C
  have hown : s.vm.findClass RX1 = some m.cls := hown
  have hl : lv_has ls 4 [(0, .ref (ad 26)), (1, .int p1)] := hl
  rw [f_X1_howManyHave] at hr
  refine lv_iconst (v := 0) hx hb dX1_howManyHave_0 (by decide) ?_
  refine lv_istore_n (lv' := [(2, .int 0), (0, .ref (ad 26)), (1, .int p1)]) hx hb dX1_howManyHave_1 rfl hl (by decide) rfl (fun ls hl => ?_)
  refine lv_iconst (v := 0) hx hb dX1_howManyHave_2 (by decide) ?_
  refine lv_istore_n (lv' := [(3, .int 0), (2, .int 0), (0, .ref (ad 26)), (1, .int p1)]) hx hb dX1_howManyHave_3 rfl hl (by decide) rfl (fun ls hl => ?_)
  refine lp_X1_howManyHave_4 l D cI cL cZ ad c_sr t_n t_r t_w s_w s_h s_c s_p s_s p_nx p_sz r_k r_r r_p l_z q_z t_t b_l b_b b_n r_t l_l l_b l_n q_l q_b q_n t_le s_cs s_ps s_ha s_en pk ik s_ro s_me s_be s_se s_co pl pb pn il ib im l_a q_a ⟨hx, hb, hml, hrt, hlocks, hown, hts, hk⟩ hAd p1 _ _ (fun z1 H locs ls hr hP hS hl => ?_) (fu l_z (0 : Int32)) 0 0 _ _ _ (fuU_0 (by decide)) hr hP hS (lv_sub hl [2, 3, 1, 0] rfl)
  refine lv_iload_n hx hb dX1_howManyHave_41 rfl (lv_at hl 0 rfl) ?_
  subst hr
  exact ret_i hx hb hrt hlocks hP hS dX1_howManyHave_42
