theorem hd_X0_stateOf : yX0_stateOf.cls = RX0 ∧ yX0_stateOf.cls ≠ "java/lang/invoke/MethodHandle" ∧ yX0_stateOf.cls ≠ "java/lang/invoke/VarHandle" ∧ (parseMethodDescriptor yX0_stateOf.desc).map (fun d => d.parameters.length) = some 1 := by decide +kernel
def f_X0_stateOf (p1 : Int32) (b_l : Int64) (b_b : Int64) : Int32 := (if (lg_cmp (b_l &&& (f_X7_bit p1)) 0) = 0 then (if (lg_cmp (b_b &&& (f_X7_bit p1)) 0) = 0 then 0 else 2) else 1)
set_option maxHeartbeats 4000000 in
set_option maxRecDepth 100000 in
theorem c_X0_stateOf (l : Launch) (D : va_G) (cI cL cZ : ClassId) (ad : Nat → Nat) (c_sr t_n t_r t_w s_w s_h s_c s_p s_s p_nx p_sz r_k r_r r_p l_z q_z : Int32) (t_t b_l b_b b_n r_t l_l l_b l_n q_l q_b q_n : Int64) (t_le s_cs s_ps s_ha s_en pk ik : Nat → Int32) (s_ro s_me s_be s_se s_co pl pb pn il ib im l_a q_a : Nat → Int64) (hAd : cInj ad) (p1 : Int32) (r : Int32) (hr : f_X0_stateOf p1 b_l b_b = r) : MI l yX0_stateOf (Cond.code yX0_stateOf cX0_stateOf 2 (some .int) :: W0) 1 20 D cI cL cZ (cAd ad) [.ref (ad 13), .int p1] (cw ad cI cL cZ c_sr t_n t_r t_w s_w s_h s_c s_p s_s p_nx p_sz r_k r_r r_p l_z q_z t_t b_l b_b b_n r_t l_l l_b l_n q_l q_b q_n t_le s_cs s_ps s_ha s_en pk ik s_ro s_me s_be s_se s_co pl pb pn il ib im l_a q_a) r (cw ad cI cL cZ c_sr t_n t_r t_w s_w s_h s_c s_p s_s p_nx p_sz r_k r_r r_p l_z q_z t_t b_l b_b b_n r_t l_l l_b l_n q_l q_b q_n t_le s_cs s_ps s_ha s_en pk ik s_ro s_me s_be s_se s_co pl pb pn il ib im l_a q_a) := by
  refine mk_start (cc := cX0_stateOf) (maxL := 2) (ret := (some .int)) (by decide) rfl (Nat.le_of_ble_eq_true rfl) ?_
  intro p e s m below meth c ls C hP hS hl
  obtain ⟨hx, hb, hml, hrt, hlocks, hown, hts, hk⟩ := C
  have hown : s.vm.findClass RX0 = some m.cls := hown
  have hl : lv_has ls 2 [(0, .ref (ad 13)), (1, .int p1)] := hl
  rw [f_X0_stateOf] at hr
  refine lv_aload_n hx hb dX0_stateOf_0 rfl (lv_at hl 0 rfl) ?_
  refine va_get (D := D) (ci := 0) (v := .long b_l) (C := RX0) (T := TX0) (N := 3) hx hb hts u_X0 hown hk.1 hP 13 rfl rfl 0 (by decide) (hts _ q1_114) (fun _ h9 => h9) rfl dX0_stateOf_1 ?_
  refine lv_iload_n hx hb dX0_stateOf_4 rfl (lv_at hl 1 rfl) ?_
  refine go_l (ru_N (n := 1) ⟨hx, hb, hml, hown, hts⟩ hk hP (c_X7_bit l D cI cL cZ (cAd ad) (cw ad cI cL cZ c_sr t_n t_r t_w s_w s_h s_c s_p s_s p_nx p_sz r_k r_r r_p l_z q_z t_t b_l b_b b_n r_t l_l l_b l_n q_l q_b q_n t_le s_cs s_ps s_ha s_en pk ik s_ro s_me s_be s_se s_co pl pb pn il ib im l_a q_a) p1 _ rfl) ⟨va_cnB 1 hts (gN q2_20) rfl rfl rfl (hk.2 _ nwm_X0_21) (hts _ q1_1) hd_X7_bit ⟨Nat.le_of_ble_eq_true rfl, Nat.le_of_ble_eq_true rfl⟩, hts _ q2_19, trivial⟩ rfl hl.1 rfl (Nat.le_of_ble_eq_true rfl) dX0_stateOf_5 ⟨Nat.zero_le _, Nat.zero_le _⟩) hS (fun _ h => h) (fun H locs hP hS => ?_)
  have hP : va_P D vwCl (cw ad cI cL cZ c_sr t_n t_r t_w s_w s_h s_c s_p s_s p_nx p_sz r_k r_r r_p l_z q_z t_t b_l b_b b_n r_t l_l l_b l_n q_l q_b q_n t_le s_cs s_ps s_ha s_en pk ik s_ro s_me s_be s_se s_co pl pb pn il ib im l_a q_a) H := hP
  refine lv_land hx hb dX0_stateOf_8 ?_
  refine lv_lconst (v := 0) hx hb dX0_stateOf_9 (by decide) ?_
  refine W.lcmp hx hb dX0_stateOf_10 ?_
  refine lv_if_eq (tgt := 16) hx hb dX0_stateOf_11 (by decide) (fun c11 => ?_) (fun c11 => ?_)
  · have hr := (if_pos c11).symm.trans hr
    refine lv_aload_n hx hb dX0_stateOf_16 rfl (lv_at hl 0 rfl) ?_
    refine va_get (D := D) (ci := 0) (v := .long b_b) (C := RX0) (T := TX0) (N := 3) hx hb hts u_X0 hown hk.1 hP 13 rfl rfl 1 (by decide) (hts _ q1_118) (fun _ h9 => h9) rfl dX0_stateOf_17 ?_
    refine lv_iload_n hx hb dX0_stateOf_20 rfl (lv_at hl 1 rfl) ?_
    refine go_l (ru_N (n := 1) ⟨hx, hb, hml, hown, hts⟩ hk hP (c_X7_bit l D cI cL cZ (cAd ad) (cw ad cI cL cZ c_sr t_n t_r t_w s_w s_h s_c s_p s_s p_nx p_sz r_k r_r r_p l_z q_z t_t b_l b_b b_n r_t l_l l_b l_n q_l q_b q_n t_le s_cs s_ps s_ha s_en pk ik s_ro s_me s_be s_se s_co pl pb pn il ib im l_a q_a) p1 _ rfl) ⟨va_cnB 1 hts (gN q2_20) rfl rfl rfl (hk.2 _ nwm_X0_21) (hts _ q1_1) hd_X7_bit ⟨Nat.le_of_ble_eq_true rfl, Nat.le_of_ble_eq_true rfl⟩, hts _ q2_19, trivial⟩ rfl hl.1 rfl (Nat.le_of_ble_eq_true rfl) dX0_stateOf_21 ⟨Nat.zero_le _, Nat.zero_le _⟩) hS (fun _ h => h) (fun H locs hP hS => ?_)
    have hP : va_P D vwCl (cw ad cI cL cZ c_sr t_n t_r t_w s_w s_h s_c s_p s_s p_nx p_sz r_k r_r r_p l_z q_z t_t b_l b_b b_n r_t l_l l_b l_n q_l q_b q_n t_le s_cs s_ps s_ha s_en pk ik s_ro s_me s_be s_se s_co pl pb pn il ib im l_a q_a) H := hP
    refine lv_land hx hb dX0_stateOf_24 ?_
    refine lv_lconst (v := 0) hx hb dX0_stateOf_25 (by decide) ?_
    refine W.lcmp hx hb dX0_stateOf_26 ?_
    refine lv_if_eq (tgt := 34) hx hb dX0_stateOf_27 (by decide) (fun c27 => ?_) (fun c27 => ?_)
    · have hr := (if_pos c27).symm.trans hr
      refine lv_iconst (v := 0) hx hb dX0_stateOf_34 (by decide) ?_
      subst hr
      exact ret_i hx hb hrt hlocks hP hS dX0_stateOf_35
    · have hr := (if_neg c27).symm.trans hr
      refine lv_iconst (v := 2) hx hb dX0_stateOf_30 (by decide) ?_
      refine lv_goto (tgt := 35) hx hb dX0_stateOf_31 (by decide) ?_
      subst hr
      exact ret_i hx hb hrt hlocks hP hS dX0_stateOf_35
  · have hr := (if_neg c11).symm.trans hr
    refine lv_iconst (v := 1) hx hb dX0_stateOf_14 (by decide) ?_
    subst hr
    exact ret_i hx hb hrt hlocks hP hS dX0_stateOf_15
theorem hd_X0_mark : yX0_mark.cls = RX0 ∧ yX0_mark.cls ≠ "java/lang/invoke/MethodHandle" ∧ yX0_mark.cls ≠ "java/lang/invoke/VarHandle" ∧ (parseMethodDescriptor yX0_mark.desc).map (fun d => d.parameters.length) = some 2 := by decide +kernel
def f_X0_mark (p1 : Int32) (p2 : Int32) (b_l : Int64) (b_b : Int64) : Int64 × Int64 := (if p2 = 1 then ((b_l &&& ((f_X7_bit p1) ^^^ ((-1)))) ||| (f_X7_bit p1), b_b &&& ((f_X7_bit p1) ^^^ ((-1)))) else (if p2 = 2 then (b_l &&& ((f_X7_bit p1) ^^^ ((-1))), (b_b &&& ((f_X7_bit p1) ^^^ ((-1)))) ||| (f_X7_bit p1)) else (b_l &&& ((f_X7_bit p1) ^^^ ((-1))), b_b &&& ((f_X7_bit p1) ^^^ ((-1))))))
set_option maxHeartbeats 4000000 in
set_option maxRecDepth 100000 in
theorem c_X0_mark (l : Launch) (D : va_G) (cI cL cZ : ClassId) (ad : Nat → Nat) (c_sr t_n t_r t_w s_w s_h s_c s_p s_s p_nx p_sz r_k r_r r_p l_z q_z : Int32) (t_t b_l b_b b_n r_t l_l l_b l_n q_l q_b q_n : Int64) (t_le s_cs s_ps s_ha s_en pk ik : Nat → Int32) (s_ro s_me s_be s_se s_co pl pb pn il ib im l_a q_a : Nat → Int64) (hAd : cInj ad) (p1 p2 : Int32) (r : Int64 × Int64) (hr : f_X0_mark p1 p2 b_l b_b = r) : MV l yX0_mark (Cond.code yX0_mark cX0_mark 3 none :: W0) 1 20 D cI cL cZ (cAd ad) [.ref (ad 13), .int p1, .int p2] (cw ad cI cL cZ c_sr t_n t_r t_w s_w s_h s_c s_p s_s p_nx p_sz r_k r_r r_p l_z q_z t_t b_l b_b b_n r_t l_l l_b l_n q_l q_b q_n t_le s_cs s_ps s_ha s_en pk ik s_ro s_me s_be s_se s_co pl pb pn il ib im l_a q_a) (cw ad cI cL cZ c_sr t_n t_r t_w s_w s_h s_c s_p s_s p_nx p_sz r_k r_r r_p l_z q_z t_t r.1 r.2 b_n r_t l_l l_b l_n q_l q_b q_n t_le s_cs s_ps s_ha s_en pk ik s_ro s_me s_be s_se s_co pl pb pn il ib im l_a q_a) := by
  refine mk_start (cc := cX0_mark) (maxL := 3) (ret := none) (by decide) rfl (Nat.le_of_ble_eq_true rfl) ?_
  intro p e s m below meth c ls C hP hS hl
  obtain ⟨hx, hb, hml, hrt, hlocks, hown, hts, hk⟩ := C
  have hown : s.vm.findClass RX0 = some m.cls := hown
  have hl : lv_has ls 3 [(0, .ref (ad 13)), (1, .int p1), (2, .int p2)] := hl
  rw [f_X0_mark] at hr
  refine lv_aload_n hx hb dX0_mark_0 rfl (lv_at hl 0 rfl) ?_
  refine lv_dup hx hb dX0_mark_1 rfl ?_
  refine va_get (D := D) (ci := 0) (v := .long b_l) (C := RX0) (T := TX0) (N := 3) hx hb hts u_X0 hown hk.1 hP 13 rfl rfl 0 (by decide) (hts _ q1_114) (fun _ h9 => h9) rfl dX0_mark_2 ?_
  refine lv_iload_n hx hb dX0_mark_5 rfl (lv_at hl 1 rfl) ?_
  refine go_l (ru_N (n := 1) ⟨hx, hb, hml, hown, hts⟩ hk hP (c_X7_bit l D cI cL cZ (cAd ad) (cw ad cI cL cZ c_sr t_n t_r t_w s_w s_h s_c s_p s_s p_nx p_sz r_k r_r r_p l_z q_z t_t b_l b_b b_n r_t l_l l_b l_n q_l q_b q_n t_le s_cs s_ps s_ha s_en pk ik s_ro s_me s_be s_se s_co pl pb pn il ib im l_a q_a) p1 _ rfl) ⟨va_cnB 1 hts (gN q2_20) rfl rfl rfl (hk.2 _ nwm_X0_21) (hts _ q1_1) hd_X7_bit ⟨Nat.le_of_ble_eq_true rfl, Nat.le_of_ble_eq_true rfl⟩, hts _ q2_19, trivial⟩ rfl hl.1 rfl (Nat.le_of_ble_eq_true rfl) dX0_mark_6 ⟨Nat.zero_le _, Nat.zero_le _⟩) hS (fun _ h => h) (fun H locs hP hS => ?_)
  have hP : va_P D vwCl (cw ad cI cL cZ c_sr t_n t_r t_w s_w s_h s_c s_p s_s p_nx p_sz r_k r_r r_p l_z q_z t_t b_l b_b b_n r_t l_l l_b l_n q_l q_b q_n t_le s_cs s_ps s_ha s_en pk ik s_ro s_me s_be s_se s_co pl pb pn il ib im l_a q_a) H := hP
  refine lv_ldc2 hx hb hown (hts _ q2_141) dX0_mark_9 ?_
  refine lv_lxor hx hb dX0_mark_12 ?_
  refine lv_land hx hb dX0_mark_13 ?_
  refine va_put (D := D) (ci := 0) (v := .long (b_l &&& ((f_X7_bit p1) ^^^ ((-1))))) (ty := .long) (C := RX0) (T := TX0) (N := 3) hx hb hts u_X0 tyX0 tyX0_ok nmX0 hown hk.1 hP (cw_D hAd) hS 13 rfl rfl 0 (by decide) (hts _ q1_114) (fun _ h9 => h9) rfl (tyX0_ok 0 (by decide)) rfl rfl (Nat.le_of_ble_eq_true rfl) dX0_mark_14 (fun H locs hP _ hS => ?_)
  have hP : va_P D vwCl (cw ad cI cL cZ c_sr t_n t_r t_w s_w s_h s_c s_p s_s p_nx p_sz r_k r_r r_p l_z q_z t_t (b_l &&& ((f_X7_bit p1) ^^^ ((-1)))) b_b b_n r_t l_l l_b l_n q_l q_b q_n t_le s_cs s_ps s_ha s_en pk ik s_ro s_me s_be s_se s_co pl pb pn il ib im l_a q_a) H := hP
  refine lv_aload_n hx hb dX0_mark_17 rfl (lv_at hl 0 rfl) ?_
  refine lv_dup hx hb dX0_mark_18 rfl ?_
  refine va_get (D := D) (ci := 0) (v := .long b_b) (C := RX0) (T := TX0) (N := 3) hx hb hts u_X0 hown hk.1 hP 13 rfl rfl 1 (by decide) (hts _ q1_118) (fun _ h9 => h9) rfl dX0_mark_19 ?_
  refine lv_iload_n hx hb dX0_mark_22 rfl (lv_at hl 1 rfl) ?_
  refine go_l (ru_N (n := 1) ⟨hx, hb, hml, hown, hts⟩ hk hP (c_X7_bit l D cI cL cZ (cAd ad) (cw ad cI cL cZ c_sr t_n t_r t_w s_w s_h s_c s_p s_s p_nx p_sz r_k r_r r_p l_z q_z t_t (b_l &&& ((f_X7_bit p1) ^^^ ((-1)))) b_b b_n r_t l_l l_b l_n q_l q_b q_n t_le s_cs s_ps s_ha s_en pk ik s_ro s_me s_be s_se s_co pl pb pn il ib im l_a q_a) p1 _ rfl) ⟨va_cnB 1 hts (gN q2_20) rfl rfl rfl (hk.2 _ nwm_X0_21) (hts _ q1_1) hd_X7_bit ⟨Nat.le_of_ble_eq_true rfl, Nat.le_of_ble_eq_true rfl⟩, hts _ q2_19, trivial⟩ rfl hl.1 rfl (Nat.le_of_ble_eq_true rfl) dX0_mark_23 ⟨Nat.zero_le _, Nat.zero_le _⟩) hS (fun _ h => h) (fun H locs hP hS => ?_)
  have hP : va_P D vwCl (cw ad cI cL cZ c_sr t_n t_r t_w s_w s_h s_c s_p s_s p_nx p_sz r_k r_r r_p l_z q_z t_t (b_l &&& ((f_X7_bit p1) ^^^ ((-1)))) b_b b_n r_t l_l l_b l_n q_l q_b q_n t_le s_cs s_ps s_ha s_en pk ik s_ro s_me s_be s_se s_co pl pb pn il ib im l_a q_a) H := hP
  refine lv_ldc2 hx hb hown (hts _ q2_141) dX0_mark_26 ?_
  refine lv_lxor hx hb dX0_mark_29 ?_
  refine lv_land hx hb dX0_mark_30 ?_
  refine va_put (D := D) (ci := 0) (v := .long (b_b &&& ((f_X7_bit p1) ^^^ ((-1))))) (ty := .long) (C := RX0) (T := TX0) (N := 3) hx hb hts u_X0 tyX0 tyX0_ok nmX0 hown hk.1 hP (cw_D hAd) hS 13 rfl rfl 1 (by decide) (hts _ q1_118) (fun _ h9 => h9) rfl (tyX0_ok 1 (by decide)) rfl rfl (Nat.le_of_ble_eq_true rfl) dX0_mark_31 (fun H locs hP _ hS => ?_)
  have hP : va_P D vwCl (cw ad cI cL cZ c_sr t_n t_r t_w s_w s_h s_c s_p s_s p_nx p_sz r_k r_r r_p l_z q_z t_t (b_l &&& ((f_X7_bit p1) ^^^ ((-1)))) (b_b &&& ((f_X7_bit p1) ^^^ ((-1)))) b_n r_t l_l l_b l_n q_l q_b q_n t_le s_cs s_ps s_ha s_en pk ik s_ro s_me s_be s_se s_co pl pb pn il ib im l_a q_a) H := hP
  refine lv_iload_n hx hb dX0_mark_34 rfl (lv_at hl 2 rfl) ?_
  refine lv_iconst (v := 1) hx hb dX0_mark_35 (by decide) ?_
  refine lv_icmp_ne (tgt := 55) hx hb dX0_mark_36 (by decide) (fun c36 => ?_) (fun c36 => ?_)
  · have hr := (if_neg c36).symm.trans hr
    refine lv_iload_n hx hb dX0_mark_55 rfl (lv_at hl 2 rfl) ?_
    refine lv_iconst (v := 2) hx hb dX0_mark_56 (by decide) ?_
    refine lv_icmp_ne (tgt := 73) hx hb dX0_mark_57 (by decide) (fun c57 => ?_) (fun c57 => ?_)
    · have hr := (if_neg c57).symm.trans hr
      subst hr
      exact ret_v hx hb hrt hlocks hP hS dX0_mark_73
    · have hr := (if_pos c57).symm.trans hr
      refine lv_aload_n hx hb dX0_mark_60 rfl (lv_at hl 0 rfl) ?_
      refine lv_dup hx hb dX0_mark_61 rfl ?_
      refine va_get (D := D) (ci := 0) (v := .long (b_b &&& ((f_X7_bit p1) ^^^ ((-1))))) (C := RX0) (T := TX0) (N := 3) hx hb hts u_X0 hown hk.1 hP 13 rfl rfl 1 (by decide) (hts _ q1_118) (fun _ h9 => h9) rfl dX0_mark_62 ?_
      refine lv_iload_n hx hb dX0_mark_65 rfl (lv_at hl 1 rfl) ?_
      refine go_l (ru_N (n := 1) ⟨hx, hb, hml, hown, hts⟩ hk hP (c_X7_bit l D cI cL cZ (cAd ad) (cw ad cI cL cZ c_sr t_n t_r t_w s_w s_h s_c s_p s_s p_nx p_sz r_k r_r r_p l_z q_z t_t (b_l &&& ((f_X7_bit p1) ^^^ ((-1)))) (b_b &&& ((f_X7_bit p1) ^^^ ((-1)))) b_n r_t l_l l_b l_n q_l q_b q_n t_le s_cs s_ps s_ha s_en pk ik s_ro s_me s_be s_se s_co pl pb pn il ib im l_a q_a) p1 _ rfl) ⟨va_cnB 1 hts (gN q2_20) rfl rfl rfl (hk.2 _ nwm_X0_21) (hts _ q1_1) hd_X7_bit ⟨Nat.le_of_ble_eq_true rfl, Nat.le_of_ble_eq_true rfl⟩, hts _ q2_19, trivial⟩ rfl hl.1 rfl (Nat.le_of_ble_eq_true rfl) dX0_mark_66 ⟨Nat.zero_le _, Nat.zero_le _⟩) hS (fun _ h => h) (fun H locs hP hS => ?_)
      have hP : va_P D vwCl (cw ad cI cL cZ c_sr t_n t_r t_w s_w s_h s_c s_p s_s p_nx p_sz r_k r_r r_p l_z q_z t_t (b_l &&& ((f_X7_bit p1) ^^^ ((-1)))) (b_b &&& ((f_X7_bit p1) ^^^ ((-1)))) b_n r_t l_l l_b l_n q_l q_b q_n t_le s_cs s_ps s_ha s_en pk ik s_ro s_me s_be s_se s_co pl pb pn il ib im l_a q_a) H := hP
      refine lv_lor hx hb dX0_mark_69 ?_
      refine va_put (D := D) (ci := 0) (v := .long ((b_b &&& ((f_X7_bit p1) ^^^ ((-1)))) ||| (f_X7_bit p1))) (ty := .long) (C := RX0) (T := TX0) (N := 3) hx hb hts u_X0 tyX0 tyX0_ok nmX0 hown hk.1 hP (cw_D hAd) hS 13 rfl rfl 1 (by decide) (hts _ q1_118) (fun _ h9 => h9) rfl (tyX0_ok 1 (by decide)) rfl rfl (Nat.le_of_ble_eq_true rfl) dX0_mark_70 (fun H locs hP _ hS => ?_)
      have hP : va_P D vwCl (cw ad cI cL cZ c_sr t_n t_r t_w s_w s_h s_c s_p s_s p_nx p_sz r_k r_r r_p l_z q_z t_t (b_l &&& ((f_X7_bit p1) ^^^ ((-1)))) ((b_b &&& ((f_X7_bit p1) ^^^ ((-1)))) ||| (f_X7_bit p1)) b_n r_t l_l l_b l_n q_l q_b q_n t_le s_cs s_ps s_ha s_en pk ik s_ro s_me s_be s_se s_co pl pb pn il ib im l_a q_a) H := hP
      subst hr
      exact ret_v hx hb hrt hlocks hP hS dX0_mark_73
  · have hr := (if_pos c36).symm.trans hr
    refine lv_aload_n hx hb dX0_mark_39 rfl (lv_at hl 0 rfl) ?_
    refine lv_dup hx hb dX0_mark_40 rfl ?_
    refine va_get (D := D) (ci := 0) (v := .long (b_l &&& ((f_X7_bit p1) ^^^ ((-1))))) (C := RX0) (T := TX0) (N := 3) hx hb hts u_X0 hown hk.1 hP 13 rfl rfl 0 (by decide) (hts _ q1_114) (fun _ h9 => h9) rfl dX0_mark_41 ?_
    refine lv_iload_n hx hb dX0_mark_44 rfl (lv_at hl 1 rfl) ?_
    refine go_l (ru_N (n := 1) ⟨hx, hb, hml, hown, hts⟩ hk hP (c_X7_bit l D cI cL cZ (cAd ad) (cw ad cI cL cZ c_sr t_n t_r t_w s_w s_h s_c s_p s_s p_nx p_sz r_k r_r r_p l_z q_z t_t (b_l &&& ((f_X7_bit p1) ^^^ ((-1)))) (b_b &&& ((f_X7_bit p1) ^^^ ((-1)))) b_n r_t l_l l_b l_n q_l q_b q_n t_le s_cs s_ps s_ha s_en pk ik s_ro s_me s_be s_se s_co pl pb pn il ib im l_a q_a) p1 _ rfl) ⟨va_cnB 1 hts (gN q2_20) rfl rfl rfl (hk.2 _ nwm_X0_21) (hts _ q1_1) hd_X7_bit ⟨Nat.le_of_ble_eq_true rfl, Nat.le_of_ble_eq_true rfl⟩, hts _ q2_19, trivial⟩ rfl hl.1 rfl (Nat.le_of_ble_eq_true rfl) dX0_mark_45 ⟨Nat.zero_le _, Nat.zero_le _⟩) hS (fun _ h => h) (fun H locs hP hS => ?_)
    have hP : va_P D vwCl (cw ad cI cL cZ c_sr t_n t_r t_w s_w s_h s_c s_p s_s p_nx p_sz r_k r_r r_p l_z q_z t_t (b_l &&& ((f_X7_bit p1) ^^^ ((-1)))) (b_b &&& ((f_X7_bit p1) ^^^ ((-1)))) b_n r_t l_l l_b l_n q_l q_b q_n t_le s_cs s_ps s_ha s_en pk ik s_ro s_me s_be s_se s_co pl pb pn il ib im l_a q_a) H := hP
    refine lv_lor hx hb dX0_mark_48 ?_
    refine va_put (D := D) (ci := 0) (v := .long ((b_l &&& ((f_X7_bit p1) ^^^ ((-1)))) ||| (f_X7_bit p1))) (ty := .long) (C := RX0) (T := TX0) (N := 3) hx hb hts u_X0 tyX0 tyX0_ok nmX0 hown hk.1 hP (cw_D hAd) hS 13 rfl rfl 0 (by decide) (hts _ q1_114) (fun _ h9 => h9) rfl (tyX0_ok 0 (by decide)) rfl rfl (Nat.le_of_ble_eq_true rfl) dX0_mark_49 (fun H locs hP _ hS => ?_)
    have hP : va_P D vwCl (cw ad cI cL cZ c_sr t_n t_r t_w s_w s_h s_c s_p s_s p_nx p_sz r_k r_r r_p l_z q_z t_t ((b_l &&& ((f_X7_bit p1) ^^^ ((-1)))) ||| (f_X7_bit p1)) (b_b &&& ((f_X7_bit p1) ^^^ ((-1)))) b_n r_t l_l l_b l_n q_l q_b q_n t_le s_cs s_ps s_ha s_en pk ik s_ro s_me s_be s_se s_co pl pb pn il ib im l_a q_a) H := hP
    refine lv_goto (tgt := 73) hx hb dX0_mark_52 (by decide) ?_
    subst hr
    exact ret_v hx hb hrt hlocks hP hS dX0_mark_73
theorem hd_X0_numberOf : yX0_numberOf.cls = RX0 ∧ yX0_numberOf.cls ≠ "java/lang/invoke/MethodHandle" ∧ yX0_numberOf.cls ≠ "java/lang/invoke/VarHandle" ∧ (parseMethodDescriptor yX0_numberOf.desc).map (fun d => d.parameters.length) = some 1 := by decide +kernel
def f_X0_numberOf (p1 : Int32) (b_n : Int64) : Int32 := f_X0_numberIn b_n p1
set_option maxHeartbeats 4000000 in
set_option maxRecDepth 100000 in
theorem c_X0_numberOf (l : Launch) (D : va_G) (cI cL cZ : ClassId) (ad : Nat → Nat) (c_sr t_n t_r t_w s_w s_h s_c s_p s_s p_nx p_sz r_k r_r r_p l_z q_z : Int32) (t_t b_l b_b b_n r_t l_l l_b l_n q_l q_b q_n : Int64) (t_le s_cs s_ps s_ha s_en pk ik : Nat → Int32) (s_ro s_me s_be s_se s_co pl pb pn il ib im l_a q_a : Nat → Int64) (hAd : cInj ad) (p1 : Int32) (r : Int32) (hr : f_X0_numberOf p1 b_n = r) : MI l yX0_numberOf (Cond.code yX0_numberOf cX0_numberOf 2 (some .int) :: W0) 1 22 D cI cL cZ (cAd ad) [.ref (ad 13), .int p1] (cw ad cI cL cZ c_sr t_n t_r t_w s_w s_h s_c s_p s_s p_nx p_sz r_k r_r r_p l_z q_z t_t b_l b_b b_n r_t l_l l_b l_n q_l q_b q_n t_le s_cs s_ps s_ha s_en pk ik s_ro s_me s_be s_se s_co pl pb pn il ib im l_a q_a) r (cw ad cI cL cZ c_sr t_n t_r t_w s_w s_h s_c s_p s_s p_nx p_sz r_k r_r r_p l_z q_z t_t b_l b_b b_n r_t l_l l_b l_n q_l q_b q_n t_le s_cs s_ps s_ha s_en pk ik s_ro s_me s_be s_se s_co pl pb pn il ib im l_a q_a) := by
  refine mk_start (cc := cX0_numberOf) (maxL := 2) (ret := (some .int)) (by decide) rfl (Nat.le_of_ble_eq_true rfl) ?_
  intro p e s m below meth c ls C hP hS hl
  obtain ⟨hx, hb, hml, hrt, hlocks, hown, hts, hk⟩ := C
  have hown : s.vm.findClass RX0 = some m.cls := hown
  have hl : lv_has ls 2 [(0, .ref (ad 13)), (1, .int p1)] := hl
  rw [f_X0_numberOf] at hr
  refine lv_aload_n hx hb dX0_numberOf_0 rfl (lv_at hl 0 rfl) ?_
  refine va_get (D := D) (ci := 0) (v := .long b_n) (C := RX0) (T := TX0) (N := 3) hx hb hts u_X0 hown hk.1 hP 13 rfl rfl 2 (by decide) (hts _ q1_122) (fun _ h9 => h9) rfl dX0_numberOf_1 ?_
  refine lv_iload_n hx hb dX0_numberOf_4 rfl (lv_at hl 1 rfl) ?_
  refine go_i (ru_S (n := 2) ⟨hx, hb, hml, hown, hts⟩ hk hP (c_X0_numberIn l D cI cL cZ (cAd ad) (cw ad cI cL cZ c_sr t_n t_r t_w s_w s_h s_c s_p s_s p_nx p_sz r_k r_r r_p l_z q_z t_t b_l b_b b_n r_t l_l l_b l_n q_l q_b q_n t_le s_cs s_ps s_ha s_en pk ik s_ro s_me s_be s_se s_co pl pb pn il ib im l_a q_a) b_n p1 _ rfl) (va_cwS 2 hts (gS q2_167 q2_168 q1_4 q2_169) rfl rfl rfl hd_X0_numberIn ⟨Nat.le_of_ble_eq_true rfl, Nat.le_of_ble_eq_true rfl⟩) rfl hl.1 rfl (Nat.le_of_ble_eq_true rfl) dX0_numberOf_5 ⟨Nat.zero_le _, Nat.zero_le _⟩) hS (fun _ h => h) (fun H locs hP hS => ?_)
  have hP : va_P D vwCl (cw ad cI cL cZ c_sr t_n t_r t_w s_w s_h s_c s_p s_s p_nx p_sz r_k r_r r_p l_z q_z t_t b_l b_b b_n r_t l_l l_b l_n q_l q_b q_n t_le s_cs s_ps s_ha s_en pk ik s_ro s_me s_be s_se s_co pl pb pn il ib im l_a q_a) H := hP
  subst hr
  exact ret_i hx hb hrt hlocks hP hS dX0_numberOf_8
theorem hd_X0_become : yX0_become.cls = RX0 ∧ yX0_become.cls ≠ "java/lang/invoke/MethodHandle" ∧ yX0_become.cls ≠ "java/lang/invoke/VarHandle" ∧ (parseMethodDescriptor yX0_become.desc).map (fun d => d.parameters.length) = some 3 := by decide +kernel
def f_X0_become (p1 : Int64) (p3 : Int64) (p5 : Int64) : Int64 × Int64 × Int64 := (p1, p3, p5)
set_option maxHeartbeats 4000000 in
set_option maxRecDepth 100000 in
theorem c_X0_become (l : Launch) (D : va_G) (cI cL cZ : ClassId) (ad : Nat → Nat) (c_sr t_n t_r t_w s_w s_h s_c s_p s_s p_nx p_sz r_k r_r r_p l_z q_z : Int32) (t_t b_l b_b b_n r_t l_l l_b l_n q_l q_b q_n : Int64) (t_le s_cs s_ps s_ha s_en pk ik : Nat → Int32) (s_ro s_me s_be s_se s_co pl pb pn il ib im l_a q_a : Nat → Int64) (hAd : cInj ad) (p1 p3 p5 : Int64) (r : Int64 × Int64 × Int64) (hr : f_X0_become p1 p3 p5 = r) : MV l yX0_become (Cond.code yX0_become cX0_become 7 none :: W0) 0 0 D cI cL cZ (cAd ad) [.ref (ad 13), .long p1, .long p3, .long p5] (cw ad cI cL cZ c_sr t_n t_r t_w s_w s_h s_c s_p s_s p_nx p_sz r_k r_r r_p l_z q_z t_t b_l b_b b_n r_t l_l l_b l_n q_l q_b q_n t_le s_cs s_ps s_ha s_en pk ik s_ro s_me s_be s_se s_co pl pb pn il ib im l_a q_a) (cw ad cI cL cZ c_sr t_n t_r t_w s_w s_h s_c s_p s_s p_nx p_sz r_k r_r r_p l_z q_z t_t r.1 r.2.1 r.2.2 r_t l_l l_b l_n q_l q_b q_n t_le s_cs s_ps s_ha s_en pk ik s_ro s_me s_be s_se s_co pl pb pn il ib im l_a q_a) := by
  refine mk_start (cc := cX0_become) (maxL := 7) (ret := none) (by decide) rfl (Nat.le_of_ble_eq_true rfl) ?_
  intro p e s m below meth c ls C hP hS hl
  obtain ⟨hx, hb, hml, hrt, hlocks, hown, hts, hk⟩ := C
  have hown : s.vm.findClass RX0 = some m.cls := hown
  have hl : lv_has ls 7 [(0, .ref (ad 13)), (1, .long p1), (3, .long p3), (5, .long p5)] := hl
  rw [f_X0_become] at hr
  refine lv_aload_n hx hb dX0_become_0 rfl (lv_at hl 0 rfl) ?_
  refine lv_lload_n hx hb dX0_become_1 rfl (lv_at hl 1 rfl) ?_
  refine va_put (D := D) (ci := 0) (v := .long p1) (ty := .long) (C := RX0) (T := TX0) (N := 3) hx hb hts u_X0 tyX0 tyX0_ok nmX0 hown hk.1 hP (cw_D hAd) hS 13 rfl rfl 0 (by decide) (hts _ q1_114) (fun _ h9 => h9) rfl (tyX0_ok 0 (by decide)) rfl rfl (Nat.le_of_ble_eq_true rfl) dX0_become_2 (fun H locs hP _ hS => ?_)
  have hP : va_P D vwCl (cw ad cI cL cZ c_sr t_n t_r t_w s_w s_h s_c s_p s_s p_nx p_sz r_k r_r r_p l_z q_z t_t p1 b_b b_n r_t l_l l_b l_n q_l q_b q_n t_le s_cs s_ps s_ha s_en pk ik s_ro s_me s_be s_se s_co pl pb pn il ib im l_a q_a) H := hP
  refine lv_aload_n hx hb dX0_become_5 rfl (lv_at hl 0 rfl) ?_
  refine lv_lload_n hx hb dX0_become_6 rfl (lv_at hl 2 rfl) ?_
  refine va_put (D := D) (ci := 0) (v := .long p3) (ty := .long) (C := RX0) (T := TX0) (N := 3) hx hb hts u_X0 tyX0 tyX0_ok nmX0 hown hk.1 hP (cw_D hAd) hS 13 rfl rfl 1 (by decide) (hts _ q1_118) (fun _ h9 => h9) rfl (tyX0_ok 1 (by decide)) rfl rfl (Nat.le_of_ble_eq_true rfl) dX0_become_7 (fun H locs hP _ hS => ?_)
  have hP : va_P D vwCl (cw ad cI cL cZ c_sr t_n t_r t_w s_w s_h s_c s_p s_s p_nx p_sz r_k r_r r_p l_z q_z t_t p1 p3 b_n r_t l_l l_b l_n q_l q_b q_n t_le s_cs s_ps s_ha s_en pk ik s_ro s_me s_be s_se s_co pl pb pn il ib im l_a q_a) H := hP
  refine lv_aload_n hx hb dX0_become_10 rfl (lv_at hl 0 rfl) ?_
  refine lv_lload hx hb dX0_become_11 (lv_at hl 3 rfl) ?_
  refine va_put (D := D) (ci := 0) (v := .long p5) (ty := .long) (C := RX0) (T := TX0) (N := 3) hx hb hts u_X0 tyX0 tyX0_ok nmX0 hown hk.1 hP (cw_D hAd) hS 13 rfl rfl 2 (by decide) (hts _ q1_122) (fun _ h9 => h9) rfl (tyX0_ok 2 (by decide)) rfl rfl (Nat.le_of_ble_eq_true rfl) dX0_become_13 (fun H locs hP _ hS => ?_)
  have hP : va_P D vwCl (cw ad cI cL cZ c_sr t_n t_r t_w s_w s_h s_c s_p s_s p_nx p_sz r_k r_r r_p l_z q_z t_t p1 p3 p5 r_t l_l l_b l_n q_l q_b q_n t_le s_cs s_ps s_ha s_en pk ik s_ro s_me s_be s_se s_co pl pb pn il ib im l_a q_a) H := hP
  subst hr
  exact ret_v hx hb hrt hlocks hP hS dX0_become_16
