theorem hd_X7_beforeChange : yX7_beforeChange.cls = RX7 ∧ yX7_beforeChange.cls ≠ "java/lang/invoke/MethodHandle" ∧ yX7_beforeChange.cls ≠ "java/lang/invoke/VarHandle" ∧ (parseMethodDescriptor yX7_beforeChange.desc).map (fun d => d.parameters.length) = some 0 := by decide +kernel
def f_X7_beforeChange (p_nx : Int32) (p_sz : Int32) (b_l : Int64) (b_b : Int64) (b_n : Int64) (pk : Nat → Int32) (pl : Nat → Int64) (pb : Nat → Int64) (pn : Nat → Int64) : Int32 × Int32 × Int32 × (Nat → Int32) × (Nat → Int64) × (Nat → Int64) × (Nat → Int64) := (bd (f_X2_remember p_nx p_sz b_l b_b b_n pk pl pb pn) (fun u1 => (0, u1.1, u1.2.1, u1.2.2.1, u1.2.2.2.1, u1.2.2.2.2.1, u1.2.2.2.2.2)))
set_option maxHeartbeats 4000000 in
set_option maxRecDepth 100000 in
theorem c_X7_beforeChange (l : Launch) (D : va_G) (cI cL cZ : ClassId) (ad : Nat → Nat) (c_sr t_n t_r t_w s_w s_h s_c s_p s_s p_nx p_sz r_k r_r r_p l_z q_z : Int32) (t_t b_l b_b b_n r_t l_l l_b l_n q_l q_b q_n : Int64) (t_le s_cs s_ps s_ha s_en pk ik : Nat → Int32) (s_ro s_me s_be s_se s_co pl pb pn il ib im l_a q_a : Nat → Int64) (hAd : cInj ad) (r : Int32 × Int32 × Int32 × (Nat → Int32) × (Nat → Int64) × (Nat → Int64) × (Nat → Int64)) (hr : f_X7_beforeChange p_nx p_sz b_l b_b b_n pk pl pb pn = r) : MV l yX7_beforeChange (Cond.code yX7_beforeChange cX7_beforeChange 1 none :: W0) 3 66 D cI cL cZ (cAd ad) [.ref (ad 0)] (cw ad cI cL cZ c_sr t_n t_r t_w s_w s_h s_c s_p s_s p_nx p_sz r_k r_r r_p l_z q_z t_t b_l b_b b_n r_t l_l l_b l_n q_l q_b q_n t_le s_cs s_ps s_ha s_en pk ik s_ro s_me s_be s_se s_co pl pb pn il ib im l_a q_a) (cw ad cI cL cZ r.1 t_n t_r t_w s_w s_h s_c s_p s_s r.2.1 r.2.2.1 r_k r_r r_p l_z q_z t_t b_l b_b b_n r_t l_l l_b l_n q_l q_b q_n t_le s_cs s_ps s_ha s_en r.2.2.2.1 ik s_ro s_me s_be s_se s_co r.2.2.2.2.1 r.2.2.2.2.2.1 r.2.2.2.2.2.2 il ib im l_a q_a) := by
  refine mk_start (cc := cX7_beforeChange) (maxL := 1) (ret := none) (by decide) rfl (Nat.le_of_ble_eq_true rfl) ?_
  intro p e s m below meth c ls C hP hS hl
  obtain ⟨hx, hb, hml, hrt, hlocks, hown, hts, hk⟩ := C
  have hown : s.vm.findClass RX7 = some m.cls := hown
  have hl : lv_has ls 1 [(0, .ref (ad 0))] := hl
  rw [f_X7_beforeChange] at hr
  refine lv_aload_n hx hb dX7_beforeChange_0 rfl (lv_at hl 0 rfl) ?_
  refine va_get (D := D) (ci := 7) (v := .ref (ad 14)) (C := RX7) (T := TX7) (N := 9) hx hb hts u_X7 hown hk.1 hP 0 rfl rfl 3 (by decide) (hts _ q2_80) (fun _ h9 => h9) rfl dX7_beforeChange_1 ?_
  refine lv_aload_n hx hb dX7_beforeChange_4 rfl (lv_at hl 0 rfl) ?_
  refine va_get (D := D) (ci := 7) (v := .ref (ad 13)) (C := RX7) (T := TX7) (N := 9) hx hb hts u_X7 hown hk.1 hP 0 rfl rfl 2 (by decide) (hts _ q2_79) (fun _ h9 => h9) rfl dX7_beforeChange_5 ?_
  obtain ⟨u1, hu1⟩ : ∃ z, f_X2_remember p_nx p_sz b_l b_b b_n pk pl pb pn = z := ⟨_, rfl⟩
  have hr := (bd_eq hu1).symm.trans hr
  refine go_v (ru_V (n := 1) ⟨hx, hb, hml, hown, hts⟩ hk hP (c_X2_remember l D cI cL cZ ad c_sr t_n t_r t_w s_w s_h s_c s_p s_s p_nx p_sz r_k r_r r_p l_z q_z t_t b_l b_b b_n r_t l_l l_b l_n q_l q_b q_n t_le s_cs s_ps s_ha s_en pk ik s_ro s_me s_be s_se s_co pl pb pn il ib im l_a q_a hAd _ hu1) (cwV 1 hts (gV q2_204 q2_205 q2_206 q1_5 q2_207) rfl rfl rfl hd_X2_remember ⟨Nat.le_of_ble_eq_true rfl, Nat.le_of_ble_eq_true rfl⟩) (va_recv hk.1 hP (ci := 2) (q0 := 14) rfl rfl) rfl hl.1 rfl (Nat.le_of_ble_eq_true rfl) dX7_beforeChange_8 ⟨Nat.zero_le _, Nat.zero_le _⟩) hS (fun _ h => h) (fun H locs hP hS => ?_)
  have hP : va_P D vwCl (cw ad cI cL cZ c_sr t_n t_r t_w s_w s_h s_c s_p s_s u1.1 u1.2.1 r_k r_r r_p l_z q_z t_t b_l b_b b_n r_t l_l l_b l_n q_l q_b q_n t_le s_cs s_ps s_ha s_en u1.2.2.1 ik s_ro s_me s_be s_se s_co u1.2.2.2.1 u1.2.2.2.2.1 u1.2.2.2.2.2 il ib im l_a q_a) H := hP
  refine lv_aload_n hx hb dX7_beforeChange_11 rfl (lv_at hl 0 rfl) ?_
  refine lv_iconst (v := 0) hx hb dX7_beforeChange_12 (by decide) ?_
  refine va_put (D := D) (ci := 7) (v := .int 0) (ty := .boolean) (C := RX7) (T := TX7) (N := 9) hx hb hts u_X7 tyX7 tyX7_ok nmX7 hown hk.1 hP (cw_D hAd) hS 0 rfl rfl 8 (by decide) (hts _ q2_85) (fun _ h9 => h9) rfl (tyX7_ok 8 (by decide)) rfl rfl (Nat.le_of_ble_eq_true rfl) dX7_beforeChange_13 (fun H locs hP _ hS => ?_)
  have hP : va_P D vwCl (cw ad cI cL cZ 0 t_n t_r t_w s_w s_h s_c s_p s_s u1.1 u1.2.1 r_k r_r r_p l_z q_z t_t b_l b_b b_n r_t l_l l_b l_n q_l q_b q_n t_le s_cs s_ps s_ha s_en u1.2.2.1 ik s_ro s_me s_be s_se s_co u1.2.2.2.1 u1.2.2.2.2.1 u1.2.2.2.2.2 il ib im l_a q_a) H := hP
  subst hr
  exact ret_v hx hb hrt hlocks hP hS dX7_beforeChange_16
theorem hd_X7_follow : yX7_follow.cls = RX7 ∧ yX7_follow.cls ≠ "java/lang/invoke/MethodHandle" ∧ yX7_follow.cls ≠ "java/lang/invoke/VarHandle" ∧ (parseMethodDescriptor yX7_follow.desc).map (fun d => d.parameters.length) = some 0 := by decide +kernel
def f_X7_follow (r_k : Int32) (b_l : Int64) (b_b : Int64) (r_t : Int64) : Int32 × Int64 × Int64 := (if r_k = 2 then (f_J13_bitCount_95d88 r_t, b_l ||| r_t, b_b) else (f_J13_bitCount_95d88 r_t, b_l, b_b ||| r_t))
set_option maxHeartbeats 4000000 in
set_option maxRecDepth 100000 in
theorem c_X7_follow (l : Launch) (D : va_G) (cI cL cZ : ClassId) (ad : Nat → Nat) (c_sr t_n t_r t_w s_w s_h s_c s_p s_s p_nx p_sz r_k r_r r_p l_z q_z : Int32) (t_t b_l b_b b_n r_t l_l l_b l_n q_l q_b q_n : Int64) (t_le s_cs s_ps s_ha s_en pk ik : Nat → Int32) (s_ro s_me s_be s_se s_co pl pb pn il ib im l_a q_a : Nat → Int64) (hAd : cInj ad) (r : Int32 × Int64 × Int64) (hr : f_X7_follow r_k b_l b_b r_t = r) : MI l yX7_follow (Cond.code yX7_follow cX7_follow 1 (some .int) :: W0) 1 21 D cI cL cZ (cAd ad) [.ref (ad 0)] (cw ad cI cL cZ c_sr t_n t_r t_w s_w s_h s_c s_p s_s p_nx p_sz r_k r_r r_p l_z q_z t_t b_l b_b b_n r_t l_l l_b l_n q_l q_b q_n t_le s_cs s_ps s_ha s_en pk ik s_ro s_me s_be s_se s_co pl pb pn il ib im l_a q_a) r.1 (cw ad cI cL cZ c_sr t_n t_r t_w s_w s_h s_c s_p s_s p_nx p_sz r_k r_r r_p l_z q_z t_t r.2.1 r.2.2 b_n r_t l_l l_b l_n q_l q_b q_n t_le s_cs s_ps s_ha s_en pk ik s_ro s_me s_be s_se s_co pl pb pn il ib im l_a q_a) := by
  refine mk_start (cc := cX7_follow) (maxL := 1) (ret := (some .int)) (by decide) rfl (Nat.le_of_ble_eq_true rfl) ?_
  intro p e s m below meth c ls C hP hS hl
  obtain ⟨hx, hb, hml, hrt, hlocks, hown, hts, hk⟩ := C
  have hown : s.vm.findClass RX7 = some m.cls := hown
  have hl : lv_has ls 1 [(0, .ref (ad 0))] := hl
  rw [f_X7_follow] at hr
  refine lv_aload_n hx hb dX7_follow_0 rfl (lv_at hl 0 rfl) ?_
  refine va_get (D := D) (ci := 7) (v := .ref (ad 25)) (C := RX7) (T := TX7) (N := 9) hx hb hts u_X7 hown hk.1 hP 0 rfl rfl 5 (by decide) (hts _ q2_82) (fun _ h9 => h9) rfl dX7_follow_1 ?_
  refine va_get (D := D) (ci := 3) (v := .int r_k) (C := RX3) (T := TX3) (N := 6) hx hb hts u_X3 hown hk.1 hP 25 rfl rfl 2 (by decide) (hts _ q1_182) (fun _ h9 => h9) rfl dX7_follow_4 ?_
  refine lv_iconst (v := 2) hx hb dX7_follow_7 (by decide) ?_
  refine lv_icmp_ne (tgt := 33) hx hb dX7_follow_8 (by decide) (fun c8 => ?_) (fun c8 => ?_)
  · have hr := (if_neg c8).symm.trans hr
    refine lv_aload_n hx hb dX7_follow_33 rfl (lv_at hl 0 rfl) ?_
    refine va_get (D := D) (ci := 7) (v := .ref (ad 13)) (C := RX7) (T := TX7) (N := 9) hx hb hts u_X7 hown hk.1 hP 0 rfl rfl 2 (by decide) (hts _ q2_79) (fun _ h9 => h9) rfl dX7_follow_34 ?_
    refine lv_dup hx hb dX7_follow_37 rfl ?_
    refine va_get (D := D) (ci := 0) (v := .long b_b) (C := RX0) (T := TX0) (N := 3) hx hb hts u_X0 hown hk.1 hP 13 rfl rfl 1 (by decide) (hts _ q1_121) (fun _ h9 => h9) rfl dX7_follow_38 ?_
    refine lv_aload_n hx hb dX7_follow_41 rfl (lv_at hl 0 rfl) ?_
    refine va_get (D := D) (ci := 7) (v := .ref (ad 25)) (C := RX7) (T := TX7) (N := 9) hx hb hts u_X7 hown hk.1 hP 0 rfl rfl 5 (by decide) (hts _ q2_82) (fun _ h9 => h9) rfl dX7_follow_42 ?_
    refine va_get (D := D) (ci := 3) (v := .long r_t) (C := RX3) (T := TX3) (N := 6) hx hb hts u_X3 hown hk.1 hP 25 rfl rfl 5 (by decide) (hts _ q1_188) (fun _ h9 => h9) rfl dX7_follow_45 ?_
    refine lv_lor hx hb dX7_follow_48 ?_
    refine va_put (D := D) (ci := 0) (v := .long (b_b ||| r_t)) (ty := .long) (C := RX0) (T := TX0) (N := 3) hx hb hts u_X0 tyX0 tyX0_ok nmX0 hown hk.1 hP (cw_D hAd) hS 13 rfl rfl 1 (by decide) (hts _ q1_121) (fun _ h9 => h9) rfl (tyX0_ok 1 (by decide)) rfl rfl (Nat.le_of_ble_eq_true rfl) dX7_follow_49 (fun H locs hP _ hS => ?_)
    have hP : va_P D vwCl (cw ad cI cL cZ c_sr t_n t_r t_w s_w s_h s_c s_p s_s p_nx p_sz r_k r_r r_p l_z q_z t_t b_l (b_b ||| r_t) b_n r_t l_l l_b l_n q_l q_b q_n t_le s_cs s_ps s_ha s_en pk ik s_ro s_me s_be s_se s_co pl pb pn il ib im l_a q_a) H := hP
    refine lv_aload_n hx hb dX7_follow_52 rfl (lv_at hl 0 rfl) ?_
    refine va_get (D := D) (ci := 7) (v := .ref (ad 25)) (C := RX7) (T := TX7) (N := 9) hx hb hts u_X7 hown hk.1 hP 0 rfl rfl 5 (by decide) (hts _ q2_82) (fun _ h9 => h9) rfl dX7_follow_53 ?_
    refine va_get (D := D) (ci := 3) (v := .long r_t) (C := RX3) (T := TX3) (N := 6) hx hb hts u_X3 hown hk.1 hP 25 rfl rfl 5 (by decide) (hts _ q1_188) (fun _ h9 => h9) rfl dX7_follow_56 ?_
    refine go_i (ru_S (n := 1) ⟨hx, hb, hml, hown, hts⟩ hk hP (c_J13_bitCount_95d88 l D cI cL cZ (cAd ad) (cw ad cI cL cZ c_sr t_n t_r t_w s_w s_h s_c s_p s_s p_nx p_sz r_k r_r r_p l_z q_z t_t b_l (b_b ||| r_t) b_n r_t l_l l_b l_n q_l q_b q_n t_le s_cs s_ps s_ha s_en pk ik s_ro s_me s_be s_se s_co pl pb pn il ib im l_a q_a) r_t _ rfl) (va_cwS 1 hts (gS q3_71 q3_4 q1_13 q3_5) rfl rfl rfl hd_J13_bitCount_95d88 ⟨Nat.le_of_ble_eq_true rfl, Nat.le_of_ble_eq_true rfl⟩) rfl hl.1 rfl (Nat.le_of_ble_eq_true rfl) dX7_follow_59 ⟨Nat.zero_le _, Nat.zero_le _⟩) hS (fun _ h => h) (fun H locs hP hS => ?_)
    have hP : va_P D vwCl (cw ad cI cL cZ c_sr t_n t_r t_w s_w s_h s_c s_p s_s p_nx p_sz r_k r_r r_p l_z q_z t_t b_l (b_b ||| r_t) b_n r_t l_l l_b l_n q_l q_b q_n t_le s_cs s_ps s_ha s_en pk ik s_ro s_me s_be s_se s_co pl pb pn il ib im l_a q_a) H := hP
    subst hr
    exact ret_i hx hb hrt hlocks hP hS dX7_follow_62
  · have hr := (if_pos c8).symm.trans hr
    refine lv_aload_n hx hb dX7_follow_11 rfl (lv_at hl 0 rfl) ?_
    refine va_get (D := D) (ci := 7) (v := .ref (ad 13)) (C := RX7) (T := TX7) (N := 9) hx hb hts u_X7 hown hk.1 hP 0 rfl rfl 2 (by decide) (hts _ q2_79) (fun _ h9 => h9) rfl dX7_follow_12 ?_
    refine lv_dup hx hb dX7_follow_15 rfl ?_
    refine va_get (D := D) (ci := 0) (v := .long b_l) (C := RX0) (T := TX0) (N := 3) hx hb hts u_X0 hown hk.1 hP 13 rfl rfl 0 (by decide) (hts _ q1_117) (fun _ h9 => h9) rfl dX7_follow_16 ?_
    refine lv_aload_n hx hb dX7_follow_19 rfl (lv_at hl 0 rfl) ?_
    refine va_get (D := D) (ci := 7) (v := .ref (ad 25)) (C := RX7) (T := TX7) (N := 9) hx hb hts u_X7 hown hk.1 hP 0 rfl rfl 5 (by decide) (hts _ q2_82) (fun _ h9 => h9) rfl dX7_follow_20 ?_
    refine va_get (D := D) (ci := 3) (v := .long r_t) (C := RX3) (T := TX3) (N := 6) hx hb hts u_X3 hown hk.1 hP 25 rfl rfl 5 (by decide) (hts _ q1_188) (fun _ h9 => h9) rfl dX7_follow_23 ?_
    refine lv_lor hx hb dX7_follow_26 ?_
    refine va_put (D := D) (ci := 0) (v := .long (b_l ||| r_t)) (ty := .long) (C := RX0) (T := TX0) (N := 3) hx hb hts u_X0 tyX0 tyX0_ok nmX0 hown hk.1 hP (cw_D hAd) hS 13 rfl rfl 0 (by decide) (hts _ q1_117) (fun _ h9 => h9) rfl (tyX0_ok 0 (by decide)) rfl rfl (Nat.le_of_ble_eq_true rfl) dX7_follow_27 (fun H locs hP _ hS => ?_)
    have hP : va_P D vwCl (cw ad cI cL cZ c_sr t_n t_r t_w s_w s_h s_c s_p s_s p_nx p_sz r_k r_r r_p l_z q_z t_t (b_l ||| r_t) b_b b_n r_t l_l l_b l_n q_l q_b q_n t_le s_cs s_ps s_ha s_en pk ik s_ro s_me s_be s_se s_co pl pb pn il ib im l_a q_a) H := hP
    refine lv_goto (tgt := 52) hx hb dX7_follow_30 (by decide) ?_
    refine lv_aload_n hx hb dX7_follow_52 rfl (lv_at hl 0 rfl) ?_
    refine va_get (D := D) (ci := 7) (v := .ref (ad 25)) (C := RX7) (T := TX7) (N := 9) hx hb hts u_X7 hown hk.1 hP 0 rfl rfl 5 (by decide) (hts _ q2_82) (fun _ h9 => h9) rfl dX7_follow_53 ?_
    refine va_get (D := D) (ci := 3) (v := .long r_t) (C := RX3) (T := TX3) (N := 6) hx hb hts u_X3 hown hk.1 hP 25 rfl rfl 5 (by decide) (hts _ q1_188) (fun _ h9 => h9) rfl dX7_follow_56 ?_
    refine go_i (ru_S (n := 1) ⟨hx, hb, hml, hown, hts⟩ hk hP (c_J13_bitCount_95d88 l D cI cL cZ (cAd ad) (cw ad cI cL cZ c_sr t_n t_r t_w s_w s_h s_c s_p s_s p_nx p_sz r_k r_r r_p l_z q_z t_t (b_l ||| r_t) b_b b_n r_t l_l l_b l_n q_l q_b q_n t_le s_cs s_ps s_ha s_en pk ik s_ro s_me s_be s_se s_co pl pb pn il ib im l_a q_a) r_t _ rfl) (va_cwS 1 hts (gS q3_71 q3_4 q1_13 q3_5) rfl rfl rfl hd_J13_bitCount_95d88 ⟨Nat.le_of_ble_eq_true rfl, Nat.le_of_ble_eq_true rfl⟩) rfl hl.1 rfl (Nat.le_of_ble_eq_true rfl) dX7_follow_59 ⟨Nat.zero_le _, Nat.zero_le _⟩) hS (fun _ h => h) (fun H locs hP hS => ?_)
    have hP : va_P D vwCl (cw ad cI cL cZ c_sr t_n t_r t_w s_w s_h s_c s_p s_s p_nx p_sz r_k r_r r_p l_z q_z t_t (b_l ||| r_t) b_b b_n r_t l_l l_b l_n q_l q_b q_n t_le s_cs s_ps s_ha s_en pk ik s_ro s_me s_be s_se s_co pl pb pn il ib im l_a q_a) H := hP
    subst hr
    exact ret_i hx hb hrt hlocks hP hS dX7_follow_62
theorem hd_X7_openSides : yX7_openSides.cls = RX7 ∧ yX7_openSides.cls ≠ "java/lang/invoke/MethodHandle" ∧ yX7_openSides.cls ≠ "java/lang/invoke/VarHandle" ∧ (parseMethodDescriptor yX7_openSides.desc).map (fun d => d.parameters.length) = some 0 := by decide +kernel
def f_X7_openSides (s_s : Int32) (b_l : Int64) (b_b : Int64) : Int32 := (s_s - (f_J13_bitCount_95d88 b_l)) - (f_J13_bitCount_95d88 b_b)
set_option maxHeartbeats 4000000 in
set_option maxRecDepth 100000 in
theorem c_X7_openSides (l : Launch) (D : va_G) (cI cL cZ : ClassId) (ad : Nat → Nat) (c_sr t_n t_r t_w s_w s_h s_c s_p s_s p_nx p_sz r_k r_r r_p l_z q_z : Int32) (t_t b_l b_b b_n r_t l_l l_b l_n q_l q_b q_n : Int64) (t_le s_cs s_ps s_ha s_en pk ik : Nat → Int32) (s_ro s_me s_be s_se s_co pl pb pn il ib im l_a q_a : Nat → Int64) (hAd : cInj ad) (r : Int32) (hr : f_X7_openSides s_s b_l b_b = r) : MI l yX7_openSides (Cond.code yX7_openSides cX7_openSides 1 (some .int) :: W0) 1 21 D cI cL cZ (cAd ad) [.ref (ad 0)] (cw ad cI cL cZ c_sr t_n t_r t_w s_w s_h s_c s_p s_s p_nx p_sz r_k r_r r_p l_z q_z t_t b_l b_b b_n r_t l_l l_b l_n q_l q_b q_n t_le s_cs s_ps s_ha s_en pk ik s_ro s_me s_be s_se s_co pl pb pn il ib im l_a q_a) r (cw ad cI cL cZ c_sr t_n t_r t_w s_w s_h s_c s_p s_s p_nx p_sz r_k r_r r_p l_z q_z t_t b_l b_b b_n r_t l_l l_b l_n q_l q_b q_n t_le s_cs s_ps s_ha s_en pk ik s_ro s_me s_be s_se s_co pl pb pn il ib im l_a q_a) := by
  refine mk_start (cc := cX7_openSides) (maxL := 1) (ret := (some .int)) (by decide) rfl (Nat.le_of_ble_eq_true rfl) ?_
  intro p e s m below meth c ls C hP hS hl
  obtain ⟨hx, hb, hml, hrt, hlocks, hown, hts, hk⟩ := C
  have hown : s.vm.findClass RX7 = some m.cls := hown
  have hl : lv_has ls 1 [(0, .ref (ad 0))] := hl
  rw [f_X7_openSides] at hr
  refine lv_aload_n hx hb dX7_openSides_0 rfl (lv_at hl 0 rfl) ?_
  refine va_get (D := D) (ci := 7) (v := .ref (ad 3)) (C := RX7) (T := TX7) (N := 9) hx hb hts u_X7 hown hk.1 hP 0 rfl rfl 1 (by decide) (hts _ q2_78) (fun _ h9 => h9) rfl dX7_openSides_1 ?_
  refine va_get (D := D) (ci := 4) (v := .int s_s) (C := RX4) (T := TX4) (N := 14) hx hb hts u_X4 hown hk.1 hP 3 rfl rfl 4 (by decide) (hts _ q1_68) (fun _ h9 => h9) rfl dX7_openSides_4 ?_
  refine lv_aload_n hx hb dX7_openSides_7 rfl (lv_at hl 0 rfl) ?_
  refine va_get (D := D) (ci := 7) (v := .ref (ad 13)) (C := RX7) (T := TX7) (N := 9) hx hb hts u_X7 hown hk.1 hP 0 rfl rfl 2 (by decide) (hts _ q2_79) (fun _ h9 => h9) rfl dX7_openSides_8 ?_
  refine va_get (D := D) (ci := 0) (v := .long b_l) (C := RX0) (T := TX0) (N := 3) hx hb hts u_X0 hown hk.1 hP 13 rfl rfl 0 (by decide) (hts _ q1_117) (fun _ h9 => h9) rfl dX7_openSides_11 ?_
  refine go_i (ru_S (n := 1) ⟨hx, hb, hml, hown, hts⟩ hk hP (c_J13_bitCount_95d88 l D cI cL cZ (cAd ad) (cw ad cI cL cZ c_sr t_n t_r t_w s_w s_h s_c s_p s_s p_nx p_sz r_k r_r r_p l_z q_z t_t b_l b_b b_n r_t l_l l_b l_n q_l q_b q_n t_le s_cs s_ps s_ha s_en pk ik s_ro s_me s_be s_se s_co pl pb pn il ib im l_a q_a) b_l _ rfl) (va_cwS 1 hts (gS q3_71 q3_4 q1_13 q3_5) rfl rfl rfl hd_J13_bitCount_95d88 ⟨Nat.le_of_ble_eq_true rfl, Nat.le_of_ble_eq_true rfl⟩) rfl hl.1 rfl (Nat.le_of_ble_eq_true rfl) dX7_openSides_14 ⟨Nat.zero_le _, Nat.zero_le _⟩) hS (fun _ h => h) (fun H locs hP hS => ?_)
  have hP : va_P D vwCl (cw ad cI cL cZ c_sr t_n t_r t_w s_w s_h s_c s_p s_s p_nx p_sz r_k r_r r_p l_z q_z t_t b_l b_b b_n r_t l_l l_b l_n q_l q_b q_n t_le s_cs s_ps s_ha s_en pk ik s_ro s_me s_be s_se s_co pl pb pn il ib im l_a q_a) H := hP
  refine lv_isub hx hb dX7_openSides_17 ?_
  refine lv_aload_n hx hb dX7_openSides_18 rfl (lv_at hl 0 rfl) ?_
  refine va_get (D := D) (ci := 7) (v := .ref (ad 13)) (C := RX7) (T := TX7) (N := 9) hx hb hts u_X7 hown hk.1 hP 0 rfl rfl 2 (by decide) (hts _ q2_79) (fun _ h9 => h9) rfl dX7_openSides_19 ?_
  refine va_get (D := D) (ci := 0) (v := .long b_b) (C := RX0) (T := TX0) (N := 3) hx hb hts u_X0 hown hk.1 hP 13 rfl rfl 1 (by decide) (hts _ q1_121) (fun _ h9 => h9) rfl dX7_openSides_22 ?_
  refine go_i (ru_S (n := 1) ⟨hx, hb, hml, hown, hts⟩ hk hP (c_J13_bitCount_95d88 l D cI cL cZ (cAd ad) (cw ad cI cL cZ c_sr t_n t_r t_w s_w s_h s_c s_p s_s p_nx p_sz r_k r_r r_p l_z q_z t_t b_l b_b b_n r_t l_l l_b l_n q_l q_b q_n t_le s_cs s_ps s_ha s_en pk ik s_ro s_me s_be s_se s_co pl pb pn il ib im l_a q_a) b_b _ rfl) (va_cwS 1 hts (gS q3_71 q3_4 q1_13 q3_5) rfl rfl rfl hd_J13_bitCount_95d88 ⟨Nat.le_of_ble_eq_true rfl, Nat.le_of_ble_eq_true rfl⟩) rfl hl.1 rfl (Nat.le_of_ble_eq_true rfl) dX7_openSides_25 ⟨Nat.zero_le _, Nat.zero_le _⟩) hS (fun _ h => h) (fun H locs hP hS => ?_)
  have hP : va_P D vwCl (cw ad cI cL cZ c_sr t_n t_r t_w s_w s_h s_c s_p s_s p_nx p_sz r_k r_r r_p l_z q_z t_t b_l b_b b_n r_t l_l l_b l_n q_l q_b q_n t_le s_cs s_ps s_ha s_en pk ik s_ro s_me s_be s_se s_co pl pb pn il ib im l_a q_a) H := hP
  refine lv_isub hx hb dX7_openSides_28 ?_
  subst hr
  exact ret_i hx hb hrt hlocks hP hS dX7_openSides_29
theorem hd_X7_cellsWithNumber : yX7_cellsWithNumber.cls = RX7 ∧ yX7_cellsWithNumber.cls ≠ "java/lang/invoke/MethodHandle" ∧ yX7_cellsWithNumber.cls ≠ "java/lang/invoke/VarHandle" ∧ (parseMethodDescriptor yX7_cellsWithNumber.desc).map (fun d => d.parameters.length) = some 0 := by decide +kernel
def F_X7_cellsWithNumber_4 (s_c : Int32) (b_n : Int64) {β : Type} (k0 : Int32 → β) : Nat → Int32 → Int32 → β
  | 0, x1, x2 => k0 x1
  | n + 1, x1, x2 => (if s_c ≤ x2 then k0 x1 else (if (f_X0_numberOf x2 b_n) < 0 then F_X7_cellsWithNumber_4 s_c b_n k0 n x1 (x2 + 1) else F_X7_cellsWithNumber_4 s_c b_n k0 n (x1 + 1) (x2 + 1)))
def f_X7_cellsWithNumber (s_c : Int32) (b_n : Int64) : Int32 := F_X7_cellsWithNumber_4 s_c b_n (fun z1 => z1) (fu s_c (0 : Int32)) 0 0
set_option maxHeartbeats 4000000 in
set_option maxRecDepth 100000 in
theorem lp_X7_cellsWithNumber_4 (l : Launch) (D : va_G) (cI cL cZ : ClassId) (ad : Nat → Nat) (c_sr t_n t_r t_w s_w s_h s_c s_p s_s p_nx p_sz r_k r_r r_p l_z q_z : Int32) (t_t b_l b_b b_n r_t l_l l_b l_n q_l q_b q_n : Int64) (t_le s_cs s_ps s_ha s_en pk ik : Nat → Int32) (s_ro s_me s_be s_se s_co pl pb pn il ib im l_a q_a : Nat → Int64) {p : Program} {e : Env} {s : State} {m : MethodId} {args : Array Value} {below : List Frame} {meth : Method} {c : Code} {Q : State → Prop} (C : Cx p s m args meth c cX7_cellsWithNumber 3 (some .int) W0 RX7 D cI cL cZ) (hAd : cInj ad) {β : Type} (k0 : Int32 → β) (r : β)
    (h0 : ∀ (e1 : Int32) (H : Heap) (locs : List Loc) (ls : Array Slot), k0 e1 = r → va_P D vwCl (cw ad cI cL cZ c_sr t_n t_r t_w s_w s_h s_c s_p s_s p_nx p_sz r_k r_r r_p l_z q_z t_t b_l b_b b_n r_t l_l l_b l_n q_l q_b q_n t_le s_cs s_ps s_ha s_en pk ik s_ro s_me s_be s_se s_co pl pb pn il ib im l_a q_a) H → va_S (cAd ad) s.heap H locs → lv_has ls 3 [(1, .int e1)] → W p l e (rmS 2 43) s m args below meth c H locs 0 0 Q (F0 m 35 ls [])) :
    ∀ (n : Nat) (x1 x2 : Int32) (H : Heap) (locs : List Loc) (ls : Array Slot), fuU n s_c x2 → F_X7_cellsWithNumber_4 s_c b_n k0 n x1 x2 = r → va_P D vwCl (cw ad cI cL cZ c_sr t_n t_r t_w s_w s_h s_c s_p s_s p_nx p_sz r_k r_r r_p l_z q_z t_t b_l b_b b_n r_t l_l l_b l_n q_l q_b q_n t_le s_cs s_ps s_ha s_en pk ik s_ro s_me s_be s_se s_co pl pb pn il ib im l_a q_a) H → va_S (cAd ad) s.heap H locs → lv_has ls 3 [(0, .ref (ad 0)), (1, .int x1), (2, .int x2)] → W p l e (rmS 2 43) s m args below meth c H locs 0 0 Q (F0 m 4 ls []) := by
  obtain ⟨hx, hb, hml, hrt, hlocks, hown, hts, hk⟩ := C
  intro n
  induction n with
  | zero =>
    intro x1 x2 H locs ls hf
    exact absurd hf.1 (Nat.lt_irrefl 0)
  | succ n ih =>
    intro x1 x2 H locs ls hf hr hP hS hl
    rw [F_X7_cellsWithNumber_4] at hr
    refine lv_iload_n hx hb dX7_cellsWithNumber_4 rfl (lv_at hl 2 rfl) ?_
    refine lv_aload_n hx hb dX7_cellsWithNumber_5 rfl (lv_at hl 0 rfl) ?_
    refine va_get (D := D) (ci := 7) (v := .ref (ad 3)) (C := RX7) (T := TX7) (N := 9) hx hb hts u_X7 hown hk.1 hP 0 rfl rfl 1 (by decide) (hts _ q2_78) (fun _ h9 => h9) rfl dX7_cellsWithNumber_6 ?_
    refine va_get (D := D) (ci := 4) (v := .int s_c) (C := RX4) (T := TX4) (N := 14) hx hb hts u_X4 hown hk.1 hP 3 rfl rfl 2 (by decide) (hts _ q1_63) (fun _ h9 => h9) rfl dX7_cellsWithNumber_9 ?_
    refine lv_icmp_ge (tgt := 35) hx hb dX7_cellsWithNumber_12 (by decide) (fun c12 => ?_) (fun c12 => ?_)
    · have hr := (if_pos c12).symm.trans hr
      exact h0 x1 _ _ _ hr hP hS (lv_sub hl [1] rfl)
    · have hr := (if_neg c12).symm.trans hr
      refine lv_aload_n hx hb dX7_cellsWithNumber_15 rfl (lv_at hl 0 rfl) ?_
      refine va_get (D := D) (ci := 7) (v := .ref (ad 13)) (C := RX7) (T := TX7) (N := 9) hx hb hts u_X7 hown hk.1 hP 0 rfl rfl 2 (by decide) (hts _ q2_79) (fun _ h9 => h9) rfl dX7_cellsWithNumber_16 ?_
      refine lv_iload_n hx hb dX7_cellsWithNumber_19 rfl (lv_at hl 2 rfl) ?_
      refine go_i (ru_V (n := 1) ⟨hx, hb, hml, hown, hts⟩ hk hP (c_X0_numberOf l D cI cL cZ ad c_sr t_n t_r t_w s_w s_h s_c s_p s_s p_nx p_sz r_k r_r r_p l_z q_z t_t b_l b_b b_n r_t l_l l_b l_n q_l q_b q_n t_le s_cs s_ps s_ha s_en pk ik s_ro s_me s_be s_se s_co pl pb pn il ib im l_a q_a hAd x2 _ rfl) (cwV 1 hts (gV q2_163 q2_164 q2_165 q1_4 q2_166) rfl rfl rfl hd_X0_numberOf ⟨Nat.le_of_ble_eq_true rfl, Nat.le_of_ble_eq_true rfl⟩) (va_recv hk.1 hP (ci := 0) (q0 := 13) rfl rfl) rfl hl.1 rfl (Nat.le_of_ble_eq_true rfl) dX7_cellsWithNumber_20 ⟨Nat.zero_le _, Nat.zero_le _⟩) hS (fun _ h => h) (fun H locs hP hS => ?_)
      have hP : va_P D vwCl (cw ad cI cL cZ c_sr t_n t_r t_w s_w s_h s_c s_p s_s p_nx p_sz r_k r_r r_p l_z q_z t_t b_l b_b b_n r_t l_l l_b l_n q_l q_b q_n t_le s_cs s_ps s_ha s_en pk ik s_ro s_me s_be s_se s_co pl pb pn il ib im l_a q_a) H := hP
      refine lv_if_lt (tgt := 29) hx hb dX7_cellsWithNumber_23 (by decide) (fun c23 => ?_) (fun c23 => ?_)
      · have hr := (if_pos c23).symm.trans hr
        refine lv_iinc (v := x2 + 1) (lv' := [(2, .int (x2 + 1)), (0, .ref (ad 0)), (1, .int x1)]) hx hb dX7_cellsWithNumber_29 hl (k := 2) rfl rfl (by decide) rfl (fun ls hl => ?_)
        refine lv_goto (tgt := 4) hx hb dX7_cellsWithNumber_32 (by decide) ?_
        exact ih x1 (x2 + 1) _ _ _ (fuU_s hf c12) hr hP hS (lv_sub hl [1, 2, 0] rfl)
      · have hr := (if_neg c23).symm.trans hr
        refine lv_iinc (v := x1 + 1) (lv' := [(1, .int (x1 + 1)), (0, .ref (ad 0)), (2, .int x2)]) hx hb dX7_cellsWithNumber_26 hl (k := 1) rfl rfl (by decide) rfl (fun ls hl => ?_)
        refine lv_iinc (v := x2 + 1) (lv' := [(2, .int (x2 + 1)), (1, .int (x1 + 1)), (0, .ref (ad 0))]) hx hb dX7_cellsWithNumber_29 hl (k := 2) rfl rfl (by decide) rfl (fun ls hl => ?_)
        refine lv_goto (tgt := 4) hx hb dX7_cellsWithNumber_32 (by decide) ?_
        exact ih (x1 + 1) (x2 + 1) _ _ _ (fuU_s hf c12) hr hP hS (lv_sub hl [2, 1, 0] rfl)
set_option maxHeartbeats 4000000 in
set_option maxRecDepth 100000 in
theorem c_X7_cellsWithNumber (l : Launch) (D : va_G) (cI cL cZ : ClassId) (ad : Nat → Nat) (c_sr t_n t_r t_w s_w s_h s_c s_p s_s p_nx p_sz r_k r_r r_p l_z q_z : Int32) (t_t b_l b_b b_n r_t l_l l_b l_n q_l q_b q_n : Int64) (t_le s_cs s_ps s_ha s_en pk ik : Nat → Int32) (s_ro s_me s_be s_se s_co pl pb pn il ib im l_a q_a : Nat → Int64) (hAd : cInj ad) (r : Int32) (hr : f_X7_cellsWithNumber s_c b_n = r) : MI l yX7_cellsWithNumber (Cond.code yX7_cellsWithNumber cX7_cellsWithNumber 3 (some .int) :: W0) 2 43 D cI cL cZ (cAd ad) [.ref (ad 0)] (cw ad cI cL cZ c_sr t_n t_r t_w s_w s_h s_c s_p s_s p_nx p_sz r_k r_r r_p l_z q_z t_t b_l b_b b_n r_t l_l l_b l_n q_l q_b q_n t_le s_cs s_ps s_ha s_en pk ik s_ro s_me s_be s_se s_co pl pb pn il ib im l_a q_a) r (cw ad cI cL cZ c_sr t_n t_r t_w s_w s_h s_c s_p s_s p_nx p_sz r_k r_r r_p l_z q_z t_t b_l b_b b_n r_t l_l l_b l_n q_l q_b q_n t_le s_cs s_ps s_ha s_en pk ik s_ro s_me s_be s_se s_co pl pb pn il ib im l_a q_a) := by
  refine mk_start (cc := cX7_cellsWithNumber) (maxL := 3) (ret := (some .int)) (by decide) rfl (Nat.le_of_ble_eq_true rfl) ?_
  intro p e s m below meth c ls C hP hS hl
  obtain ⟨hx, hb, hml, hrt, hlocks, hown, hts, hk⟩ := C
  have hown : s.vm.findClass RX7 = some m.cls := hown
  have hl : lv_has ls 3 [(0, .ref (ad 0))] := hl
  rw [f_X7_cellsWithNumber] at hr
  refine lv_iconst (v := 0) hx hb dX7_cellsWithNumber_0 (by decide) ?_
  refine lv_istore_n (lv' := [(1, .int 0), (0, .ref (ad 0))]) hx hb dX7_cellsWithNumber_1 rfl hl (by decide) rfl (fun ls hl => ?_)
  refine lv_iconst (v := 0) hx hb dX7_cellsWithNumber_2 (by decide) ?_
  refine lv_istore_n (lv' := [(2, .int 0), (1, .int 0), (0, .ref (ad 0))]) hx hb dX7_cellsWithNumber_3 rfl hl (by decide) rfl (fun ls hl => ?_)
  refine lp_X7_cellsWithNumber_4 l D cI cL cZ ad c_sr t_n t_r t_w s_w s_h s_c s_p s_s p_nx p_sz r_k r_r r_p l_z q_z t_t b_l b_b b_n r_t l_l l_b l_n q_l q_b q_n t_le s_cs s_ps s_ha s_en pk ik s_ro s_me s_be s_se s_co pl pb pn il ib im l_a q_a ⟨hx, hb, hml, hrt, hlocks, hown, hts, hk⟩ hAd _ _ (fun z1 H locs ls hr hP hS hl => ?_) (fu s_c (0 : Int32)) 0 0 _ _ _ (fuU_0 (by decide)) hr hP hS (lv_sub hl [2, 1, 0] rfl)
  refine lv_iload_n hx hb dX7_cellsWithNumber_35 rfl (lv_at hl 0 rfl) ?_
  subst hr
  exact ret_i hx hb hrt hlocks hP hS dX7_cellsWithNumber_36
theorem hd_X7_type : yX7_type.cls = RX7 ∧ yX7_type.cls ≠ "java/lang/invoke/MethodHandle" ∧ yX7_type.cls ≠ "java/lang/invoke/VarHandle" ∧ (parseMethodDescriptor yX7_type.desc).map (fun d => d.parameters.length) = some 1 := by decide +kernel
def f_X7_type (p1 : Int32) (t_n : Int32) (t_le : Nat → Int32) : Int32 × Int32 × (Nat → Int32) := (if p1 < 0 then ((-1), t_n, t_le) else (if p1 ≤ 255 then (bd (f_X6_takes p1 t_n t_le) (fun u1 => (if u1.1 = 0 then ((-3), u1.2.1, u1.2.2) else (u1.2.1, u1.2.1, u1.2.2)))) else ((-1), t_n, t_le)))
set_option maxHeartbeats 4000000 in
set_option maxRecDepth 100000 in
theorem c_X7_type (l : Launch) (D : va_G) (cI cL cZ : ClassId) (ad : Nat → Nat) (c_sr t_n t_r t_w s_w s_h s_c s_p s_s p_nx p_sz r_k r_r r_p l_z q_z : Int32) (t_t b_l b_b b_n r_t l_l l_b l_n q_l q_b q_n : Int64) (t_le s_cs s_ps s_ha s_en pk ik : Nat → Int32) (s_ro s_me s_be s_se s_co pl pb pn il ib im l_a q_a : Nat → Int64) (hAd : cInj ad) (p1 : Int32) (r : Int32 × Int32 × (Nat → Int32)) (hr : f_X7_type p1 t_n t_le = r) : MI l yX7_type (Cond.code yX7_type cX7_type 2 (some .int) :: W0) 1 21 D cI cL cZ (cAd ad) [.ref (ad 0), .int p1] (cw ad cI cL cZ c_sr t_n t_r t_w s_w s_h s_c s_p s_s p_nx p_sz r_k r_r r_p l_z q_z t_t b_l b_b b_n r_t l_l l_b l_n q_l q_b q_n t_le s_cs s_ps s_ha s_en pk ik s_ro s_me s_be s_se s_co pl pb pn il ib im l_a q_a) r.1 (cw ad cI cL cZ c_sr r.2.1 t_r t_w s_w s_h s_c s_p s_s p_nx p_sz r_k r_r r_p l_z q_z t_t b_l b_b b_n r_t l_l l_b l_n q_l q_b q_n r.2.2 s_cs s_ps s_ha s_en pk ik s_ro s_me s_be s_se s_co pl pb pn il ib im l_a q_a) := by
  refine mk_start (cc := cX7_type) (maxL := 2) (ret := (some .int)) (by decide) rfl (Nat.le_of_ble_eq_true rfl) ?_
  intro p e s m below meth c ls C hP hS hl
  obtain ⟨hx, hb, hml, hrt, hlocks, hown, hts, hk⟩ := C
  have hown : s.vm.findClass RX7 = some m.cls := hown
  have hl : lv_has ls 2 [(0, .ref (ad 0)), (1, .int p1)] := hl
  rw [f_X7_type] at hr
  refine lv_iload_n hx hb dX7_type_0 rfl (lv_at hl 1 rfl) ?_
  refine lv_if_lt (tgt := 11) hx hb dX7_type_1 (by decide) (fun c1 => ?_) (fun c1 => ?_)
  · have hr := (if_pos c1).symm.trans hr
    refine lv_iconst (v := (-1)) hx hb dX7_type_11 (by decide) ?_
    subst hr
    exact ret_i hx hb hrt hlocks hP hS dX7_type_12
  · have hr := (if_neg c1).symm.trans hr
    refine lv_iload_n hx hb dX7_type_4 rfl (lv_at hl 1 rfl) ?_
    refine lv_sipush (v := 255) hx hb dX7_type_5 (by decide) ?_
    refine lv_icmp_le (tgt := 13) hx hb dX7_type_8 (by decide) (fun c8 => ?_) (fun c8 => ?_)
    · have hr := (if_pos c8).symm.trans hr
      refine lv_aload_n hx hb dX7_type_13 rfl (lv_at hl 0 rfl) ?_
      refine va_get (D := D) (ci := 7) (v := .ref (ad 1)) (C := RX7) (T := TX7) (N := 9) hx hb hts u_X7 hown hk.1 hP 0 rfl rfl 0 (by decide) (hts _ q2_77) (fun _ h9 => h9) rfl dX7_type_14 ?_
      refine lv_iload_n hx hb dX7_type_17 rfl (lv_at hl 1 rfl) ?_
      obtain ⟨u1, hu1⟩ : ∃ z, f_X6_takes p1 t_n t_le = z := ⟨_, rfl⟩
      have hr := (bd_eq hu1).symm.trans hr
      refine go_z (ru_V (n := 1) ⟨hx, hb, hml, hown, hts⟩ hk hP (c_X6_takes l D cI cL cZ ad c_sr t_n t_r t_w s_w s_h s_c s_p s_s p_nx p_sz r_k r_r r_p l_z q_z t_t b_l b_b b_n r_t l_l l_b l_n q_l q_b q_n t_le s_cs s_ps s_ha s_en pk ik s_ro s_me s_be s_se s_co pl pb pn il ib im l_a q_a hAd p1 _ hu1) (cwV 1 hts (gV q2_109 q2_110 q2_111 q1_2 q2_112) rfl rfl rfl hd_X6_takes ⟨Nat.le_of_ble_eq_true rfl, Nat.le_of_ble_eq_true rfl⟩) (va_recv hk.1 hP (ci := 6) (q0 := 1) rfl rfl) rfl hl.1 rfl (Nat.le_of_ble_eq_true rfl) dX7_type_18 ⟨Nat.zero_le _, Nat.zero_le _⟩) hS (fun _ h => h) (fun H locs hz18 hP hS => ?_)
      have hP : va_P D vwCl (cw ad cI cL cZ c_sr u1.2.1 t_r t_w s_w s_h s_c s_p s_s p_nx p_sz r_k r_r r_p l_z q_z t_t b_l b_b b_n r_t l_l l_b l_n q_l q_b q_n u1.2.2 s_cs s_ps s_ha s_en pk ik s_ro s_me s_be s_se s_co pl pb pn il ib im l_a q_a) H := hP
      refine lv_if_eq (tgt := 34) hx hb dX7_type_21 (by decide) (fun c21 => ?_) (fun c21 => ?_)
      · have hr := (if_pos c21).symm.trans hr
        refine lv_bipush (v := (-3)) hx hb dX7_type_34 (by decide) ?_
        subst hr
        exact ret_i hx hb hrt hlocks hP hS dX7_type_36
      · have hr := (if_neg c21).symm.trans hr
        refine lv_aload_n hx hb dX7_type_24 rfl (lv_at hl 0 rfl) ?_
        refine va_get (D := D) (ci := 7) (v := .ref (ad 1)) (C := RX7) (T := TX7) (N := 9) hx hb hts u_X7 hown hk.1 hP 0 rfl rfl 0 (by decide) (hts _ q2_77) (fun _ h9 => h9) rfl dX7_type_25 ?_
        refine va_get (D := D) (ci := 6) (v := .int u1.2.1) (C := RX6) (T := TX6) (N := 5) hx hb hts u_X6 hown hk.1 hP 1 rfl rfl 1 (by decide) (hts _ q1_31) (fun _ h9 => h9) rfl dX7_type_28 ?_
        refine lv_goto (tgt := 36) hx hb dX7_type_31 (by decide) ?_
        subst hr
        exact ret_i hx hb hrt hlocks hP hS dX7_type_36
    · have hr := (if_neg c8).symm.trans hr
      refine lv_iconst (v := (-1)) hx hb dX7_type_11 (by decide) ?_
      subst hr
      exact ret_i hx hb hrt hlocks hP hS dX7_type_12
theorem hd_X7_clear : yX7_clear.cls = RX7 ∧ yX7_clear.cls ≠ "java/lang/invoke/MethodHandle" ∧ yX7_clear.cls ≠ "java/lang/invoke/VarHandle" ∧ (parseMethodDescriptor yX7_clear.desc).map (fun d => d.parameters.length) = some 0 := by decide +kernel
def f_X7_clear (t_n : Int32) : Int32 × Int32 := (t_n, 0)
set_option maxHeartbeats 4000000 in
set_option maxRecDepth 100000 in
theorem c_X7_clear (l : Launch) (D : va_G) (cI cL cZ : ClassId) (ad : Nat → Nat) (c_sr t_n t_r t_w s_w s_h s_c s_p s_s p_nx p_sz r_k r_r r_p l_z q_z : Int32) (t_t b_l b_b b_n r_t l_l l_b l_n q_l q_b q_n : Int64) (t_le s_cs s_ps s_ha s_en pk ik : Nat → Int32) (s_ro s_me s_be s_se s_co pl pb pn il ib im l_a q_a : Nat → Int64) (hAd : cInj ad) (r : Int32 × Int32) (hr : f_X7_clear t_n = r) : MI l yX7_clear (Cond.code yX7_clear cX7_clear 2 (some .int) :: W0) 0 0 D cI cL cZ (cAd ad) [.ref (ad 0)] (cw ad cI cL cZ c_sr t_n t_r t_w s_w s_h s_c s_p s_s p_nx p_sz r_k r_r r_p l_z q_z t_t b_l b_b b_n r_t l_l l_b l_n q_l q_b q_n t_le s_cs s_ps s_ha s_en pk ik s_ro s_me s_be s_se s_co pl pb pn il ib im l_a q_a) r.1 (cw ad cI cL cZ c_sr r.2 t_r t_w s_w s_h s_c s_p s_s p_nx p_sz r_k r_r r_p l_z q_z t_t b_l b_b b_n r_t l_l l_b l_n q_l q_b q_n t_le s_cs s_ps s_ha s_en pk ik s_ro s_me s_be s_se s_co pl pb pn il ib im l_a q_a) := by
  refine mk_start (cc := cX7_clear) (maxL := 2) (ret := (some .int)) (by decide) rfl (Nat.le_of_ble_eq_true rfl) ?_
  intro p e s m below meth c ls C hP hS hl
  obtain ⟨hx, hb, hml, hrt, hlocks, hown, hts, hk⟩ := C
  have hown : s.vm.findClass RX7 = some m.cls := hown
  have hl : lv_has ls 2 [(0, .ref (ad 0))] := hl
  rw [f_X7_clear] at hr
  refine lv_aload_n hx hb dX7_clear_0 rfl (lv_at hl 0 rfl) ?_
  refine va_get (D := D) (ci := 7) (v := .ref (ad 1)) (C := RX7) (T := TX7) (N := 9) hx hb hts u_X7 hown hk.1 hP 0 rfl rfl 0 (by decide) (hts _ q2_77) (fun _ h9 => h9) rfl dX7_clear_1 ?_
  refine va_get (D := D) (ci := 6) (v := .int t_n) (C := RX6) (T := TX6) (N := 5) hx hb hts u_X6 hown hk.1 hP 1 rfl rfl 1 (by decide) (hts _ q1_31) (fun _ h9 => h9) rfl dX7_clear_4 ?_
  refine lv_istore_n (lv' := [(1, .int t_n), (0, .ref (ad 0))]) hx hb dX7_clear_7 rfl hl (by decide) rfl (fun ls hl => ?_)
  refine lv_aload_n hx hb dX7_clear_8 rfl (lv_at hl 1 rfl) ?_
  refine va_get (D := D) (ci := 7) (v := .ref (ad 1)) (C := RX7) (T := TX7) (N := 9) hx hb hts u_X7 hown hk.1 hP 0 rfl rfl 0 (by decide) (hts _ q2_77) (fun _ h9 => h9) rfl dX7_clear_9 ?_
  refine lv_iconst (v := 0) hx hb dX7_clear_12 (by decide) ?_
  refine va_put (D := D) (ci := 6) (v := .int 0) (ty := .int) (C := RX6) (T := TX6) (N := 5) hx hb hts u_X6 tyX6 tyX6_ok nmX6 hown hk.1 hP (cw_D hAd) hS 1 rfl rfl 1 (by decide) (hts _ q1_31) (fun _ h9 => h9) rfl (tyX6_ok 1 (by decide)) rfl rfl (Nat.le_of_ble_eq_true rfl) dX7_clear_13 (fun H locs hP _ hS => ?_)
  have hP : va_P D vwCl (cw ad cI cL cZ c_sr 0 t_r t_w s_w s_h s_c s_p s_s p_nx p_sz r_k r_r r_p l_z q_z t_t b_l b_b b_n r_t l_l l_b l_n q_l q_b q_n t_le s_cs s_ps s_ha s_en pk ik s_ro s_me s_be s_se s_co pl pb pn il ib im l_a q_a) H := hP
  refine lv_iload_n hx hb dX7_clear_16 rfl (lv_at hl 0 rfl) ?_
  subst hr
  exact ret_i hx hb hrt hlocks hP hS dX7_clear_17
theorem hd_X7_number : yX7_number.cls = RX7 ∧ yX7_number.cls ≠ "java/lang/invoke/MethodHandle" ∧ yX7_number.cls ≠ "java/lang/invoke/VarHandle" ∧ (parseMethodDescriptor yX7_number.desc).map (fun d => d.parameters.length) = some 1 := by decide +kernel
def f_X7_number (p1 : Int32) (s_c : Int32) (b_n : Int64) : Int32 := (if (f_X4_hasCell p1 s_c) = 0 then (-1) else (if 0 ≤ (f_X0_numberOf p1 b_n) then f_X0_numberOf p1 b_n else (-9)))
set_option maxHeartbeats 4000000 in
set_option maxRecDepth 100000 in
theorem c_X7_number (l : Launch) (D : va_G) (cI cL cZ : ClassId) (ad : Nat → Nat) (c_sr t_n t_r t_w s_w s_h s_c s_p s_s p_nx p_sz r_k r_r r_p l_z q_z : Int32) (t_t b_l b_b b_n r_t l_l l_b l_n q_l q_b q_n : Int64) (t_le s_cs s_ps s_ha s_en pk ik : Nat → Int32) (s_ro s_me s_be s_se s_co pl pb pn il ib im l_a q_a : Nat → Int64) (hAd : cInj ad) (p1 : Int32) (r : Int32) (hr : f_X7_number p1 s_c b_n = r) : MI l yX7_number (Cond.code yX7_number cX7_number 3 (some .int) :: W0) 2 43 D cI cL cZ (cAd ad) [.ref (ad 0), .int p1] (cw ad cI cL cZ c_sr t_n t_r t_w s_w s_h s_c s_p s_s p_nx p_sz r_k r_r r_p l_z q_z t_t b_l b_b b_n r_t l_l l_b l_n q_l q_b q_n t_le s_cs s_ps s_ha s_en pk ik s_ro s_me s_be s_se s_co pl pb pn il ib im l_a q_a) r (cw ad cI cL cZ c_sr t_n t_r t_w s_w s_h s_c s_p s_s p_nx p_sz r_k r_r r_p l_z q_z t_t b_l b_b b_n r_t l_l l_b l_n q_l q_b q_n t_le s_cs s_ps s_ha s_en pk ik s_ro s_me s_be s_se s_co pl pb pn il ib im l_a q_a) := by
  refine mk_start (cc := cX7_number) (maxL := 3) (ret := (some .int)) (by decide) rfl (Nat.le_of_ble_eq_true rfl) ?_
  intro p e s m below meth c ls C hP hS hl
  obtain ⟨hx, hb, hml, hrt, hlocks, hown, hts, hk⟩ := C
  have hown : s.vm.findClass RX7 = some m.cls := hown
  have hl : lv_has ls 3 [(0, .ref (ad 0)), (1, .int p1)] := hl
  rw [f_X7_number] at hr
  refine lv_aload_n hx hb dX7_number_0 rfl (lv_at hl 0 rfl) ?_
  refine va_get (D := D) (ci := 7) (v := .ref (ad 3)) (C := RX7) (T := TX7) (N := 9) hx hb hts u_X7 hown hk.1 hP 0 rfl rfl 1 (by decide) (hts _ q2_78) (fun _ h9 => h9) rfl dX7_number_1 ?_
  refine lv_iload_n hx hb dX7_number_4 rfl (lv_at hl 1 rfl) ?_
  refine go_z (ru_V (n := 1) ⟨hx, hb, hml, hown, hts⟩ hk hP (c_X4_hasCell l D cI cL cZ ad c_sr t_n t_r t_w s_w s_h s_c s_p s_s p_nx p_sz r_k r_r r_p l_z q_z t_t b_l b_b b_n r_t l_l l_b l_n q_l q_b q_n t_le s_cs s_ps s_ha s_en pk ik s_ro s_me s_be s_se s_co pl pb pn il ib im l_a q_a hAd p1 _ rfl) (cwV 1 hts (gV q2_159 q2_160 q2_161 q1_3 q2_162) rfl rfl rfl hd_X4_hasCell ⟨Nat.le_of_ble_eq_true rfl, Nat.le_of_ble_eq_true rfl⟩) (va_recv hk.1 hP (ci := 4) (q0 := 3) rfl rfl) rfl hl.1 rfl (Nat.le_of_ble_eq_true rfl) dX7_number_5 ⟨Nat.zero_le _, Nat.zero_le _⟩) hS (fun _ h => h) (fun H locs hz5 hP hS => ?_)
  have hP : va_P D vwCl (cw ad cI cL cZ c_sr t_n t_r t_w s_w s_h s_c s_p s_s p_nx p_sz r_k r_r r_p l_z q_z t_t b_l b_b b_n r_t l_l l_b l_n q_l q_b q_n t_le s_cs s_ps s_ha s_en pk ik s_ro s_me s_be s_se s_co pl pb pn il ib im l_a q_a) H := hP
  refine lv_if_ne (tgt := 13) hx hb dX7_number_8 (by decide) (fun c8 => ?_) (fun c8 => ?_)
  · have hr := (if_neg c8).symm.trans hr
    refine lv_aload_n hx hb dX7_number_13 rfl (lv_at hl 0 rfl) ?_
    refine va_get (D := D) (ci := 7) (v := .ref (ad 13)) (C := RX7) (T := TX7) (N := 9) hx hb hts u_X7 hown hk.1 hP 0 rfl rfl 2 (by decide) (hts _ q2_79) (fun _ h9 => h9) rfl dX7_number_14 ?_
    refine lv_iload_n hx hb dX7_number_17 rfl (lv_at hl 1 rfl) ?_
    refine go_i (ru_V (n := 1) ⟨hx, hb, hml, hown, hts⟩ hk hP (c_X0_numberOf l D cI cL cZ ad c_sr t_n t_r t_w s_w s_h s_c s_p s_s p_nx p_sz r_k r_r r_p l_z q_z t_t b_l b_b b_n r_t l_l l_b l_n q_l q_b q_n t_le s_cs s_ps s_ha s_en pk ik s_ro s_me s_be s_se s_co pl pb pn il ib im l_a q_a hAd p1 _ rfl) (cwV 1 hts (gV q2_163 q2_164 q2_165 q1_4 q2_166) rfl rfl rfl hd_X0_numberOf ⟨Nat.le_of_ble_eq_true rfl, Nat.le_of_ble_eq_true rfl⟩) (va_recv hk.1 hP (ci := 0) (q0 := 13) rfl rfl) rfl hl.1 rfl (Nat.le_of_ble_eq_true rfl) dX7_number_18 ⟨Nat.zero_le _, Nat.zero_le _⟩) hS (fun _ h => h) (fun H locs hP hS => ?_)
    have hP : va_P D vwCl (cw ad cI cL cZ c_sr t_n t_r t_w s_w s_h s_c s_p s_s p_nx p_sz r_k r_r r_p l_z q_z t_t b_l b_b b_n r_t l_l l_b l_n q_l q_b q_n t_le s_cs s_ps s_ha s_en pk ik s_ro s_me s_be s_se s_co pl pb pn il ib im l_a q_a) H := hP
    refine lv_istore_n (lv' := [(2, .int (f_X0_numberOf p1 b_n)), (0, .ref (ad 0)), (1, .int p1)]) hx hb dX7_number_21 rfl hl (by decide) rfl (fun ls hl => ?_)
    refine lv_iload_n hx hb dX7_number_22 rfl (lv_at hl 0 rfl) ?_
    refine lv_if_ge (tgt := 31) hx hb dX7_number_23 (by decide) (fun c23 => ?_) (fun c23 => ?_)
    · have hr := (if_pos c23).symm.trans hr
      refine lv_iload_n hx hb dX7_number_31 rfl (lv_at hl 0 rfl) ?_
      subst hr
      exact ret_i hx hb hrt hlocks hP hS dX7_number_32
    · have hr := (if_neg c23).symm.trans hr
      refine lv_bipush (v := (-9)) hx hb dX7_number_26 (by decide) ?_
      refine lv_goto (tgt := 32) hx hb dX7_number_28 (by decide) ?_
      subst hr
      exact ret_i hx hb hrt hlocks hP hS dX7_number_32
  · have hr := (if_pos c8).symm.trans hr
    refine lv_iconst (v := (-1)) hx hb dX7_number_11 (by decide) ?_
    subst hr
    exact ret_i hx hb hrt hlocks hP hS dX7_number_12
theorem hd_X7_side : yX7_side.cls = RX7 ∧ yX7_side.cls ≠ "java/lang/invoke/MethodHandle" ∧ yX7_side.cls ≠ "java/lang/invoke/VarHandle" ∧ (parseMethodDescriptor yX7_side.desc).map (fun d => d.parameters.length) = some 1 := by decide +kernel
def f_X7_side (p1 : Int32) (s_s : Int32) (b_l : Int64) (b_b : Int64) : Int32 := (if (f_X4_hasSide p1 s_s) = 0 then (-1) else f_X0_stateOf p1 b_l b_b)
set_option maxHeartbeats 4000000 in
set_option maxRecDepth 100000 in
theorem c_X7_side (l : Launch) (D : va_G) (cI cL cZ : ClassId) (ad : Nat → Nat) (c_sr t_n t_r t_w s_w s_h s_c s_p s_s p_nx p_sz r_k r_r r_p l_z q_z : Int32) (t_t b_l b_b b_n r_t l_l l_b l_n q_l q_b q_n : Int64) (t_le s_cs s_ps s_ha s_en pk ik : Nat → Int32) (s_ro s_me s_be s_se s_co pl pb pn il ib im l_a q_a : Nat → Int64) (hAd : cInj ad) (p1 : Int32) (r : Int32) (hr : f_X7_side p1 s_s b_l b_b = r) : MI l yX7_side (Cond.code yX7_side cX7_side 2 (some .int) :: W0) 2 41 D cI cL cZ (cAd ad) [.ref (ad 0), .int p1] (cw ad cI cL cZ c_sr t_n t_r t_w s_w s_h s_c s_p s_s p_nx p_sz r_k r_r r_p l_z q_z t_t b_l b_b b_n r_t l_l l_b l_n q_l q_b q_n t_le s_cs s_ps s_ha s_en pk ik s_ro s_me s_be s_se s_co pl pb pn il ib im l_a q_a) r (cw ad cI cL cZ c_sr t_n t_r t_w s_w s_h s_c s_p s_s p_nx p_sz r_k r_r r_p l_z q_z t_t b_l b_b b_n r_t l_l l_b l_n q_l q_b q_n t_le s_cs s_ps s_ha s_en pk ik s_ro s_me s_be s_se s_co pl pb pn il ib im l_a q_a) := by
  refine mk_start (cc := cX7_side) (maxL := 2) (ret := (some .int)) (by decide) rfl (Nat.le_of_ble_eq_true rfl) ?_
  intro p e s m below meth c ls C hP hS hl
  obtain ⟨hx, hb, hml, hrt, hlocks, hown, hts, hk⟩ := C
  have hown : s.vm.findClass RX7 = some m.cls := hown
  have hl : lv_has ls 2 [(0, .ref (ad 0)), (1, .int p1)] := hl
  rw [f_X7_side] at hr
  refine lv_aload_n hx hb dX7_side_0 rfl (lv_at hl 0 rfl) ?_
  refine va_get (D := D) (ci := 7) (v := .ref (ad 3)) (C := RX7) (T := TX7) (N := 9) hx hb hts u_X7 hown hk.1 hP 0 rfl rfl 1 (by decide) (hts _ q2_78) (fun _ h9 => h9) rfl dX7_side_1 ?_
  refine lv_iload_n hx hb dX7_side_4 rfl (lv_at hl 1 rfl) ?_
  refine go_z (ru_V (n := 1) ⟨hx, hb, hml, hown, hts⟩ hk hP (c_X4_hasSide l D cI cL cZ ad c_sr t_n t_r t_w s_w s_h s_c s_p s_s p_nx p_sz r_k r_r r_p l_z q_z t_t b_l b_b b_n r_t l_l l_b l_n q_l q_b q_n t_le s_cs s_ps s_ha s_en pk ik s_ro s_me s_be s_se s_co pl pb pn il ib im l_a q_a hAd p1 _ rfl) (cwV 1 hts (gV q2_174 q2_175 q2_176 q1_3 q2_177) rfl rfl rfl hd_X4_hasSide ⟨Nat.le_of_ble_eq_true rfl, Nat.le_of_ble_eq_true rfl⟩) (va_recv hk.1 hP (ci := 4) (q0 := 3) rfl rfl) rfl hl.1 rfl (Nat.le_of_ble_eq_true rfl) dX7_side_5 ⟨Nat.zero_le _, Nat.zero_le _⟩) hS (fun _ h => h) (fun H locs hz5 hP hS => ?_)
  have hP : va_P D vwCl (cw ad cI cL cZ c_sr t_n t_r t_w s_w s_h s_c s_p s_s p_nx p_sz r_k r_r r_p l_z q_z t_t b_l b_b b_n r_t l_l l_b l_n q_l q_b q_n t_le s_cs s_ps s_ha s_en pk ik s_ro s_me s_be s_se s_co pl pb pn il ib im l_a q_a) H := hP
  refine lv_if_eq (tgt := 22) hx hb dX7_side_8 (by decide) (fun c8 => ?_) (fun c8 => ?_)
  · have hr := (if_pos c8).symm.trans hr
    refine lv_iconst (v := (-1)) hx hb dX7_side_22 (by decide) ?_
    subst hr
    exact ret_i hx hb hrt hlocks hP hS dX7_side_23
  · have hr := (if_neg c8).symm.trans hr
    refine lv_aload_n hx hb dX7_side_11 rfl (lv_at hl 0 rfl) ?_
    refine va_get (D := D) (ci := 7) (v := .ref (ad 13)) (C := RX7) (T := TX7) (N := 9) hx hb hts u_X7 hown hk.1 hP 0 rfl rfl 2 (by decide) (hts _ q2_79) (fun _ h9 => h9) rfl dX7_side_12 ?_
    refine lv_iload_n hx hb dX7_side_15 rfl (lv_at hl 1 rfl) ?_
    refine go_i (ru_V (n := 1) ⟨hx, hb, hml, hown, hts⟩ hk hP (c_X0_stateOf l D cI cL cZ ad c_sr t_n t_r t_w s_w s_h s_c s_p s_s p_nx p_sz r_k r_r r_p l_z q_z t_t b_l b_b b_n r_t l_l l_b l_n q_l q_b q_n t_le s_cs s_ps s_ha s_en pk ik s_ro s_me s_be s_se s_co pl pb pn il ib im l_a q_a hAd p1 _ rfl) (cwV 1 hts (gV q2_178 q2_179 q2_180 q1_4 q2_181) rfl rfl rfl hd_X0_stateOf ⟨Nat.le_of_ble_eq_true rfl, Nat.le_of_ble_eq_true rfl⟩) (va_recv hk.1 hP (ci := 0) (q0 := 13) rfl rfl) rfl hl.1 rfl (Nat.le_of_ble_eq_true rfl) dX7_side_16 ⟨Nat.zero_le _, Nat.zero_le _⟩) hS (fun _ h => h) (fun H locs hP hS => ?_)
    have hP : va_P D vwCl (cw ad cI cL cZ c_sr t_n t_r t_w s_w s_h s_c s_p s_s p_nx p_sz r_k r_r r_p l_z q_z t_t b_l b_b b_n r_t l_l l_b l_n q_l q_b q_n t_le s_cs s_ps s_ha s_en pk ik s_ro s_me s_be s_se s_co pl pb pn il ib im l_a q_a) H := hP
    refine lv_goto (tgt := 23) hx hb dX7_side_19 (by decide) ?_
    subst hr
    exact ret_i hx hb hrt hlocks hP hS dX7_side_23
theorem hd_X7_sideOf : yX7_sideOf.cls = RX7 ∧ yX7_sideOf.cls ≠ "java/lang/invoke/MethodHandle" ∧ yX7_sideOf.cls ≠ "java/lang/invoke/VarHandle" ∧ (parseMethodDescriptor yX7_sideOf.desc).map (fun d => d.parameters.length) = some 3 := by decide +kernel
def f_X7_sideOf (p1 : Int32) (p2 : Int32) (p3 : Int32) (s_c : Int32) (s_p : Int32) (s_cs : Nat → Int32) (s_ps : Nat → Int32) : Int32 := (if p3 < 0 then (-1) else (if p3 ≤ 3 then (if p1 = 0 then (if (f_X4_hasCell p2 s_c) = 0 then (-1) else f_X4_sideOfCell p2 p3 s_cs) else (if p1 = 1 then (if (f_X4_hasPoint p2 s_p) = 0 then (-1) else f_X4_sideOfPoint p2 p3 s_ps) else (-1))) else (-1)))
set_option maxHeartbeats 4000000 in
set_option maxRecDepth 100000 in
theorem c_X7_sideOf (l : Launch) (D : va_G) (cI cL cZ : ClassId) (ad : Nat → Nat) (c_sr t_n t_r t_w s_w s_h s_c s_p s_s p_nx p_sz r_k r_r r_p l_z q_z : Int32) (t_t b_l b_b b_n r_t l_l l_b l_n q_l q_b q_n : Int64) (t_le s_cs s_ps s_ha s_en pk ik : Nat → Int32) (s_ro s_me s_be s_se s_co pl pb pn il ib im l_a q_a : Nat → Int64) (hAd : cInj ad) (p1 p2 p3 : Int32) (r : Int32) (hr : f_X7_sideOf p1 p2 p3 s_c s_p s_cs s_ps = r) : MI l yX7_sideOf (Cond.code yX7_sideOf cX7_sideOf 4 (some .int) :: W0) 2 43 D cI cL cZ (cAd ad) [.ref (ad 0), .int p1, .int p2, .int p3] (cw ad cI cL cZ c_sr t_n t_r t_w s_w s_h s_c s_p s_s p_nx p_sz r_k r_r r_p l_z q_z t_t b_l b_b b_n r_t l_l l_b l_n q_l q_b q_n t_le s_cs s_ps s_ha s_en pk ik s_ro s_me s_be s_se s_co pl pb pn il ib im l_a q_a) r (cw ad cI cL cZ c_sr t_n t_r t_w s_w s_h s_c s_p s_s p_nx p_sz r_k r_r r_p l_z q_z t_t b_l b_b b_n r_t l_l l_b l_n q_l q_b q_n t_le s_cs s_ps s_ha s_en pk ik s_ro s_me s_be s_se s_co pl pb pn il ib im l_a q_a) := by
  refine mk_start (cc := cX7_sideOf) (maxL := 4) (ret := (some .int)) (by decide) rfl (Nat.le_of_ble_eq_true rfl) ?_
  intro p e s m below meth c ls C hP hS hl
  obtain ⟨hx, hb, hml, hrt, hlocks, hown, hts, hk⟩ := C
  have hown : s.vm.findClass RX7 = some m.cls := hown
  have hl : lv_has ls 4 [(0, .ref (ad 0)), (1, .int p1), (2, .int p2), (3, .int p3)] := hl
  rw [f_X7_sideOf] at hr
  refine lv_iload_n hx hb dX7_sideOf_0 rfl (lv_at hl 3 rfl) ?_
  refine lv_if_lt (tgt := 9) hx hb dX7_sideOf_1 (by decide) (fun c1 => ?_) (fun c1 => ?_)
  · have hr := (if_pos c1).symm.trans hr
    refine lv_iconst (v := (-1)) hx hb dX7_sideOf_9 (by decide) ?_
    subst hr
    exact ret_i hx hb hrt hlocks hP hS dX7_sideOf_10
  · have hr := (if_neg c1).symm.trans hr
    refine lv_iload_n hx hb dX7_sideOf_4 rfl (lv_at hl 3 rfl) ?_
    refine lv_iconst (v := 3) hx hb dX7_sideOf_5 (by decide) ?_
    refine lv_icmp_le (tgt := 11) hx hb dX7_sideOf_6 (by decide) (fun c6 => ?_) (fun c6 => ?_)
    · have hr := (if_pos c6).symm.trans hr
      refine lv_iload_n hx hb dX7_sideOf_11 rfl (lv_at hl 1 rfl) ?_
      refine lv_if_ne (tgt := 40) hx hb dX7_sideOf_12 (by decide) (fun c12 => ?_) (fun c12 => ?_)
      · have hr := (if_neg c12).symm.trans hr
        refine lv_iload_n hx hb dX7_sideOf_40 rfl (lv_at hl 1 rfl) ?_
        refine lv_iconst (v := 1) hx hb dX7_sideOf_41 (by decide) ?_
        refine lv_icmp_ne (tgt := 70) hx hb dX7_sideOf_42 (by decide) (fun c42 => ?_) (fun c42 => ?_)
        · have hr := (if_neg c42).symm.trans hr
          refine lv_iconst (v := (-1)) hx hb dX7_sideOf_70 (by decide) ?_
          subst hr
          exact ret_i hx hb hrt hlocks hP hS dX7_sideOf_71
        · have hr := (if_pos c42).symm.trans hr
          refine lv_aload_n hx hb dX7_sideOf_45 rfl (lv_at hl 0 rfl) ?_
          refine va_get (D := D) (ci := 7) (v := .ref (ad 3)) (C := RX7) (T := TX7) (N := 9) hx hb hts u_X7 hown hk.1 hP 0 rfl rfl 1 (by decide) (hts _ q2_78) (fun _ h9 => h9) rfl dX7_sideOf_46 ?_
          refine lv_iload_n hx hb dX7_sideOf_49 rfl (lv_at hl 2 rfl) ?_
          refine go_z (ru_V (n := 1) ⟨hx, hb, hml, hown, hts⟩ hk hP (c_X4_hasPoint l D cI cL cZ ad c_sr t_n t_r t_w s_w s_h s_c s_p s_s p_nx p_sz r_k r_r r_p l_z q_z t_t b_l b_b b_n r_t l_l l_b l_n q_l q_b q_n t_le s_cs s_ps s_ha s_en pk ik s_ro s_me s_be s_se s_co pl pb pn il ib im l_a q_a hAd p2 _ rfl) (cwV 1 hts (gV q2_188 q2_189 q2_190 q1_3 q2_191) rfl rfl rfl hd_X4_hasPoint ⟨Nat.le_of_ble_eq_true rfl, Nat.le_of_ble_eq_true rfl⟩) (va_recv hk.1 hP (ci := 4) (q0 := 3) rfl rfl) rfl hl.1 rfl (Nat.le_of_ble_eq_true rfl) dX7_sideOf_50 ⟨Nat.zero_le _, Nat.zero_le _⟩) hS (fun _ h => h) (fun H locs hz50 hP hS => ?_)
          have hP : va_P D vwCl (cw ad cI cL cZ c_sr t_n t_r t_w s_w s_h s_c s_p s_s p_nx p_sz r_k r_r r_p l_z q_z t_t b_l b_b b_n r_t l_l l_b l_n q_l q_b q_n t_le s_cs s_ps s_ha s_en pk ik s_ro s_me s_be s_se s_co pl pb pn il ib im l_a q_a) H := hP
          refine lv_if_eq (tgt := 68) hx hb dX7_sideOf_53 (by decide) (fun c53 => ?_) (fun c53 => ?_)
          · have hr := (if_pos c53).symm.trans hr
            refine lv_iconst (v := (-1)) hx hb dX7_sideOf_68 (by decide) ?_
            subst hr
            exact ret_i hx hb hrt hlocks hP hS dX7_sideOf_69
          · have hr := (if_neg c53).symm.trans hr
            refine lv_aload_n hx hb dX7_sideOf_56 rfl (lv_at hl 0 rfl) ?_
            refine va_get (D := D) (ci := 7) (v := .ref (ad 3)) (C := RX7) (T := TX7) (N := 9) hx hb hts u_X7 hown hk.1 hP 0 rfl rfl 1 (by decide) (hts _ q2_78) (fun _ h9 => h9) rfl dX7_sideOf_57 ?_
            refine lv_iload_n hx hb dX7_sideOf_60 rfl (lv_at hl 2 rfl) ?_
            refine lv_iload_n hx hb dX7_sideOf_61 rfl (lv_at hl 3 rfl) ?_
            refine go_i (ru_V (n := 2) ⟨hx, hb, hml, hown, hts⟩ hk hP (c_X4_sideOfPoint l D cI cL cZ ad c_sr t_n t_r t_w s_w s_h s_c s_p s_s p_nx p_sz r_k r_r r_p l_z q_z t_t b_l b_b b_n r_t l_l l_b l_n q_l q_b q_n t_le s_cs s_ps s_ha s_en pk ik s_ro s_me s_be s_se s_co pl pb pn il ib im l_a q_a hAd p2 p3 _ rfl) (cwV 2 hts (gV q2_192 q2_193 q2_194 q1_3 q2_195) rfl rfl rfl hd_X4_sideOfPoint ⟨Nat.le_of_ble_eq_true rfl, Nat.le_of_ble_eq_true rfl⟩) (va_recv hk.1 hP (ci := 4) (q0 := 3) rfl rfl) rfl hl.1 rfl (Nat.le_of_ble_eq_true rfl) dX7_sideOf_62 ⟨Nat.zero_le _, Nat.zero_le _⟩) hS (fun _ h => h) (fun H locs hP hS => ?_)
            have hP : va_P D vwCl (cw ad cI cL cZ c_sr t_n t_r t_w s_w s_h s_c s_p s_s p_nx p_sz r_k r_r r_p l_z q_z t_t b_l b_b b_n r_t l_l l_b l_n q_l q_b q_n t_le s_cs s_ps s_ha s_en pk ik s_ro s_me s_be s_se s_co pl pb pn il ib im l_a q_a) H := hP
            refine lv_goto (tgt := 69) hx hb dX7_sideOf_65 (by decide) ?_
            subst hr
            exact ret_i hx hb hrt hlocks hP hS dX7_sideOf_69
      · have hr := (if_pos c12).symm.trans hr
        refine lv_aload_n hx hb dX7_sideOf_15 rfl (lv_at hl 0 rfl) ?_
        refine va_get (D := D) (ci := 7) (v := .ref (ad 3)) (C := RX7) (T := TX7) (N := 9) hx hb hts u_X7 hown hk.1 hP 0 rfl rfl 1 (by decide) (hts _ q2_78) (fun _ h9 => h9) rfl dX7_sideOf_16 ?_
        refine lv_iload_n hx hb dX7_sideOf_19 rfl (lv_at hl 2 rfl) ?_
        refine go_z (ru_V (n := 1) ⟨hx, hb, hml, hown, hts⟩ hk hP (c_X4_hasCell l D cI cL cZ ad c_sr t_n t_r t_w s_w s_h s_c s_p s_s p_nx p_sz r_k r_r r_p l_z q_z t_t b_l b_b b_n r_t l_l l_b l_n q_l q_b q_n t_le s_cs s_ps s_ha s_en pk ik s_ro s_me s_be s_se s_co pl pb pn il ib im l_a q_a hAd p2 _ rfl) (cwV 1 hts (gV q2_159 q2_160 q2_161 q1_3 q2_162) rfl rfl rfl hd_X4_hasCell ⟨Nat.le_of_ble_eq_true rfl, Nat.le_of_ble_eq_true rfl⟩) (va_recv hk.1 hP (ci := 4) (q0 := 3) rfl rfl) rfl hl.1 rfl (Nat.le_of_ble_eq_true rfl) dX7_sideOf_20 ⟨Nat.zero_le _, Nat.zero_le _⟩) hS (fun _ h => h) (fun H locs hz20 hP hS => ?_)
        have hP : va_P D vwCl (cw ad cI cL cZ c_sr t_n t_r t_w s_w s_h s_c s_p s_s p_nx p_sz r_k r_r r_p l_z q_z t_t b_l b_b b_n r_t l_l l_b l_n q_l q_b q_n t_le s_cs s_ps s_ha s_en pk ik s_ro s_me s_be s_se s_co pl pb pn il ib im l_a q_a) H := hP
        refine lv_if_eq (tgt := 38) hx hb dX7_sideOf_23 (by decide) (fun c23 => ?_) (fun c23 => ?_)
        · have hr := (if_pos c23).symm.trans hr
          refine lv_iconst (v := (-1)) hx hb dX7_sideOf_38 (by decide) ?_
          subst hr
          exact ret_i hx hb hrt hlocks hP hS dX7_sideOf_39
        · have hr := (if_neg c23).symm.trans hr
          refine lv_aload_n hx hb dX7_sideOf_26 rfl (lv_at hl 0 rfl) ?_
          refine va_get (D := D) (ci := 7) (v := .ref (ad 3)) (C := RX7) (T := TX7) (N := 9) hx hb hts u_X7 hown hk.1 hP 0 rfl rfl 1 (by decide) (hts _ q2_78) (fun _ h9 => h9) rfl dX7_sideOf_27 ?_
          refine lv_iload_n hx hb dX7_sideOf_30 rfl (lv_at hl 2 rfl) ?_
          refine lv_iload_n hx hb dX7_sideOf_31 rfl (lv_at hl 3 rfl) ?_
          refine go_i (ru_V (n := 2) ⟨hx, hb, hml, hown, hts⟩ hk hP (c_X4_sideOfCell l D cI cL cZ ad c_sr t_n t_r t_w s_w s_h s_c s_p s_s p_nx p_sz r_k r_r r_p l_z q_z t_t b_l b_b b_n r_t l_l l_b l_n q_l q_b q_n t_le s_cs s_ps s_ha s_en pk ik s_ro s_me s_be s_se s_co pl pb pn il ib im l_a q_a hAd p2 p3 _ rfl) (cwV 2 hts (gV q2_187 q2_74 q2_75 q1_3 q2_76) rfl rfl rfl hd_X4_sideOfCell ⟨Nat.le_of_ble_eq_true rfl, Nat.le_of_ble_eq_true rfl⟩) (va_recv hk.1 hP (ci := 4) (q0 := 3) rfl rfl) rfl hl.1 rfl (Nat.le_of_ble_eq_true rfl) dX7_sideOf_32 ⟨Nat.zero_le _, Nat.zero_le _⟩) hS (fun _ h => h) (fun H locs hP hS => ?_)
          have hP : va_P D vwCl (cw ad cI cL cZ c_sr t_n t_r t_w s_w s_h s_c s_p s_s p_nx p_sz r_k r_r r_p l_z q_z t_t b_l b_b b_n r_t l_l l_b l_n q_l q_b q_n t_le s_cs s_ps s_ha s_en pk ik s_ro s_me s_be s_se s_co pl pb pn il ib im l_a q_a) H := hP
          refine lv_goto (tgt := 39) hx hb dX7_sideOf_35 (by decide) ?_
          subst hr
          exact ret_i hx hb hrt hlocks hP hS dX7_sideOf_39
    · have hr := (if_neg c6).symm.trans hr
      refine lv_iconst (v := (-1)) hx hb dX7_sideOf_9 (by decide) ?_
      subst hr
      exact ret_i hx hb hrt hlocks hP hS dX7_sideOf_10
theorem hd_X7_marks : yX7_marks.cls = RX7 ∧ yX7_marks.cls ≠ "java/lang/invoke/MethodHandle" ∧ yX7_marks.cls ≠ "java/lang/invoke/VarHandle" ∧ (parseMethodDescriptor yX7_marks.desc).map (fun d => d.parameters.length) = some 2 := by decide +kernel
def f_X7_marks (p1 : Int32) (p2 : Int32) (c_sr : Int32) (s_s : Int32) (p_nx : Int32) (p_sz : Int32) (b_l : Int64) (b_b : Int64) (b_n : Int64) (pk : Nat → Int32) (pl : Nat → Int64) (pb : Nat → Int64) (pn : Nat → Int64) : Int32 × Int32 × Int32 × Int32 × Int64 × Int64 × (Nat → Int32) × (Nat → Int64) × (Nat → Int64) × (Nat → Int64) := (if (f_X4_hasSide p1 s_s) = 0 then ((-1), c_sr, p_nx, p_sz, b_l, b_b, pk, pl, pb, pn) else (if p2 < 0 then ((-1), c_sr, p_nx, p_sz, b_l, b_b, pk, pl, pb, pn) else (if p2 ≤ 2 then (if (f_X0_stateOf p1 b_l b_b) = p2 then ((-2), c_sr, p_nx, p_sz, b_l, b_b, pk, pl, pb, pn) else (bd (f_X7_beforeChange p_nx p_sz b_l b_b b_n pk pl pb pn) (fun u1 => (bd (f_X0_mark p1 p2 b_l b_b) (fun u2 => (f_X0_stateOf p1 b_l b_b, u1.1, u1.2.1, u1.2.2.1, u2.1, u2.2, u1.2.2.2.1, u1.2.2.2.2.1, u1.2.2.2.2.2.1, u1.2.2.2.2.2.2)))))) else ((-1), c_sr, p_nx, p_sz, b_l, b_b, pk, pl, pb, pn))))
set_option maxHeartbeats 4000000 in
set_option maxRecDepth 100000 in
theorem c_X7_marks (l : Launch) (D : va_G) (cI cL cZ : ClassId) (ad : Nat → Nat) (c_sr t_n t_r t_w s_w s_h s_c s_p s_s p_nx p_sz r_k r_r r_p l_z q_z : Int32) (t_t b_l b_b b_n r_t l_l l_b l_n q_l q_b q_n : Int64) (t_le s_cs s_ps s_ha s_en pk ik : Nat → Int32) (s_ro s_me s_be s_se s_co pl pb pn il ib im l_a q_a : Nat → Int64) (hAd : cInj ad) (p1 p2 : Int32) (r : Int32 × Int32 × Int32 × Int32 × Int64 × Int64 × (Nat → Int32) × (Nat → Int64) × (Nat → Int64) × (Nat → Int64)) (hr : f_X7_marks p1 p2 c_sr s_s p_nx p_sz b_l b_b b_n pk pl pb pn = r) : MI l yX7_marks (Cond.code yX7_marks cX7_marks 4 (some .int) :: W0) 4 86 D cI cL cZ (cAd ad) [.ref (ad 0), .int p1, .int p2] (cw ad cI cL cZ c_sr t_n t_r t_w s_w s_h s_c s_p s_s p_nx p_sz r_k r_r r_p l_z q_z t_t b_l b_b b_n r_t l_l l_b l_n q_l q_b q_n t_le s_cs s_ps s_ha s_en pk ik s_ro s_me s_be s_se s_co pl pb pn il ib im l_a q_a) r.1 (cw ad cI cL cZ r.2.1 t_n t_r t_w s_w s_h s_c s_p s_s r.2.2.1 r.2.2.2.1 r_k r_r r_p l_z q_z t_t r.2.2.2.2.1 r.2.2.2.2.2.1 b_n r_t l_l l_b l_n q_l q_b q_n t_le s_cs s_ps s_ha s_en r.2.2.2.2.2.2.1 ik s_ro s_me s_be s_se s_co r.2.2.2.2.2.2.2.1 r.2.2.2.2.2.2.2.2.1 r.2.2.2.2.2.2.2.2.2 il ib im l_a q_a) := by
  refine mk_start (cc := cX7_marks) (maxL := 4) (ret := (some .int)) (by decide) rfl (Nat.le_of_ble_eq_true rfl) ?_
  intro p e s m below meth c ls C hP hS hl
  obtain ⟨hx, hb, hml, hrt, hlocks, hown, hts, hk⟩ := C
  have hown : s.vm.findClass RX7 = some m.cls := hown
  have hl : lv_has ls 4 [(0, .ref (ad 0)), (1, .int p1), (2, .int p2)] := hl
  rw [f_X7_marks] at hr
  refine lv_aload_n hx hb dX7_marks_0 rfl (lv_at hl 0 rfl) ?_
  refine va_get (D := D) (ci := 7) (v := .ref (ad 3)) (C := RX7) (T := TX7) (N := 9) hx hb hts u_X7 hown hk.1 hP 0 rfl rfl 1 (by decide) (hts _ q2_78) (fun _ h9 => h9) rfl dX7_marks_1 ?_
  refine lv_iload_n hx hb dX7_marks_4 rfl (lv_at hl 1 rfl) ?_
  refine go_z (ru_V (n := 1) ⟨hx, hb, hml, hown, hts⟩ hk hP (c_X4_hasSide l D cI cL cZ ad c_sr t_n t_r t_w s_w s_h s_c s_p s_s p_nx p_sz r_k r_r r_p l_z q_z t_t b_l b_b b_n r_t l_l l_b l_n q_l q_b q_n t_le s_cs s_ps s_ha s_en pk ik s_ro s_me s_be s_se s_co pl pb pn il ib im l_a q_a hAd p1 _ rfl) (cwV 1 hts (gV q2_174 q2_175 q2_176 q1_3 q2_177) rfl rfl rfl hd_X4_hasSide ⟨Nat.le_of_ble_eq_true rfl, Nat.le_of_ble_eq_true rfl⟩) (va_recv hk.1 hP (ci := 4) (q0 := 3) rfl rfl) rfl hl.1 rfl (Nat.le_of_ble_eq_true rfl) dX7_marks_5 ⟨Nat.zero_le _, Nat.zero_le _⟩) hS (fun _ h => h) (fun H locs hz5 hP hS => ?_)
  have hP : va_P D vwCl (cw ad cI cL cZ c_sr t_n t_r t_w s_w s_h s_c s_p s_s p_nx p_sz r_k r_r r_p l_z q_z t_t b_l b_b b_n r_t l_l l_b l_n q_l q_b q_n t_le s_cs s_ps s_ha s_en pk ik s_ro s_me s_be s_se s_co pl pb pn il ib im l_a q_a) H := hP
  refine lv_if_eq (tgt := 20) hx hb dX7_marks_8 (by decide) (fun c8 => ?_) (fun c8 => ?_)
  · have hr := (if_pos c8).symm.trans hr
    refine lv_iconst (v := (-1)) hx hb dX7_marks_20 (by decide) ?_
    subst hr
    exact ret_i hx hb hrt hlocks hP hS dX7_marks_21
  · have hr := (if_neg c8).symm.trans hr
    refine lv_iload_n hx hb dX7_marks_11 rfl (lv_at hl 2 rfl) ?_
    refine lv_if_lt (tgt := 20) hx hb dX7_marks_12 (by decide) (fun c12 => ?_) (fun c12 => ?_)
    · have hr := (if_pos c12).symm.trans hr
      refine lv_iconst (v := (-1)) hx hb dX7_marks_20 (by decide) ?_
      subst hr
      exact ret_i hx hb hrt hlocks hP hS dX7_marks_21
    · have hr := (if_neg c12).symm.trans hr
      refine lv_iload_n hx hb dX7_marks_15 rfl (lv_at hl 2 rfl) ?_
      refine lv_iconst (v := 2) hx hb dX7_marks_16 (by decide) ?_
      refine lv_icmp_le (tgt := 22) hx hb dX7_marks_17 (by decide) (fun c17 => ?_) (fun c17 => ?_)
      · have hr := (if_pos c17).symm.trans hr
        refine lv_aload_n hx hb dX7_marks_22 rfl (lv_at hl 0 rfl) ?_
        refine va_get (D := D) (ci := 7) (v := .ref (ad 13)) (C := RX7) (T := TX7) (N := 9) hx hb hts u_X7 hown hk.1 hP 0 rfl rfl 2 (by decide) (hts _ q2_79) (fun _ h9 => h9) rfl dX7_marks_23 ?_
        refine lv_iload_n hx hb dX7_marks_26 rfl (lv_at hl 1 rfl) ?_
        refine go_i (ru_V (n := 1) ⟨hx, hb, hml, hown, hts⟩ hk hP (c_X0_stateOf l D cI cL cZ ad c_sr t_n t_r t_w s_w s_h s_c s_p s_s p_nx p_sz r_k r_r r_p l_z q_z t_t b_l b_b b_n r_t l_l l_b l_n q_l q_b q_n t_le s_cs s_ps s_ha s_en pk ik s_ro s_me s_be s_se s_co pl pb pn il ib im l_a q_a hAd p1 _ rfl) (cwV 1 hts (gV q2_178 q2_179 q2_180 q1_4 q2_181) rfl rfl rfl hd_X0_stateOf ⟨Nat.le_of_ble_eq_true rfl, Nat.le_of_ble_eq_true rfl⟩) (va_recv hk.1 hP (ci := 0) (q0 := 13) rfl rfl) rfl hl.1 rfl (Nat.le_of_ble_eq_true rfl) dX7_marks_27 ⟨Nat.zero_le _, Nat.zero_le _⟩) hS (fun _ h => h) (fun H locs hP hS => ?_)
        have hP : va_P D vwCl (cw ad cI cL cZ c_sr t_n t_r t_w s_w s_h s_c s_p s_s p_nx p_sz r_k r_r r_p l_z q_z t_t b_l b_b b_n r_t l_l l_b l_n q_l q_b q_n t_le s_cs s_ps s_ha s_en pk ik s_ro s_me s_be s_se s_co pl pb pn il ib im l_a q_a) H := hP
        refine lv_istore_n (lv' := [(3, .int (f_X0_stateOf p1 b_l b_b)), (0, .ref (ad 0)), (1, .int p1), (2, .int p2)]) hx hb dX7_marks_30 rfl hl (by decide) rfl (fun ls hl => ?_)
        refine lv_iload_n hx hb dX7_marks_31 rfl (lv_at hl 0 rfl) ?_
        refine lv_iload_n hx hb dX7_marks_32 rfl (lv_at hl 3 rfl) ?_
        refine lv_icmp_ne (tgt := 39) hx hb dX7_marks_33 (by decide) (fun c33 => ?_) (fun c33 => ?_)
        · have hr := (if_neg c33).symm.trans hr
          refine lv_aload_n hx hb dX7_marks_39 rfl (lv_at hl 1 rfl) ?_
          obtain ⟨u1, hu1⟩ : ∃ z, f_X7_beforeChange p_nx p_sz b_l b_b b_n pk pl pb pn = z := ⟨_, rfl⟩
          have hr := (bd_eq hu1).symm.trans hr
          refine go_v (ru_V (n := 0) ⟨hx, hb, hml, hown, hts⟩ hk hP (c_X7_beforeChange l D cI cL cZ ad c_sr t_n t_r t_w s_w s_h s_c s_p s_s p_nx p_sz r_k r_r r_p l_z q_z t_t b_l b_b b_n r_t l_l l_b l_n q_l q_b q_n t_le s_cs s_ps s_ha s_en pk ik s_ro s_me s_be s_se s_co pl pb pn il ib im l_a q_a hAd _ hu1) (cwV 0 hts (gV q2_200 q2_202 qs1_11 q1_1 q2_203) rfl rfl rfl hd_X7_beforeChange ⟨Nat.le_of_ble_eq_true rfl, Nat.le_of_ble_eq_true rfl⟩) (va_recv hk.1 hP (ci := 7) (q0 := 0) rfl rfl) rfl hl.1 rfl (Nat.le_of_ble_eq_true rfl) dX7_marks_40 ⟨Nat.zero_le _, Nat.zero_le _⟩) hS (fun _ h => h) (fun H locs hP hS => ?_)
          have hP : va_P D vwCl (cw ad cI cL cZ u1.1 t_n t_r t_w s_w s_h s_c s_p s_s u1.2.1 u1.2.2.1 r_k r_r r_p l_z q_z t_t b_l b_b b_n r_t l_l l_b l_n q_l q_b q_n t_le s_cs s_ps s_ha s_en u1.2.2.2.1 ik s_ro s_me s_be s_se s_co u1.2.2.2.2.1 u1.2.2.2.2.2.1 u1.2.2.2.2.2.2 il ib im l_a q_a) H := hP
          refine lv_aload_n hx hb dX7_marks_43 rfl (lv_at hl 1 rfl) ?_
          refine va_get (D := D) (ci := 7) (v := .ref (ad 13)) (C := RX7) (T := TX7) (N := 9) hx hb hts u_X7 hown hk.1 hP 0 rfl rfl 2 (by decide) (hts _ q2_79) (fun _ h9 => h9) rfl dX7_marks_44 ?_
          refine lv_iload_n hx hb dX7_marks_47 rfl (lv_at hl 2 rfl) ?_
          refine lv_iload_n hx hb dX7_marks_48 rfl (lv_at hl 3 rfl) ?_
          obtain ⟨u2, hu2⟩ : ∃ z, f_X0_mark p1 p2 b_l b_b = z := ⟨_, rfl⟩
          have hr := (bd_eq hu2).symm.trans hr
          refine go_v (ru_V (n := 2) ⟨hx, hb, hml, hown, hts⟩ hk hP (c_X0_mark l D cI cL cZ ad u1.1 t_n t_r t_w s_w s_h s_c s_p s_s u1.2.1 u1.2.2.1 r_k r_r r_p l_z q_z t_t b_l b_b b_n r_t l_l l_b l_n q_l q_b q_n t_le s_cs s_ps s_ha s_en u1.2.2.2.1 ik s_ro s_me s_be s_se s_co u1.2.2.2.2.1 u1.2.2.2.2.2.1 u1.2.2.2.2.2.2 il ib im l_a q_a hAd p1 p2 _ hu2) (cwV 2 hts (gV q2_215 q2_216 q2_217 q1_4 q2_218) rfl rfl rfl hd_X0_mark ⟨Nat.le_of_ble_eq_true rfl, Nat.le_of_ble_eq_true rfl⟩) (va_recv hk.1 hP (ci := 0) (q0 := 13) rfl rfl) rfl hl.1 rfl (Nat.le_of_ble_eq_true rfl) dX7_marks_49 ⟨Nat.zero_le _, Nat.zero_le _⟩) hS (fun _ h => h) (fun H locs hP hS => ?_)
          have hP : va_P D vwCl (cw ad cI cL cZ u1.1 t_n t_r t_w s_w s_h s_c s_p s_s u1.2.1 u1.2.2.1 r_k r_r r_p l_z q_z t_t u2.1 u2.2 b_n r_t l_l l_b l_n q_l q_b q_n t_le s_cs s_ps s_ha s_en u1.2.2.2.1 ik s_ro s_me s_be s_se s_co u1.2.2.2.2.1 u1.2.2.2.2.2.1 u1.2.2.2.2.2.2 il ib im l_a q_a) H := hP
          refine lv_iload_n hx hb dX7_marks_52 rfl (lv_at hl 0 rfl) ?_
          subst hr
          exact ret_i hx hb hrt hlocks hP hS dX7_marks_53
        · have hr := (if_pos c33).symm.trans hr
          refine lv_bipush (v := (-2)) hx hb dX7_marks_36 (by decide) ?_
          subst hr
          exact ret_i hx hb hrt hlocks hP hS dX7_marks_38
      · have hr := (if_neg c17).symm.trans hr
        refine lv_iconst (v := (-1)) hx hb dX7_marks_20 (by decide) ?_
        subst hr
        exact ret_i hx hb hrt hlocks hP hS dX7_marks_21
theorem hd_X7_numbers : yX7_numbers.cls = RX7 ∧ yX7_numbers.cls ≠ "java/lang/invoke/MethodHandle" ∧ yX7_numbers.cls ≠ "java/lang/invoke/VarHandle" ∧ (parseMethodDescriptor yX7_numbers.desc).map (fun d => d.parameters.length) = some 2 := by decide +kernel
def f_X7_numbers (p1 : Int32) (p2 : Int32) (c_sr : Int32) (s_c : Int32) (p_nx : Int32) (p_sz : Int32) (b_l : Int64) (b_b : Int64) (b_n : Int64) (pk : Nat → Int32) (pl : Nat → Int64) (pb : Nat → Int64) (pn : Nat → Int64) : Int32 × Int32 × Int32 × Int32 × Int64 × (Nat → Int32) × (Nat → Int64) × (Nat → Int64) × (Nat → Int64) := (if (f_X4_hasCell p1 s_c) = 0 then ((-1), c_sr, p_nx, p_sz, b_n, pk, pl, pb, pn) else (if p2 < ((-1)) then ((-1), c_sr, p_nx, p_sz, b_n, pk, pl, pb, pn) else (if p2 ≤ 4 then (if (f_X0_numberOf p1 b_n) = p2 then ((-2), c_sr, p_nx, p_sz, b_n, pk, pl, pb, pn) else (bd (f_X7_beforeChange p_nx p_sz b_l b_b b_n pk pl pb pn) (fun u1 => (1, u1.1, u1.2.1, u1.2.2.1, f_X0_withNumber b_n p1 p2, u1.2.2.2.1, u1.2.2.2.2.1, u1.2.2.2.2.2.1, u1.2.2.2.2.2.2)))) else ((-1), c_sr, p_nx, p_sz, b_n, pk, pl, pb, pn))))
set_option maxHeartbeats 4000000 in
set_option maxRecDepth 100000 in
theorem c_X7_numbers (l : Launch) (D : va_G) (cI cL cZ : ClassId) (ad : Nat → Nat) (c_sr t_n t_r t_w s_w s_h s_c s_p s_s p_nx p_sz r_k r_r r_p l_z q_z : Int32) (t_t b_l b_b b_n r_t l_l l_b l_n q_l q_b q_n : Int64) (t_le s_cs s_ps s_ha s_en pk ik : Nat → Int32) (s_ro s_me s_be s_se s_co pl pb pn il ib im l_a q_a : Nat → Int64) (hAd : cInj ad) (p1 p2 : Int32) (r : Int32 × Int32 × Int32 × Int32 × Int64 × (Nat → Int32) × (Nat → Int64) × (Nat → Int64) × (Nat → Int64)) (hr : f_X7_numbers p1 p2 c_sr s_c p_nx p_sz b_l b_b b_n pk pl pb pn = r) : MI l yX7_numbers (Cond.code yX7_numbers cX7_numbers 3 (some .int) :: W0) 4 86 D cI cL cZ (cAd ad) [.ref (ad 0), .int p1, .int p2] (cw ad cI cL cZ c_sr t_n t_r t_w s_w s_h s_c s_p s_s p_nx p_sz r_k r_r r_p l_z q_z t_t b_l b_b b_n r_t l_l l_b l_n q_l q_b q_n t_le s_cs s_ps s_ha s_en pk ik s_ro s_me s_be s_se s_co pl pb pn il ib im l_a q_a) r.1 (cw ad cI cL cZ r.2.1 t_n t_r t_w s_w s_h s_c s_p s_s r.2.2.1 r.2.2.2.1 r_k r_r r_p l_z q_z t_t b_l b_b r.2.2.2.2.1 r_t l_l l_b l_n q_l q_b q_n t_le s_cs s_ps s_ha s_en r.2.2.2.2.2.1 ik s_ro s_me s_be s_se s_co r.2.2.2.2.2.2.1 r.2.2.2.2.2.2.2.1 r.2.2.2.2.2.2.2.2 il ib im l_a q_a) := by
  refine mk_start (cc := cX7_numbers) (maxL := 3) (ret := (some .int)) (by decide) rfl (Nat.le_of_ble_eq_true rfl) ?_
  intro p e s m below meth c ls C hP hS hl
  obtain ⟨hx, hb, hml, hrt, hlocks, hown, hts, hk⟩ := C
  have hown : s.vm.findClass RX7 = some m.cls := hown
  have hl : lv_has ls 3 [(0, .ref (ad 0)), (1, .int p1), (2, .int p2)] := hl
  rw [f_X7_numbers] at hr
  refine lv_aload_n hx hb dX7_numbers_0 rfl (lv_at hl 0 rfl) ?_
  refine va_get (D := D) (ci := 7) (v := .ref (ad 3)) (C := RX7) (T := TX7) (N := 9) hx hb hts u_X7 hown hk.1 hP 0 rfl rfl 1 (by decide) (hts _ q2_78) (fun _ h9 => h9) rfl dX7_numbers_1 ?_
  refine lv_iload_n hx hb dX7_numbers_4 rfl (lv_at hl 1 rfl) ?_
  refine go_z (ru_V (n := 1) ⟨hx, hb, hml, hown, hts⟩ hk hP (c_X4_hasCell l D cI cL cZ ad c_sr t_n t_r t_w s_w s_h s_c s_p s_s p_nx p_sz r_k r_r r_p l_z q_z t_t b_l b_b b_n r_t l_l l_b l_n q_l q_b q_n t_le s_cs s_ps s_ha s_en pk ik s_ro s_me s_be s_se s_co pl pb pn il ib im l_a q_a hAd p1 _ rfl) (cwV 1 hts (gV q2_159 q2_160 q2_161 q1_3 q2_162) rfl rfl rfl hd_X4_hasCell ⟨Nat.le_of_ble_eq_true rfl, Nat.le_of_ble_eq_true rfl⟩) (va_recv hk.1 hP (ci := 4) (q0 := 3) rfl rfl) rfl hl.1 rfl (Nat.le_of_ble_eq_true rfl) dX7_numbers_5 ⟨Nat.zero_le _, Nat.zero_le _⟩) hS (fun _ h => h) (fun H locs hz5 hP hS => ?_)
  have hP : va_P D vwCl (cw ad cI cL cZ c_sr t_n t_r t_w s_w s_h s_c s_p s_s p_nx p_sz r_k r_r r_p l_z q_z t_t b_l b_b b_n r_t l_l l_b l_n q_l q_b q_n t_le s_cs s_ps s_ha s_en pk ik s_ro s_me s_be s_se s_co pl pb pn il ib im l_a q_a) H := hP
  refine lv_if_eq (tgt := 21) hx hb dX7_numbers_8 (by decide) (fun c8 => ?_) (fun c8 => ?_)
  · have hr := (if_pos c8).symm.trans hr
    refine lv_iconst (v := (-1)) hx hb dX7_numbers_21 (by decide) ?_
    subst hr
    exact ret_i hx hb hrt hlocks hP hS dX7_numbers_22
  · have hr := (if_neg c8).symm.trans hr
    refine lv_iload_n hx hb dX7_numbers_11 rfl (lv_at hl 2 rfl) ?_
    refine lv_iconst (v := (-1)) hx hb dX7_numbers_12 (by decide) ?_
    refine lv_icmp_lt (tgt := 21) hx hb dX7_numbers_13 (by decide) (fun c13 => ?_) (fun c13 => ?_)
    · have hr := (if_pos c13).symm.trans hr
      refine lv_iconst (v := (-1)) hx hb dX7_numbers_21 (by decide) ?_
      subst hr
      exact ret_i hx hb hrt hlocks hP hS dX7_numbers_22
    · have hr := (if_neg c13).symm.trans hr
      refine lv_iload_n hx hb dX7_numbers_16 rfl (lv_at hl 2 rfl) ?_
      refine lv_iconst (v := 4) hx hb dX7_numbers_17 (by decide) ?_
      refine lv_icmp_le (tgt := 23) hx hb dX7_numbers_18 (by decide) (fun c18 => ?_) (fun c18 => ?_)
      · have hr := (if_pos c18).symm.trans hr
        refine lv_aload_n hx hb dX7_numbers_23 rfl (lv_at hl 0 rfl) ?_
        refine va_get (D := D) (ci := 7) (v := .ref (ad 13)) (C := RX7) (T := TX7) (N := 9) hx hb hts u_X7 hown hk.1 hP 0 rfl rfl 2 (by decide) (hts _ q2_79) (fun _ h9 => h9) rfl dX7_numbers_24 ?_
        refine lv_iload_n hx hb dX7_numbers_27 rfl (lv_at hl 1 rfl) ?_
        refine go_i (ru_V (n := 1) ⟨hx, hb, hml, hown, hts⟩ hk hP (c_X0_numberOf l D cI cL cZ ad c_sr t_n t_r t_w s_w s_h s_c s_p s_s p_nx p_sz r_k r_r r_p l_z q_z t_t b_l b_b b_n r_t l_l l_b l_n q_l q_b q_n t_le s_cs s_ps s_ha s_en pk ik s_ro s_me s_be s_se s_co pl pb pn il ib im l_a q_a hAd p1 _ rfl) (cwV 1 hts (gV q2_163 q2_164 q2_165 q1_4 q2_166) rfl rfl rfl hd_X0_numberOf ⟨Nat.le_of_ble_eq_true rfl, Nat.le_of_ble_eq_true rfl⟩) (va_recv hk.1 hP (ci := 0) (q0 := 13) rfl rfl) rfl hl.1 rfl (Nat.le_of_ble_eq_true rfl) dX7_numbers_28 ⟨Nat.zero_le _, Nat.zero_le _⟩) hS (fun _ h => h) (fun H locs hP hS => ?_)
        have hP : va_P D vwCl (cw ad cI cL cZ c_sr t_n t_r t_w s_w s_h s_c s_p s_s p_nx p_sz r_k r_r r_p l_z q_z t_t b_l b_b b_n r_t l_l l_b l_n q_l q_b q_n t_le s_cs s_ps s_ha s_en pk ik s_ro s_me s_be s_se s_co pl pb pn il ib im l_a q_a) H := hP
        refine lv_iload_n hx hb dX7_numbers_31 rfl (lv_at hl 2 rfl) ?_
        refine lv_icmp_ne (tgt := 38) hx hb dX7_numbers_32 (by decide) (fun c32 => ?_) (fun c32 => ?_)
        · have hr := (if_neg c32).symm.trans hr
          refine lv_aload_n hx hb dX7_numbers_38 rfl (lv_at hl 0 rfl) ?_
          obtain ⟨u1, hu1⟩ : ∃ z, f_X7_beforeChange p_nx p_sz b_l b_b b_n pk pl pb pn = z := ⟨_, rfl⟩
          have hr := (bd_eq hu1).symm.trans hr
          refine go_v (ru_V (n := 0) ⟨hx, hb, hml, hown, hts⟩ hk hP (c_X7_beforeChange l D cI cL cZ ad c_sr t_n t_r t_w s_w s_h s_c s_p s_s p_nx p_sz r_k r_r r_p l_z q_z t_t b_l b_b b_n r_t l_l l_b l_n q_l q_b q_n t_le s_cs s_ps s_ha s_en pk ik s_ro s_me s_be s_se s_co pl pb pn il ib im l_a q_a hAd _ hu1) (cwV 0 hts (gV q2_200 q2_202 qs1_11 q1_1 q2_203) rfl rfl rfl hd_X7_beforeChange ⟨Nat.le_of_ble_eq_true rfl, Nat.le_of_ble_eq_true rfl⟩) (va_recv hk.1 hP (ci := 7) (q0 := 0) rfl rfl) rfl hl.1 rfl (Nat.le_of_ble_eq_true rfl) dX7_numbers_39 ⟨Nat.zero_le _, Nat.zero_le _⟩) hS (fun _ h => h) (fun H locs hP hS => ?_)
          have hP : va_P D vwCl (cw ad cI cL cZ u1.1 t_n t_r t_w s_w s_h s_c s_p s_s u1.2.1 u1.2.2.1 r_k r_r r_p l_z q_z t_t b_l b_b b_n r_t l_l l_b l_n q_l q_b q_n t_le s_cs s_ps s_ha s_en u1.2.2.2.1 ik s_ro s_me s_be s_se s_co u1.2.2.2.2.1 u1.2.2.2.2.2.1 u1.2.2.2.2.2.2 il ib im l_a q_a) H := hP
          refine lv_aload_n hx hb dX7_numbers_42 rfl (lv_at hl 0 rfl) ?_
          refine va_get (D := D) (ci := 7) (v := .ref (ad 13)) (C := RX7) (T := TX7) (N := 9) hx hb hts u_X7 hown hk.1 hP 0 rfl rfl 2 (by decide) (hts _ q2_79) (fun _ h9 => h9) rfl dX7_numbers_43 ?_
          refine lv_aload_n hx hb dX7_numbers_46 rfl (lv_at hl 0 rfl) ?_
          refine va_get (D := D) (ci := 7) (v := .ref (ad 13)) (C := RX7) (T := TX7) (N := 9) hx hb hts u_X7 hown hk.1 hP 0 rfl rfl 2 (by decide) (hts _ q2_79) (fun _ h9 => h9) rfl dX7_numbers_47 ?_
          refine va_get (D := D) (ci := 0) (v := .long b_n) (C := RX0) (T := TX0) (N := 3) hx hb hts u_X0 hown hk.1 hP 13 rfl rfl 2 (by decide) (hts _ q1_124) (fun _ h9 => h9) rfl dX7_numbers_50 ?_
          refine lv_iload_n hx hb dX7_numbers_53 rfl (lv_at hl 1 rfl) ?_
          refine lv_iload_n hx hb dX7_numbers_54 rfl (lv_at hl 2 rfl) ?_
          refine go_l (ru_S (n := 3) ⟨hx, hb, hml, hown, hts⟩ hk hP (c_X0_withNumber l D cI cL cZ (cAd ad) (cw ad cI cL cZ u1.1 t_n t_r t_w s_w s_h s_c s_p s_s u1.2.1 u1.2.2.1 r_k r_r r_p l_z q_z t_t b_l b_b b_n r_t l_l l_b l_n q_l q_b q_n t_le s_cs s_ps s_ha s_en u1.2.2.2.1 ik s_ro s_me s_be s_se s_co u1.2.2.2.2.1 u1.2.2.2.2.2.1 u1.2.2.2.2.2.2 il ib im l_a q_a) b_n p1 p2 _ rfl) (va_cwS 3 hts (gS q2_223 q2_138 q1_4 q2_139) rfl rfl rfl hd_X0_withNumber ⟨Nat.le_of_ble_eq_true rfl, Nat.le_of_ble_eq_true rfl⟩) rfl hl.1 rfl (Nat.le_of_ble_eq_true rfl) dX7_numbers_55 ⟨Nat.zero_le _, Nat.zero_le _⟩) hS (fun _ h => h) (fun H locs hP hS => ?_)
          have hP : va_P D vwCl (cw ad cI cL cZ u1.1 t_n t_r t_w s_w s_h s_c s_p s_s u1.2.1 u1.2.2.1 r_k r_r r_p l_z q_z t_t b_l b_b b_n r_t l_l l_b l_n q_l q_b q_n t_le s_cs s_ps s_ha s_en u1.2.2.2.1 ik s_ro s_me s_be s_se s_co u1.2.2.2.2.1 u1.2.2.2.2.2.1 u1.2.2.2.2.2.2 il ib im l_a q_a) H := hP
          refine va_put (D := D) (ci := 0) (v := .long (f_X0_withNumber b_n p1 p2)) (ty := .long) (C := RX0) (T := TX0) (N := 3) hx hb hts u_X0 tyX0 tyX0_ok nmX0 hown hk.1 hP (cw_D hAd) hS 13 rfl rfl 2 (by decide) (hts _ q1_124) (fun _ h9 => h9) rfl (tyX0_ok 2 (by decide)) rfl rfl (Nat.le_of_ble_eq_true rfl) dX7_numbers_58 (fun H locs hP _ hS => ?_)
          have hP : va_P D vwCl (cw ad cI cL cZ u1.1 t_n t_r t_w s_w s_h s_c s_p s_s u1.2.1 u1.2.2.1 r_k r_r r_p l_z q_z t_t b_l b_b (f_X0_withNumber b_n p1 p2) r_t l_l l_b l_n q_l q_b q_n t_le s_cs s_ps s_ha s_en u1.2.2.2.1 ik s_ro s_me s_be s_se s_co u1.2.2.2.2.1 u1.2.2.2.2.2.1 u1.2.2.2.2.2.2 il ib im l_a q_a) H := hP
          refine lv_iconst (v := 1) hx hb dX7_numbers_61 (by decide) ?_
          subst hr
          exact ret_i hx hb hrt hlocks hP hS dX7_numbers_62
        · have hr := (if_pos c32).symm.trans hr
          refine lv_bipush (v := (-2)) hx hb dX7_numbers_35 (by decide) ?_
          subst hr
          exact ret_i hx hb hrt hlocks hP hS dX7_numbers_37
      · have hr := (if_neg c18).symm.trans hr
        refine lv_iconst (v := (-1)) hx hb dX7_numbers_21 (by decide) ?_
        subst hr
        exact ret_i hx hb hrt hlocks hP hS dX7_numbers_22
theorem hd_X7_step : yX7_step.cls = RX7 ∧ yX7_step.cls ≠ "java/lang/invoke/MethodHandle" ∧ yX7_step.cls ≠ "java/lang/invoke/VarHandle" ∧ (parseMethodDescriptor yX7_step.desc).map (fun d => d.parameters.length) = some 0 := by decide +kernel
def f_X7_step (c_sr : Int32) (s_c : Int32) (s_p : Int32) (s_s : Int32) (p_nx : Int32) (p_sz : Int32) (r_p : Int32) (b_l : Int64) (b_b : Int64) (b_n : Int64) (s_ha : Nat → Int32) (s_en : Nat → Int32) (pk : Nat → Int32) (s_ro : Nat → Int64) (s_me : Nat → Int64) (s_be : Nat → Int64) (pl : Nat → Int64) (pb : Nat → Int64) (pn : Nat → Int64) : Int32 × Int32 × Int32 × Int32 × Int32 × Int32 × Int32 × Int64 × Int64 × Int64 × (Nat → Int32) × (Nat → Int64) × (Nat → Int64) × (Nat → Int64) := (bd (f_X3_seek s_c s_p s_s r_p b_l b_b b_n s_ha s_en s_ro s_me s_be) (fun u1 => (if u1.1 = 0 then ((-2), c_sr, p_nx, p_sz, u1.1, u1.2.1, u1.2.2.1, b_l, b_b, u1.2.2.2, pk, pl, pb, pn) else (if u1.1 = 3 then ((-4), c_sr, p_nx, p_sz, u1.1, u1.2.1, u1.2.2.1, b_l, b_b, u1.2.2.2, pk, pl, pb, pn) else (bd (f_X7_beforeChange p_nx p_sz b_l b_b b_n pk pl pb pn) (fun u2 => (bd (f_X7_follow u1.1 b_l b_b u1.2.2.2) (fun u3 => (u3.1, u2.1, u2.2.1, u2.2.2.1, u1.1, u1.2.1, u1.2.2.1, u3.2.1, u3.2.2, u1.2.2.2, u2.2.2.2.1, u2.2.2.2.2.1, u2.2.2.2.2.2.1, u2.2.2.2.2.2.2)))))))))
set_option maxHeartbeats 4000000 in
set_option maxRecDepth 100000 in
theorem c_X7_step (l : Launch) (D : va_G) (cI cL cZ : ClassId) (ad : Nat → Nat) (c_sr t_n t_r t_w s_w s_h s_c s_p s_s p_nx p_sz r_k r_r r_p l_z q_z : Int32) (t_t b_l b_b b_n r_t l_l l_b l_n q_l q_b q_n : Int64) (t_le s_cs s_ps s_ha s_en pk ik : Nat → Int32) (s_ro s_me s_be s_se s_co pl pb pn il ib im l_a q_a : Nat → Int64) (hAd : cInj ad) (r : Int32 × Int32 × Int32 × Int32 × Int32 × Int32 × Int32 × Int64 × Int64 × Int64 × (Nat → Int32) × (Nat → Int64) × (Nat → Int64) × (Nat → Int64)) (hr : f_X7_step c_sr s_c s_p s_s p_nx p_sz r_p b_l b_b b_n s_ha s_en pk s_ro s_me s_be pl pb pn = r) : MI l yX7_step (Cond.code yX7_step cX7_step 1 (some .int) :: W0) 6 151 D cI cL cZ (cAd ad) [.ref (ad 0)] (cw ad cI cL cZ c_sr t_n t_r t_w s_w s_h s_c s_p s_s p_nx p_sz r_k r_r r_p l_z q_z t_t b_l b_b b_n r_t l_l l_b l_n q_l q_b q_n t_le s_cs s_ps s_ha s_en pk ik s_ro s_me s_be s_se s_co pl pb pn il ib im l_a q_a) r.1 (cw ad cI cL cZ r.2.1 t_n t_r t_w s_w s_h s_c s_p s_s r.2.2.1 r.2.2.2.1 r.2.2.2.2.1 r.2.2.2.2.2.1 r.2.2.2.2.2.2.1 l_z q_z t_t r.2.2.2.2.2.2.2.1 r.2.2.2.2.2.2.2.2.1 b_n r.2.2.2.2.2.2.2.2.2.1 l_l l_b l_n q_l q_b q_n t_le s_cs s_ps s_ha s_en r.2.2.2.2.2.2.2.2.2.2.1 ik s_ro s_me s_be s_se s_co r.2.2.2.2.2.2.2.2.2.2.2.1 r.2.2.2.2.2.2.2.2.2.2.2.2.1 r.2.2.2.2.2.2.2.2.2.2.2.2.2 il ib im l_a q_a) := by
  refine mk_start (cc := cX7_step) (maxL := 1) (ret := (some .int)) (by decide) rfl (Nat.le_of_ble_eq_true rfl) ?_
  intro p e s m below meth c ls C hP hS hl
  obtain ⟨hx, hb, hml, hrt, hlocks, hown, hts, hk⟩ := C
  have hown : s.vm.findClass RX7 = some m.cls := hown
  have hl : lv_has ls 1 [(0, .ref (ad 0))] := hl
  rw [f_X7_step] at hr
  refine lv_aload_n hx hb dX7_step_0 rfl (lv_at hl 0 rfl) ?_
  refine va_get (D := D) (ci := 7) (v := .ref (ad 25)) (C := RX7) (T := TX7) (N := 9) hx hb hts u_X7 hown hk.1 hP 0 rfl rfl 5 (by decide) (hts _ q2_82) (fun _ h9 => h9) rfl dX7_step_1 ?_
  obtain ⟨u1, hu1⟩ : ∃ z, f_X3_seek s_c s_p s_s r_p b_l b_b b_n s_ha s_en s_ro s_me s_be = z := ⟨_, rfl⟩
  have hr := (bd_eq hu1).symm.trans hr
  refine go_v (ru_V (n := 0) ⟨hx, hb, hml, hown, hts⟩ hk hP (c_X3_seek l D cI cL cZ ad c_sr t_n t_r t_w s_w s_h s_c s_p s_s p_nx p_sz r_k r_r r_p l_z q_z t_t b_l b_b b_n r_t l_l l_b l_n q_l q_b q_n t_le s_cs s_ps s_ha s_en pk ik s_ro s_me s_be s_se s_co pl pb pn il ib im l_a q_a hAd _ hu1) (cwV 0 hts (gV q2_228 q2_229 q2_230 q1_8 q2_231) rfl rfl rfl hd_X3_seek ⟨Nat.le_of_ble_eq_true rfl, Nat.le_of_ble_eq_true rfl⟩) (va_recv hk.1 hP (ci := 3) (q0 := 25) rfl rfl) rfl hl.1 rfl (Nat.le_of_ble_eq_true rfl) dX7_step_4 ⟨Nat.zero_le _, Nat.zero_le _⟩) hS (fun _ h => h) (fun H locs hP hS => ?_)
  have hP : va_P D vwCl (cw ad cI cL cZ c_sr t_n t_r t_w s_w s_h s_c s_p s_s p_nx p_sz u1.1 u1.2.1 u1.2.2.1 l_z q_z t_t b_l b_b b_n u1.2.2.2 l_l l_b l_n q_l q_b q_n t_le s_cs s_ps s_ha s_en pk ik s_ro s_me s_be s_se s_co pl pb pn il ib im l_a q_a) H := hP
  refine lv_aload_n hx hb dX7_step_7 rfl (lv_at hl 0 rfl) ?_
  refine va_get (D := D) (ci := 7) (v := .ref (ad 25)) (C := RX7) (T := TX7) (N := 9) hx hb hts u_X7 hown hk.1 hP 0 rfl rfl 5 (by decide) (hts _ q2_82) (fun _ h9 => h9) rfl dX7_step_8 ?_
  refine va_get (D := D) (ci := 3) (v := .int u1.1) (C := RX3) (T := TX3) (N := 6) hx hb hts u_X3 hown hk.1 hP 25 rfl rfl 2 (by decide) (hts _ q1_182) (fun _ h9 => h9) rfl dX7_step_11 ?_
  refine lv_if_ne (tgt := 20) hx hb dX7_step_14 (by decide) (fun c14 => ?_) (fun c14 => ?_)
  · have hr := (if_neg c14).symm.trans hr
    refine lv_aload_n hx hb dX7_step_20 rfl (lv_at hl 0 rfl) ?_
    refine va_get (D := D) (ci := 7) (v := .ref (ad 25)) (C := RX7) (T := TX7) (N := 9) hx hb hts u_X7 hown hk.1 hP 0 rfl rfl 5 (by decide) (hts _ q2_82) (fun _ h9 => h9) rfl dX7_step_21 ?_
    refine va_get (D := D) (ci := 3) (v := .int u1.1) (C := RX3) (T := TX3) (N := 6) hx hb hts u_X3 hown hk.1 hP 25 rfl rfl 2 (by decide) (hts _ q1_182) (fun _ h9 => h9) rfl dX7_step_24 ?_
    refine lv_iconst (v := 3) hx hb dX7_step_27 (by decide) ?_
    refine lv_icmp_ne (tgt := 34) hx hb dX7_step_28 (by decide) (fun c28 => ?_) (fun c28 => ?_)
    · have hr := (if_neg c28).symm.trans hr
      refine lv_aload_n hx hb dX7_step_34 rfl (lv_at hl 0 rfl) ?_
      obtain ⟨u2, hu2⟩ : ∃ z, f_X7_beforeChange p_nx p_sz b_l b_b b_n pk pl pb pn = z := ⟨_, rfl⟩
      have hr := (bd_eq hu2).symm.trans hr
      refine go_v (ru_V (n := 0) ⟨hx, hb, hml, hown, hts⟩ hk hP (c_X7_beforeChange l D cI cL cZ ad c_sr t_n t_r t_w s_w s_h s_c s_p s_s p_nx p_sz u1.1 u1.2.1 u1.2.2.1 l_z q_z t_t b_l b_b b_n u1.2.2.2 l_l l_b l_n q_l q_b q_n t_le s_cs s_ps s_ha s_en pk ik s_ro s_me s_be s_se s_co pl pb pn il ib im l_a q_a hAd _ hu2) (cwV 0 hts (gV q2_200 q2_202 qs1_11 q1_1 q2_203) rfl rfl rfl hd_X7_beforeChange ⟨Nat.le_of_ble_eq_true rfl, Nat.le_of_ble_eq_true rfl⟩) (va_recv hk.1 hP (ci := 7) (q0 := 0) rfl rfl) rfl hl.1 rfl (Nat.le_of_ble_eq_true rfl) dX7_step_35 ⟨Nat.zero_le _, Nat.zero_le _⟩) hS (fun _ h => h) (fun H locs hP hS => ?_)
      have hP : va_P D vwCl (cw ad cI cL cZ u2.1 t_n t_r t_w s_w s_h s_c s_p s_s u2.2.1 u2.2.2.1 u1.1 u1.2.1 u1.2.2.1 l_z q_z t_t b_l b_b b_n u1.2.2.2 l_l l_b l_n q_l q_b q_n t_le s_cs s_ps s_ha s_en u2.2.2.2.1 ik s_ro s_me s_be s_se s_co u2.2.2.2.2.1 u2.2.2.2.2.2.1 u2.2.2.2.2.2.2 il ib im l_a q_a) H := hP
      refine lv_aload_n hx hb dX7_step_38 rfl (lv_at hl 0 rfl) ?_
      obtain ⟨u3, hu3⟩ : ∃ z, f_X7_follow u1.1 b_l b_b u1.2.2.2 = z := ⟨_, rfl⟩
      have hr := (bd_eq hu3).symm.trans hr
      refine go_i (ru_V (n := 0) ⟨hx, hb, hml, hown, hts⟩ hk hP (c_X7_follow l D cI cL cZ ad u2.1 t_n t_r t_w s_w s_h s_c s_p s_s u2.2.1 u2.2.2.1 u1.1 u1.2.1 u1.2.2.1 l_z q_z t_t b_l b_b b_n u1.2.2.2 l_l l_b l_n q_l q_b q_n t_le s_cs s_ps s_ha s_en u2.2.2.2.1 ik s_ro s_me s_be s_se s_co u2.2.2.2.2.1 u2.2.2.2.2.2.1 u2.2.2.2.2.2.2 il ib im l_a q_a hAd _ hu3) (cwV 0 hts (gV q3_67 q3_69 qs2_8 q1_1 q3_70) rfl rfl rfl hd_X7_follow ⟨Nat.le_of_ble_eq_true rfl, Nat.le_of_ble_eq_true rfl⟩) (va_recv hk.1 hP (ci := 7) (q0 := 0) rfl rfl) rfl hl.1 rfl (Nat.le_of_ble_eq_true rfl) dX7_step_39 ⟨Nat.zero_le _, Nat.zero_le _⟩) hS (fun _ h => h) (fun H locs hP hS => ?_)
      have hP : va_P D vwCl (cw ad cI cL cZ u2.1 t_n t_r t_w s_w s_h s_c s_p s_s u2.2.1 u2.2.2.1 u1.1 u1.2.1 u1.2.2.1 l_z q_z t_t u3.2.1 u3.2.2 b_n u1.2.2.2 l_l l_b l_n q_l q_b q_n t_le s_cs s_ps s_ha s_en u2.2.2.2.1 ik s_ro s_me s_be s_se s_co u2.2.2.2.2.1 u2.2.2.2.2.2.1 u2.2.2.2.2.2.2 il ib im l_a q_a) H := hP
      subst hr
      exact ret_i hx hb hrt hlocks hP hS dX7_step_42
    · have hr := (if_pos c28).symm.trans hr
      refine lv_bipush (v := (-4)) hx hb dX7_step_31 (by decide) ?_
      subst hr
      exact ret_i hx hb hrt hlocks hP hS dX7_step_33
  · have hr := (if_pos c14).symm.trans hr
    refine lv_bipush (v := (-2)) hx hb dX7_step_17 (by decide) ?_
    subst hr
    exact ret_i hx hb hrt hlocks hP hS dX7_step_19
theorem hd_X7_undo : yX7_undo.cls = RX7 ∧ yX7_undo.cls ≠ "java/lang/invoke/MethodHandle" ∧ yX7_undo.cls ≠ "java/lang/invoke/VarHandle" ∧ (parseMethodDescriptor yX7_undo.desc).map (fun d => d.parameters.length) = some 0 := by decide +kernel
def f_X7_undo (c_sr : Int32) (p_nx : Int32) (p_sz : Int32) (b_l : Int64) (b_b : Int64) (b_n : Int64) (pl : Nat → Int64) (pb : Nat → Int64) (pn : Nat → Int64) : Int32 × Int32 × Int32 × Int32 × Int64 × Int64 × Int64 := (if p_sz = 0 then ((-2), c_sr, p_nx, p_sz, b_l, b_b, b_n) else (bd (f_X2_giveLatest p_nx p_sz pl pb pn) (fun u1 => (u1.2.1, 0, u1.1, u1.2.1, u1.2.2.1, u1.2.2.2.1, u1.2.2.2.2))))
set_option maxHeartbeats 4000000 in
set_option maxRecDepth 100000 in
theorem c_X7_undo (l : Launch) (D : va_G) (cI cL cZ : ClassId) (ad : Nat → Nat) (c_sr t_n t_r t_w s_w s_h s_c s_p s_s p_nx p_sz r_k r_r r_p l_z q_z : Int32) (t_t b_l b_b b_n r_t l_l l_b l_n q_l q_b q_n : Int64) (t_le s_cs s_ps s_ha s_en pk ik : Nat → Int32) (s_ro s_me s_be s_se s_co pl pb pn il ib im l_a q_a : Nat → Int64) (hAd : cInj ad) (r : Int32 × Int32 × Int32 × Int32 × Int64 × Int64 × Int64) (hr : f_X7_undo c_sr p_nx p_sz b_l b_b b_n pl pb pn = r) : MI l yX7_undo (Cond.code yX7_undo cX7_undo 1 (some .int) :: W0) 3 69 D cI cL cZ (cAd ad) [.ref (ad 0)] (cw ad cI cL cZ c_sr t_n t_r t_w s_w s_h s_c s_p s_s p_nx p_sz r_k r_r r_p l_z q_z t_t b_l b_b b_n r_t l_l l_b l_n q_l q_b q_n t_le s_cs s_ps s_ha s_en pk ik s_ro s_me s_be s_se s_co pl pb pn il ib im l_a q_a) r.1 (cw ad cI cL cZ r.2.1 t_n t_r t_w s_w s_h s_c s_p s_s r.2.2.1 r.2.2.2.1 r_k r_r r_p l_z q_z t_t r.2.2.2.2.1 r.2.2.2.2.2.1 r.2.2.2.2.2.2 r_t l_l l_b l_n q_l q_b q_n t_le s_cs s_ps s_ha s_en pk ik s_ro s_me s_be s_se s_co pl pb pn il ib im l_a q_a) := by
  refine mk_start (cc := cX7_undo) (maxL := 1) (ret := (some .int)) (by decide) rfl (Nat.le_of_ble_eq_true rfl) ?_
  intro p e s m below meth c ls C hP hS hl
  obtain ⟨hx, hb, hml, hrt, hlocks, hown, hts, hk⟩ := C
  have hown : s.vm.findClass RX7 = some m.cls := hown
  have hl : lv_has ls 1 [(0, .ref (ad 0))] := hl
  rw [f_X7_undo] at hr
  refine lv_aload_n hx hb dX7_undo_0 rfl (lv_at hl 0 rfl) ?_
  refine va_get (D := D) (ci := 7) (v := .ref (ad 14)) (C := RX7) (T := TX7) (N := 9) hx hb hts u_X7 hown hk.1 hP 0 rfl rfl 3 (by decide) (hts _ q2_80) (fun _ h9 => h9) rfl dX7_undo_1 ?_
  refine va_get (D := D) (ci := 2) (v := .int p_sz) (C := RX2) (T := TX2) (N := 3) hx hb hts u_X2 hown hk.1 hP 14 rfl rfl 2 (by decide) (hts _ q1_163) (fun _ h9 => h9) rfl dX7_undo_4 ?_
  refine lv_if_ne (tgt := 13) hx hb dX7_undo_7 (by decide) (fun c7 => ?_) (fun c7 => ?_)
  · have hr := (if_neg c7).symm.trans hr
    refine lv_aload_n hx hb dX7_undo_13 rfl (lv_at hl 0 rfl) ?_
    refine va_get (D := D) (ci := 7) (v := .ref (ad 14)) (C := RX7) (T := TX7) (N := 9) hx hb hts u_X7 hown hk.1 hP 0 rfl rfl 3 (by decide) (hts _ q2_80) (fun _ h9 => h9) rfl dX7_undo_14 ?_
    refine lv_aload_n hx hb dX7_undo_17 rfl (lv_at hl 0 rfl) ?_
    refine va_get (D := D) (ci := 7) (v := .ref (ad 13)) (C := RX7) (T := TX7) (N := 9) hx hb hts u_X7 hown hk.1 hP 0 rfl rfl 2 (by decide) (hts _ q2_79) (fun _ h9 => h9) rfl dX7_undo_18 ?_
    obtain ⟨u1, hu1⟩ : ∃ z, f_X2_giveLatest p_nx p_sz pl pb pn = z := ⟨_, rfl⟩
    have hr := (bd_eq hu1).symm.trans hr
    refine go_v (ru_V (n := 1) ⟨hx, hb, hml, hown, hts⟩ hk hP (c_X2_giveLatest l D cI cL cZ ad c_sr t_n t_r t_w s_w s_h s_c s_p s_s p_nx p_sz r_k r_r r_p l_z q_z t_t b_l b_b b_n r_t l_l l_b l_n q_l q_b q_n t_le s_cs s_ps s_ha s_en pk ik s_ro s_me s_be s_se s_co pl pb pn il ib im l_a q_a hAd _ hu1) (cwV 1 hts (gV q3_84 q3_85 q3_86 q1_5 q3_87) rfl rfl rfl hd_X2_giveLatest ⟨Nat.le_of_ble_eq_true rfl, Nat.le_of_ble_eq_true rfl⟩) (va_recv hk.1 hP (ci := 2) (q0 := 14) rfl rfl) rfl hl.1 rfl (Nat.le_of_ble_eq_true rfl) dX7_undo_21 ⟨Nat.zero_le _, Nat.zero_le _⟩) hS (fun _ h => h) (fun H locs hP hS => ?_)
    have hP : va_P D vwCl (cw ad cI cL cZ c_sr t_n t_r t_w s_w s_h s_c s_p s_s u1.1 u1.2.1 r_k r_r r_p l_z q_z t_t u1.2.2.1 u1.2.2.2.1 u1.2.2.2.2 r_t l_l l_b l_n q_l q_b q_n t_le s_cs s_ps s_ha s_en pk ik s_ro s_me s_be s_se s_co pl pb pn il ib im l_a q_a) H := hP
    refine lv_aload_n hx hb dX7_undo_24 rfl (lv_at hl 0 rfl) ?_
    refine lv_iconst (v := 0) hx hb dX7_undo_25 (by decide) ?_
    refine va_put (D := D) (ci := 7) (v := .int 0) (ty := .boolean) (C := RX7) (T := TX7) (N := 9) hx hb hts u_X7 tyX7 tyX7_ok nmX7 hown hk.1 hP (cw_D hAd) hS 0 rfl rfl 8 (by decide) (hts _ q2_85) (fun _ h9 => h9) rfl (tyX7_ok 8 (by decide)) rfl rfl (Nat.le_of_ble_eq_true rfl) dX7_undo_26 (fun H locs hP _ hS => ?_)
    have hP : va_P D vwCl (cw ad cI cL cZ 0 t_n t_r t_w s_w s_h s_c s_p s_s u1.1 u1.2.1 r_k r_r r_p l_z q_z t_t u1.2.2.1 u1.2.2.2.1 u1.2.2.2.2 r_t l_l l_b l_n q_l q_b q_n t_le s_cs s_ps s_ha s_en pk ik s_ro s_me s_be s_se s_co pl pb pn il ib im l_a q_a) H := hP
    refine lv_aload_n hx hb dX7_undo_29 rfl (lv_at hl 0 rfl) ?_
    refine va_get (D := D) (ci := 7) (v := .ref (ad 14)) (C := RX7) (T := TX7) (N := 9) hx hb hts u_X7 hown hk.1 hP 0 rfl rfl 3 (by decide) (hts _ q2_80) (fun _ h9 => h9) rfl dX7_undo_30 ?_
    refine va_get (D := D) (ci := 2) (v := .int u1.2.1) (C := RX2) (T := TX2) (N := 3) hx hb hts u_X2 hown hk.1 hP 14 rfl rfl 2 (by decide) (hts _ q1_163) (fun _ h9 => h9) rfl dX7_undo_33 ?_
    subst hr
    exact ret_i hx hb hrt hlocks hP hS dX7_undo_36
  · have hr := (if_pos c7).symm.trans hr
    refine lv_bipush (v := (-2)) hx hb dX7_undo_10 (by decide) ?_
    subst hr
    exact ret_i hx hb hrt hlocks hP hS dX7_undo_12
theorem hd_X7_hint : yX7_hint.cls = RX7 ∧ yX7_hint.cls ≠ "java/lang/invoke/MethodHandle" ∧ yX7_hint.cls ≠ "java/lang/invoke/VarHandle" ∧ (parseMethodDescriptor yX7_hint.desc).map (fun d => d.parameters.length) = some 1 := by decide +kernel
def f_X7_hint (p1 : Int32) (s_c : Int32) (s_p : Int32) (s_s : Int32) (r_k : Int32) (r_r : Int32) (r_p : Int32) (b_l : Int64) (b_b : Int64) (b_n : Int64) (r_t : Int64) (s_ha : Nat → Int32) (s_en : Nat → Int32) (s_ro : Nat → Int64) (s_me : Nat → Int64) (s_be : Nat → Int64) : Int32 × Int32 × Int32 × Int32 × Int64 := (if p1 < 0 then ((-1), r_k, r_r, r_p, r_t) else (if p1 ≤ 3 then (bd (f_X3_seek s_c s_p s_s r_p b_l b_b b_n s_ha s_en s_ro s_me s_be) (fun u1 => (if p1 = 0 then (u1.1, u1.1, u1.2.1, u1.2.2.1, u1.2.2.2) else (if u1.1 = 0 then ((-9), u1.1, u1.2.1, u1.2.2.1, u1.2.2.2) else (if p1 = 1 then (u1.2.1, u1.1, u1.2.1, u1.2.2.1, u1.2.2.2) else (if p1 = 2 then (u1.2.2.1, u1.1, u1.2.1, u1.2.2.1, u1.2.2.2) else (if (f_X3_tells u1.1) = 0 then ((-9), u1.1, u1.2.1, u1.2.2.1, u1.2.2.2) else (f_J13_bitCount_95d88 u1.2.2.2, u1.1, u1.2.1, u1.2.2.1, u1.2.2.2)))))))) else ((-1), r_k, r_r, r_p, r_t)))
set_option maxHeartbeats 4000000 in
set_option maxRecDepth 100000 in
theorem c_X7_hint (l : Launch) (D : va_G) (cI cL cZ : ClassId) (ad : Nat → Nat) (c_sr t_n t_r t_w s_w s_h s_c s_p s_s p_nx p_sz r_k r_r r_p l_z q_z : Int32) (t_t b_l b_b b_n r_t l_l l_b l_n q_l q_b q_n : Int64) (t_le s_cs s_ps s_ha s_en pk ik : Nat → Int32) (s_ro s_me s_be s_se s_co pl pb pn il ib im l_a q_a : Nat → Int64) (hAd : cInj ad) (p1 : Int32) (r : Int32 × Int32 × Int32 × Int32 × Int64) (hr : f_X7_hint p1 s_c s_p s_s r_k r_r r_p b_l b_b b_n r_t s_ha s_en s_ro s_me s_be = r) : MI l yX7_hint (Cond.code yX7_hint cX7_hint 2 (some .int) :: W0) 6 151 D cI cL cZ (cAd ad) [.ref (ad 0), .int p1] (cw ad cI cL cZ c_sr t_n t_r t_w s_w s_h s_c s_p s_s p_nx p_sz r_k r_r r_p l_z q_z t_t b_l b_b b_n r_t l_l l_b l_n q_l q_b q_n t_le s_cs s_ps s_ha s_en pk ik s_ro s_me s_be s_se s_co pl pb pn il ib im l_a q_a) r.1 (cw ad cI cL cZ c_sr t_n t_r t_w s_w s_h s_c s_p s_s p_nx p_sz r.2.1 r.2.2.1 r.2.2.2.1 l_z q_z t_t b_l b_b b_n r.2.2.2.2 l_l l_b l_n q_l q_b q_n t_le s_cs s_ps s_ha s_en pk ik s_ro s_me s_be s_se s_co pl pb pn il ib im l_a q_a) := by
  refine mk_start (cc := cX7_hint) (maxL := 2) (ret := (some .int)) (by decide) rfl (Nat.le_of_ble_eq_true rfl) ?_
  intro p e s m below meth c ls C hP hS hl
  obtain ⟨hx, hb, hml, hrt, hlocks, hown, hts, hk⟩ := C
  have hown : s.vm.findClass RX7 = some m.cls := hown
  have hl : lv_has ls 2 [(0, .ref (ad 0)), (1, .int p1)] := hl
  rw [f_X7_hint] at hr
  refine lv_iload_n hx hb dX7_hint_0 rfl (lv_at hl 1 rfl) ?_
  refine lv_if_lt (tgt := 9) hx hb dX7_hint_1 (by decide) (fun c1 => ?_) (fun c1 => ?_)
  · have hr := (if_pos c1).symm.trans hr
    refine lv_iconst (v := (-1)) hx hb dX7_hint_9 (by decide) ?_
    subst hr
    exact ret_i hx hb hrt hlocks hP hS dX7_hint_10
  · have hr := (if_neg c1).symm.trans hr
    refine lv_iload_n hx hb dX7_hint_4 rfl (lv_at hl 1 rfl) ?_
    refine lv_iconst (v := 3) hx hb dX7_hint_5 (by decide) ?_
    refine lv_icmp_le (tgt := 11) hx hb dX7_hint_6 (by decide) (fun c6 => ?_) (fun c6 => ?_)
    · have hr := (if_pos c6).symm.trans hr
      refine lv_aload_n hx hb dX7_hint_11 rfl (lv_at hl 0 rfl) ?_
      refine va_get (D := D) (ci := 7) (v := .ref (ad 25)) (C := RX7) (T := TX7) (N := 9) hx hb hts u_X7 hown hk.1 hP 0 rfl rfl 5 (by decide) (hts _ q2_82) (fun _ h9 => h9) rfl dX7_hint_12 ?_
      obtain ⟨u1, hu1⟩ : ∃ z, f_X3_seek s_c s_p s_s r_p b_l b_b b_n s_ha s_en s_ro s_me s_be = z := ⟨_, rfl⟩
      have hr := (bd_eq hu1).symm.trans hr
      refine go_v (ru_V (n := 0) ⟨hx, hb, hml, hown, hts⟩ hk hP (c_X3_seek l D cI cL cZ ad c_sr t_n t_r t_w s_w s_h s_c s_p s_s p_nx p_sz r_k r_r r_p l_z q_z t_t b_l b_b b_n r_t l_l l_b l_n q_l q_b q_n t_le s_cs s_ps s_ha s_en pk ik s_ro s_me s_be s_se s_co pl pb pn il ib im l_a q_a hAd _ hu1) (cwV 0 hts (gV q2_228 q2_229 q2_230 q1_8 q2_231) rfl rfl rfl hd_X3_seek ⟨Nat.le_of_ble_eq_true rfl, Nat.le_of_ble_eq_true rfl⟩) (va_recv hk.1 hP (ci := 3) (q0 := 25) rfl rfl) rfl hl.1 rfl (Nat.le_of_ble_eq_true rfl) dX7_hint_15 ⟨Nat.zero_le _, Nat.zero_le _⟩) hS (fun _ h => h) (fun H locs hP hS => ?_)
      have hP : va_P D vwCl (cw ad cI cL cZ c_sr t_n t_r t_w s_w s_h s_c s_p s_s p_nx p_sz u1.1 u1.2.1 u1.2.2.1 l_z q_z t_t b_l b_b b_n u1.2.2.2 l_l l_b l_n q_l q_b q_n t_le s_cs s_ps s_ha s_en pk ik s_ro s_me s_be s_se s_co pl pb pn il ib im l_a q_a) H := hP
      refine lv_iload_n hx hb dX7_hint_18 rfl (lv_at hl 1 rfl) ?_
      refine lv_if_ne (tgt := 30) hx hb dX7_hint_19 (by decide) (fun c19 => ?_) (fun c19 => ?_)
      · have hr := (if_neg c19).symm.trans hr
        refine lv_aload_n hx hb dX7_hint_30 rfl (lv_at hl 0 rfl) ?_
        refine va_get (D := D) (ci := 7) (v := .ref (ad 25)) (C := RX7) (T := TX7) (N := 9) hx hb hts u_X7 hown hk.1 hP 0 rfl rfl 5 (by decide) (hts _ q2_82) (fun _ h9 => h9) rfl dX7_hint_31 ?_
        refine va_get (D := D) (ci := 3) (v := .int u1.1) (C := RX3) (T := TX3) (N := 6) hx hb hts u_X3 hown hk.1 hP 25 rfl rfl 2 (by decide) (hts _ q1_182) (fun _ h9 => h9) rfl dX7_hint_34 ?_
        refine lv_if_ne (tgt := 43) hx hb dX7_hint_37 (by decide) (fun c37 => ?_) (fun c37 => ?_)
        · have hr := (if_neg c37).symm.trans hr
          refine lv_iload_n hx hb dX7_hint_43 rfl (lv_at hl 1 rfl) ?_
          refine lv_iconst (v := 1) hx hb dX7_hint_44 (by decide) ?_
          refine lv_icmp_ne (tgt := 56) hx hb dX7_hint_45 (by decide) (fun c45 => ?_) (fun c45 => ?_)
          · have hr := (if_neg c45).symm.trans hr
            refine lv_iload_n hx hb dX7_hint_56 rfl (lv_at hl 1 rfl) ?_
            refine lv_iconst (v := 2) hx hb dX7_hint_57 (by decide) ?_
            refine lv_icmp_ne (tgt := 69) hx hb dX7_hint_58 (by decide) (fun c58 => ?_) (fun c58 => ?_)
            · have hr := (if_neg c58).symm.trans hr
              refine lv_aload_n hx hb dX7_hint_69 rfl (lv_at hl 0 rfl) ?_
              refine va_get (D := D) (ci := 7) (v := .ref (ad 25)) (C := RX7) (T := TX7) (N := 9) hx hb hts u_X7 hown hk.1 hP 0 rfl rfl 5 (by decide) (hts _ q2_82) (fun _ h9 => h9) rfl dX7_hint_70 ?_
              refine go_z (ru_V (n := 0) ⟨hx, hb, hml, hown, hts⟩ hk hP (c_X3_tells l D cI cL cZ ad c_sr t_n t_r t_w s_w s_h s_c s_p s_s p_nx p_sz u1.1 u1.2.1 u1.2.2.1 l_z q_z t_t b_l b_b b_n u1.2.2.2 l_l l_b l_n q_l q_b q_n t_le s_cs s_ps s_ha s_en pk ik s_ro s_me s_be s_se s_co pl pb pn il ib im l_a q_a hAd _ rfl) (cwV 0 hts (gV q3_76 q3_77 q3_78 q1_8 q3_79) rfl rfl rfl hd_X3_tells ⟨Nat.le_of_ble_eq_true rfl, Nat.le_of_ble_eq_true rfl⟩) (va_recv hk.1 hP (ci := 3) (q0 := 25) rfl rfl) rfl hl.1 rfl (Nat.le_of_ble_eq_true rfl) dX7_hint_73 ⟨Nat.zero_le _, Nat.zero_le _⟩) hS (fun _ h => h) (fun H locs hz73 hP hS => ?_)
              have hP : va_P D vwCl (cw ad cI cL cZ c_sr t_n t_r t_w s_w s_h s_c s_p s_s p_nx p_sz u1.1 u1.2.1 u1.2.2.1 l_z q_z t_t b_l b_b b_n u1.2.2.2 l_l l_b l_n q_l q_b q_n t_le s_cs s_ps s_ha s_en pk ik s_ro s_me s_be s_se s_co pl pb pn il ib im l_a q_a) H := hP
              refine lv_if_eq (tgt := 92) hx hb dX7_hint_76 (by decide) (fun c76 => ?_) (fun c76 => ?_)
              · have hr := (if_pos c76).symm.trans hr
                refine lv_bipush (v := (-9)) hx hb dX7_hint_92 (by decide) ?_
                subst hr
                exact ret_i hx hb hrt hlocks hP hS dX7_hint_94
              · have hr := (if_neg c76).symm.trans hr
                refine lv_aload_n hx hb dX7_hint_79 rfl (lv_at hl 0 rfl) ?_
                refine va_get (D := D) (ci := 7) (v := .ref (ad 25)) (C := RX7) (T := TX7) (N := 9) hx hb hts u_X7 hown hk.1 hP 0 rfl rfl 5 (by decide) (hts _ q2_82) (fun _ h9 => h9) rfl dX7_hint_80 ?_
                refine va_get (D := D) (ci := 3) (v := .long u1.2.2.2) (C := RX3) (T := TX3) (N := 6) hx hb hts u_X3 hown hk.1 hP 25 rfl rfl 5 (by decide) (hts _ q1_188) (fun _ h9 => h9) rfl dX7_hint_83 ?_
                refine go_i (ru_S (n := 1) ⟨hx, hb, hml, hown, hts⟩ hk hP (c_J13_bitCount_95d88 l D cI cL cZ (cAd ad) (cw ad cI cL cZ c_sr t_n t_r t_w s_w s_h s_c s_p s_s p_nx p_sz u1.1 u1.2.1 u1.2.2.1 l_z q_z t_t b_l b_b b_n u1.2.2.2 l_l l_b l_n q_l q_b q_n t_le s_cs s_ps s_ha s_en pk ik s_ro s_me s_be s_se s_co pl pb pn il ib im l_a q_a) u1.2.2.2 _ rfl) (va_cwS 1 hts (gS q3_71 q3_4 q1_13 q3_5) rfl rfl rfl hd_J13_bitCount_95d88 ⟨Nat.le_of_ble_eq_true rfl, Nat.le_of_ble_eq_true rfl⟩) rfl hl.1 rfl (Nat.le_of_ble_eq_true rfl) dX7_hint_86 ⟨Nat.zero_le _, Nat.zero_le _⟩) hS (fun _ h => h) (fun H locs hP hS => ?_)
                have hP : va_P D vwCl (cw ad cI cL cZ c_sr t_n t_r t_w s_w s_h s_c s_p s_s p_nx p_sz u1.1 u1.2.1 u1.2.2.1 l_z q_z t_t b_l b_b b_n u1.2.2.2 l_l l_b l_n q_l q_b q_n t_le s_cs s_ps s_ha s_en pk ik s_ro s_me s_be s_se s_co pl pb pn il ib im l_a q_a) H := hP
                refine lv_goto (tgt := 94) hx hb dX7_hint_89 (by decide) ?_
                subst hr
                exact ret_i hx hb hrt hlocks hP hS dX7_hint_94
            · have hr := (if_pos c58).symm.trans hr
              refine lv_aload_n hx hb dX7_hint_61 rfl (lv_at hl 0 rfl) ?_
              refine va_get (D := D) (ci := 7) (v := .ref (ad 25)) (C := RX7) (T := TX7) (N := 9) hx hb hts u_X7 hown hk.1 hP 0 rfl rfl 5 (by decide) (hts _ q2_82) (fun _ h9 => h9) rfl dX7_hint_62 ?_
              refine va_get (D := D) (ci := 3) (v := .int u1.2.2.1) (C := RX3) (T := TX3) (N := 6) hx hb hts u_X3 hown hk.1 hP 25 rfl rfl 4 (by decide) (hts _ q1_186) (fun _ h9 => h9) rfl dX7_hint_65 ?_
              subst hr
              exact ret_i hx hb hrt hlocks hP hS dX7_hint_68
          · have hr := (if_pos c45).symm.trans hr
            refine lv_aload_n hx hb dX7_hint_48 rfl (lv_at hl 0 rfl) ?_
            refine va_get (D := D) (ci := 7) (v := .ref (ad 25)) (C := RX7) (T := TX7) (N := 9) hx hb hts u_X7 hown hk.1 hP 0 rfl rfl 5 (by decide) (hts _ q2_82) (fun _ h9 => h9) rfl dX7_hint_49 ?_
            refine va_get (D := D) (ci := 3) (v := .int u1.2.1) (C := RX3) (T := TX3) (N := 6) hx hb hts u_X3 hown hk.1 hP 25 rfl rfl 3 (by decide) (hts _ q1_184) (fun _ h9 => h9) rfl dX7_hint_52 ?_
            subst hr
            exact ret_i hx hb hrt hlocks hP hS dX7_hint_55
        · have hr := (if_pos c37).symm.trans hr
          refine lv_bipush (v := (-9)) hx hb dX7_hint_40 (by decide) ?_
          subst hr
          exact ret_i hx hb hrt hlocks hP hS dX7_hint_42
      · have hr := (if_pos c19).symm.trans hr
        refine lv_aload_n hx hb dX7_hint_22 rfl (lv_at hl 0 rfl) ?_
        refine va_get (D := D) (ci := 7) (v := .ref (ad 25)) (C := RX7) (T := TX7) (N := 9) hx hb hts u_X7 hown hk.1 hP 0 rfl rfl 5 (by decide) (hts _ q2_82) (fun _ h9 => h9) rfl dX7_hint_23 ?_
        refine va_get (D := D) (ci := 3) (v := .int u1.1) (C := RX3) (T := TX3) (N := 6) hx hb hts u_X3 hown hk.1 hP 25 rfl rfl 2 (by decide) (hts _ q1_182) (fun _ h9 => h9) rfl dX7_hint_26 ?_
        subst hr
        exact ret_i hx hb hrt hlocks hP hS dX7_hint_29
    · have hr := (if_neg c6).symm.trans hr
      refine lv_iconst (v := (-1)) hx hb dX7_hint_9 (by decide) ?_
      subst hr
      exact ret_i hx hb hrt hlocks hP hS dX7_hint_10
theorem hd_X7_hinted : yX7_hinted.cls = RX7 ∧ yX7_hinted.cls ≠ "java/lang/invoke/MethodHandle" ∧ yX7_hinted.cls ≠ "java/lang/invoke/VarHandle" ∧ (parseMethodDescriptor yX7_hinted.desc).map (fun d => d.parameters.length) = some 0 := by decide +kernel
def f_X7_hinted (s_c : Int32) (s_p : Int32) (s_s : Int32) (r_p : Int32) (b_l : Int64) (b_b : Int64) (b_n : Int64) (s_ha : Nat → Int32) (s_en : Nat → Int32) (s_ro : Nat → Int64) (s_me : Nat → Int64) (s_be : Nat → Int64) : Int64 × Int32 × Int32 × Int32 × Int64 := (bd (f_X3_seek s_c s_p s_s r_p b_l b_b b_n s_ha s_en s_ro s_me s_be) (fun u1 => (if (f_X3_tells u1.1) = 0 then (0, u1.1, u1.2.1, u1.2.2.1, u1.2.2.2) else (u1.2.2.2, u1.1, u1.2.1, u1.2.2.1, u1.2.2.2))))
set_option maxHeartbeats 4000000 in
set_option maxRecDepth 100000 in
theorem c_X7_hinted (l : Launch) (D : va_G) (cI cL cZ : ClassId) (ad : Nat → Nat) (c_sr t_n t_r t_w s_w s_h s_c s_p s_s p_nx p_sz r_k r_r r_p l_z q_z : Int32) (t_t b_l b_b b_n r_t l_l l_b l_n q_l q_b q_n : Int64) (t_le s_cs s_ps s_ha s_en pk ik : Nat → Int32) (s_ro s_me s_be s_se s_co pl pb pn il ib im l_a q_a : Nat → Int64) (hAd : cInj ad) (r : Int64 × Int32 × Int32 × Int32 × Int64) (hr : f_X7_hinted s_c s_p s_s r_p b_l b_b b_n s_ha s_en s_ro s_me s_be = r) : ML l yX7_hinted (Cond.code yX7_hinted cX7_hinted 1 (some .long) :: W0) 6 151 D cI cL cZ (cAd ad) [.ref (ad 0)] (cw ad cI cL cZ c_sr t_n t_r t_w s_w s_h s_c s_p s_s p_nx p_sz r_k r_r r_p l_z q_z t_t b_l b_b b_n r_t l_l l_b l_n q_l q_b q_n t_le s_cs s_ps s_ha s_en pk ik s_ro s_me s_be s_se s_co pl pb pn il ib im l_a q_a) r.1 (cw ad cI cL cZ c_sr t_n t_r t_w s_w s_h s_c s_p s_s p_nx p_sz r.2.1 r.2.2.1 r.2.2.2.1 l_z q_z t_t b_l b_b b_n r.2.2.2.2 l_l l_b l_n q_l q_b q_n t_le s_cs s_ps s_ha s_en pk ik s_ro s_me s_be s_se s_co pl pb pn il ib im l_a q_a) := by
  refine mk_start (cc := cX7_hinted) (maxL := 1) (ret := (some .long)) (by decide) rfl (Nat.le_of_ble_eq_true rfl) ?_
  intro p e s m below meth c ls C hP hS hl
  obtain ⟨hx, hb, hml, hrt, hlocks, hown, hts, hk⟩ := C
  have hown : s.vm.findClass RX7 = some m.cls := hown
  have hl : lv_has ls 1 [(0, .ref (ad 0))] := hl
  rw [f_X7_hinted] at hr
  refine lv_aload_n hx hb dX7_hinted_0 rfl (lv_at hl 0 rfl) ?_
  refine va_get (D := D) (ci := 7) (v := .ref (ad 25)) (C := RX7) (T := TX7) (N := 9) hx hb hts u_X7 hown hk.1 hP 0 rfl rfl 5 (by decide) (hts _ q2_82) (fun _ h9 => h9) rfl dX7_hinted_1 ?_
  obtain ⟨u1, hu1⟩ : ∃ z, f_X3_seek s_c s_p s_s r_p b_l b_b b_n s_ha s_en s_ro s_me s_be = z := ⟨_, rfl⟩
  have hr := (bd_eq hu1).symm.trans hr
  refine go_v (ru_V (n := 0) ⟨hx, hb, hml, hown, hts⟩ hk hP (c_X3_seek l D cI cL cZ ad c_sr t_n t_r t_w s_w s_h s_c s_p s_s p_nx p_sz r_k r_r r_p l_z q_z t_t b_l b_b b_n r_t l_l l_b l_n q_l q_b q_n t_le s_cs s_ps s_ha s_en pk ik s_ro s_me s_be s_se s_co pl pb pn il ib im l_a q_a hAd _ hu1) (cwV 0 hts (gV q2_228 q2_229 q2_230 q1_8 q2_231) rfl rfl rfl hd_X3_seek ⟨Nat.le_of_ble_eq_true rfl, Nat.le_of_ble_eq_true rfl⟩) (va_recv hk.1 hP (ci := 3) (q0 := 25) rfl rfl) rfl hl.1 rfl (Nat.le_of_ble_eq_true rfl) dX7_hinted_4 ⟨Nat.zero_le _, Nat.zero_le _⟩) hS (fun _ h => h) (fun H locs hP hS => ?_)
  have hP : va_P D vwCl (cw ad cI cL cZ c_sr t_n t_r t_w s_w s_h s_c s_p s_s p_nx p_sz u1.1 u1.2.1 u1.2.2.1 l_z q_z t_t b_l b_b b_n u1.2.2.2 l_l l_b l_n q_l q_b q_n t_le s_cs s_ps s_ha s_en pk ik s_ro s_me s_be s_se s_co pl pb pn il ib im l_a q_a) H := hP
  refine lv_aload_n hx hb dX7_hinted_7 rfl (lv_at hl 0 rfl) ?_
  refine va_get (D := D) (ci := 7) (v := .ref (ad 25)) (C := RX7) (T := TX7) (N := 9) hx hb hts u_X7 hown hk.1 hP 0 rfl rfl 5 (by decide) (hts _ q2_82) (fun _ h9 => h9) rfl dX7_hinted_8 ?_
  refine go_z (ru_V (n := 0) ⟨hx, hb, hml, hown, hts⟩ hk hP (c_X3_tells l D cI cL cZ ad c_sr t_n t_r t_w s_w s_h s_c s_p s_s p_nx p_sz u1.1 u1.2.1 u1.2.2.1 l_z q_z t_t b_l b_b b_n u1.2.2.2 l_l l_b l_n q_l q_b q_n t_le s_cs s_ps s_ha s_en pk ik s_ro s_me s_be s_se s_co pl pb pn il ib im l_a q_a hAd _ rfl) (cwV 0 hts (gV q3_76 q3_77 q3_78 q1_8 q3_79) rfl rfl rfl hd_X3_tells ⟨Nat.le_of_ble_eq_true rfl, Nat.le_of_ble_eq_true rfl⟩) (va_recv hk.1 hP (ci := 3) (q0 := 25) rfl rfl) rfl hl.1 rfl (Nat.le_of_ble_eq_true rfl) dX7_hinted_11 ⟨Nat.zero_le _, Nat.zero_le _⟩) hS (fun _ h => h) (fun H locs hz11 hP hS => ?_)
  have hP : va_P D vwCl (cw ad cI cL cZ c_sr t_n t_r t_w s_w s_h s_c s_p s_s p_nx p_sz u1.1 u1.2.1 u1.2.2.1 l_z q_z t_t b_l b_b b_n u1.2.2.2 l_l l_b l_n q_l q_b q_n t_le s_cs s_ps s_ha s_en pk ik s_ro s_me s_be s_se s_co pl pb pn il ib im l_a q_a) H := hP
  refine lv_if_eq (tgt := 27) hx hb dX7_hinted_14 (by decide) (fun c14 => ?_) (fun c14 => ?_)
  · have hr := (if_pos c14).symm.trans hr
    refine lv_lconst (v := 0) hx hb dX7_hinted_27 (by decide) ?_
    subst hr
    exact ret_l hx hb hrt hlocks hP hS dX7_hinted_28
  · have hr := (if_neg c14).symm.trans hr
    refine lv_aload_n hx hb dX7_hinted_17 rfl (lv_at hl 0 rfl) ?_
    refine va_get (D := D) (ci := 7) (v := .ref (ad 25)) (C := RX7) (T := TX7) (N := 9) hx hb hts u_X7 hown hk.1 hP 0 rfl rfl 5 (by decide) (hts _ q2_82) (fun _ h9 => h9) rfl dX7_hinted_18 ?_
    refine va_get (D := D) (ci := 3) (v := .long u1.2.2.2) (C := RX3) (T := TX3) (N := 6) hx hb hts u_X3 hown hk.1 hP 25 rfl rfl 5 (by decide) (hts _ q1_188) (fun _ h9 => h9) rfl dX7_hinted_21 ?_
    refine lv_goto (tgt := 28) hx hb dX7_hinted_24 (by decide) ?_
    subst hr
    exact ret_l hx hb hrt hlocks hP hS dX7_hinted_28
theorem hd_X7_keep : yX7_keep.cls = RX7 ∧ yX7_keep.cls ≠ "java/lang/invoke/MethodHandle" ∧ yX7_keep.cls ≠ "java/lang/invoke/VarHandle" ∧ (parseMethodDescriptor yX7_keep.desc).map (fun d => d.parameters.length) = some 1 := by decide +kernel
def f_X7_keep (p1 : Int32) (s_s : Int32) (b_l : Int64) (b_b : Int64) (b_n : Int64) (ik : Nat → Int32) (il : Nat → Int64) (ib : Nat → Int64) (im : Nat → Int64) : Int32 × (Nat → Int32) × (Nat → Int64) × (Nat → Int64) × (Nat → Int64) := (if p1 < 0 then ((-1), ik, il, ib, im) else (if p1 < 2 then (bd (f_X5_store_b p1 b_l b_b b_n ik il ib im) (fun u1 => (f_X7_openSides s_s b_l b_b, u1.1, u1.2.1, u1.2.2.1, u1.2.2.2))) else ((-1), ik, il, ib, im)))
set_option maxHeartbeats 4000000 in
set_option maxRecDepth 100000 in
theorem c_X7_keep (l : Launch) (D : va_G) (cI cL cZ : ClassId) (ad : Nat → Nat) (c_sr t_n t_r t_w s_w s_h s_c s_p s_s p_nx p_sz r_k r_r r_p l_z q_z : Int32) (t_t b_l b_b b_n r_t l_l l_b l_n q_l q_b q_n : Int64) (t_le s_cs s_ps s_ha s_en pk ik : Nat → Int32) (s_ro s_me s_be s_se s_co pl pb pn il ib im l_a q_a : Nat → Int64) (hAd : cInj ad) (p1 : Int32) (r : Int32 × (Nat → Int32) × (Nat → Int64) × (Nat → Int64) × (Nat → Int64)) (hr : f_X7_keep p1 s_s b_l b_b b_n ik il ib im = r) : MI l yX7_keep (Cond.code yX7_keep cX7_keep 2 (some .int) :: W0) 2 45 D cI cL cZ (cAd ad) [.ref (ad 0), .int p1] (cw ad cI cL cZ c_sr t_n t_r t_w s_w s_h s_c s_p s_s p_nx p_sz r_k r_r r_p l_z q_z t_t b_l b_b b_n r_t l_l l_b l_n q_l q_b q_n t_le s_cs s_ps s_ha s_en pk ik s_ro s_me s_be s_se s_co pl pb pn il ib im l_a q_a) r.1 (cw ad cI cL cZ c_sr t_n t_r t_w s_w s_h s_c s_p s_s p_nx p_sz r_k r_r r_p l_z q_z t_t b_l b_b b_n r_t l_l l_b l_n q_l q_b q_n t_le s_cs s_ps s_ha s_en pk r.2.1 s_ro s_me s_be s_se s_co pl pb pn r.2.2.1 r.2.2.2.1 r.2.2.2.2 l_a q_a) := by
  refine mk_start (cc := cX7_keep) (maxL := 2) (ret := (some .int)) (by decide) rfl (Nat.le_of_ble_eq_true rfl) ?_
  intro p e s m below meth c ls C hP hS hl
  obtain ⟨hx, hb, hml, hrt, hlocks, hown, hts, hk⟩ := C
  have hown : s.vm.findClass RX7 = some m.cls := hown
  have hl : lv_has ls 2 [(0, .ref (ad 0)), (1, .int p1)] := hl
  rw [f_X7_keep] at hr
  refine lv_iload_n hx hb dX7_keep_0 rfl (lv_at hl 1 rfl) ?_
  refine lv_if_lt (tgt := 9) hx hb dX7_keep_1 (by decide) (fun c1 => ?_) (fun c1 => ?_)
  · have hr := (if_pos c1).symm.trans hr
    refine lv_iconst (v := (-1)) hx hb dX7_keep_9 (by decide) ?_
    subst hr
    exact ret_i hx hb hrt hlocks hP hS dX7_keep_10
  · have hr := (if_neg c1).symm.trans hr
    refine lv_iload_n hx hb dX7_keep_4 rfl (lv_at hl 1 rfl) ?_
    refine lv_iconst (v := 2) hx hb dX7_keep_5 (by decide) ?_
    refine lv_icmp_lt (tgt := 11) hx hb dX7_keep_6 (by decide) (fun c6 => ?_) (fun c6 => ?_)
    · have hr := (if_pos c6).symm.trans hr
      refine lv_aload_n hx hb dX7_keep_11 rfl (lv_at hl 0 rfl) ?_
      refine va_get (D := D) (ci := 7) (v := .ref (ad 20)) (C := RX7) (T := TX7) (N := 9) hx hb hts u_X7 hown hk.1 hP 0 rfl rfl 4 (by decide) (hts _ q2_81) (fun _ h9 => h9) rfl dX7_keep_12 ?_
      refine lv_iload_n hx hb dX7_keep_15 rfl (lv_at hl 1 rfl) ?_
      refine lv_aload_n hx hb dX7_keep_16 rfl (lv_at hl 0 rfl) ?_
      refine va_get (D := D) (ci := 7) (v := .ref (ad 13)) (C := RX7) (T := TX7) (N := 9) hx hb hts u_X7 hown hk.1 hP 0 rfl rfl 2 (by decide) (hts _ q2_79) (fun _ h9 => h9) rfl dX7_keep_17 ?_
      obtain ⟨u1, hu1⟩ : ∃ z, f_X5_store_b p1 b_l b_b b_n ik il ib im = z := ⟨_, rfl⟩
      have hr := (bd_eq hu1).symm.trans hr
      refine go_v (ru_V (n := 2) ⟨hx, hb, hml, hown, hts⟩ hk hP (c_X5_store_b l D cI cL cZ ad c_sr t_n t_r t_w s_w s_h s_c s_p s_s p_nx p_sz r_k r_r r_p l_z q_z t_t b_l b_b b_n r_t l_l l_b l_n q_l q_b q_n t_le s_cs s_ps s_ha s_en pk ik s_ro s_me s_be s_se s_co pl pb pn il ib im l_a q_a hAd p1 _ hu1) (cwV 2 hts (gV q3_199 q2_209 q2_210 q1_6 q2_211) rfl rfl rfl hd_X5_store ⟨Nat.le_of_ble_eq_true rfl, Nat.le_of_ble_eq_true rfl⟩) (va_recv hk.1 hP (ci := 5) (q0 := 20) rfl rfl) rfl hl.1 rfl (Nat.le_of_ble_eq_true rfl) dX7_keep_20 ⟨Nat.zero_le _, Nat.zero_le _⟩) hS (fun _ h => h) (fun H locs hP hS => ?_)
      have hP : va_P D vwCl (cw ad cI cL cZ c_sr t_n t_r t_w s_w s_h s_c s_p s_s p_nx p_sz r_k r_r r_p l_z q_z t_t b_l b_b b_n r_t l_l l_b l_n q_l q_b q_n t_le s_cs s_ps s_ha s_en pk u1.1 s_ro s_me s_be s_se s_co pl pb pn u1.2.1 u1.2.2.1 u1.2.2.2 l_a q_a) H := hP
      refine lv_aload_n hx hb dX7_keep_23 rfl (lv_at hl 0 rfl) ?_
      refine go_i (ru_V (n := 0) ⟨hx, hb, hml, hown, hts⟩ hk hP (c_X7_openSides l D cI cL cZ ad c_sr t_n t_r t_w s_w s_h s_c s_p s_s p_nx p_sz r_k r_r r_p l_z q_z t_t b_l b_b b_n r_t l_l l_b l_n q_l q_b q_n t_le s_cs s_ps s_ha s_en pk u1.1 s_ro s_me s_be s_se s_co pl pb pn u1.2.1 u1.2.2.1 u1.2.2.2 l_a q_a hAd _ rfl) (cwV 0 hts (gV q3_200 q3_202 qs2_13 q1_1 q3_203) rfl rfl rfl hd_X7_openSides ⟨Nat.le_of_ble_eq_true rfl, Nat.le_of_ble_eq_true rfl⟩) (va_recv hk.1 hP (ci := 7) (q0 := 0) rfl rfl) rfl hl.1 rfl (Nat.le_of_ble_eq_true rfl) dX7_keep_24 ⟨Nat.zero_le _, Nat.zero_le _⟩) hS (fun _ h => h) (fun H locs hP hS => ?_)
      have hP : va_P D vwCl (cw ad cI cL cZ c_sr t_n t_r t_w s_w s_h s_c s_p s_s p_nx p_sz r_k r_r r_p l_z q_z t_t b_l b_b b_n r_t l_l l_b l_n q_l q_b q_n t_le s_cs s_ps s_ha s_en pk u1.1 s_ro s_me s_be s_se s_co pl pb pn u1.2.1 u1.2.2.1 u1.2.2.2 l_a q_a) H := hP
      subst hr
      exact ret_i hx hb hrt hlocks hP hS dX7_keep_27
    · have hr := (if_neg c6).symm.trans hr
      refine lv_iconst (v := (-1)) hx hb dX7_keep_9 (by decide) ?_
      subst hr
      exact ret_i hx hb hrt hlocks hP hS dX7_keep_10
theorem hd_X7_back : yX7_back.cls = RX7 ∧ yX7_back.cls ≠ "java/lang/invoke/MethodHandle" ∧ yX7_back.cls ≠ "java/lang/invoke/VarHandle" ∧ (parseMethodDescriptor yX7_back.desc).map (fun d => d.parameters.length) = some 1 := by decide +kernel
def f_X7_back (p1 : Int32) (c_sr : Int32) (s_s : Int32) (p_sz : Int32) (b_l : Int64) (b_b : Int64) (b_n : Int64) (ik : Nat → Int32) (il : Nat → Int64) (ib : Nat → Int64) (im : Nat → Int64) : Int32 × Int32 × Int32 × Int64 × Int64 × Int64 := (if p1 < 0 then ((-1), c_sr, p_sz, b_l, b_b, b_n) else (if p1 < 2 then (if (f_X5_has_b p1 ik) = 0 then ((-2), c_sr, p_sz, b_l, b_b, b_n) else (bd (f_X5_give_b p1 il ib im) (fun u1 => (bd (f_X2_forget) (fun u2 => (f_X7_openSides s_s u1.1 u1.2.1, 0, u2, u1.1, u1.2.1, u1.2.2)))))) else ((-1), c_sr, p_sz, b_l, b_b, b_n)))
set_option maxHeartbeats 4000000 in
set_option maxRecDepth 100000 in
theorem c_X7_back (l : Launch) (D : va_G) (cI cL cZ : ClassId) (ad : Nat → Nat) (c_sr t_n t_r t_w s_w s_h s_c s_p s_s p_nx p_sz r_k r_r r_p l_z q_z : Int32) (t_t b_l b_b b_n r_t l_l l_b l_n q_l q_b q_n : Int64) (t_le s_cs s_ps s_ha s_en pk ik : Nat → Int32) (s_ro s_me s_be s_se s_co pl pb pn il ib im l_a q_a : Nat → Int64) (hAd : cInj ad) (p1 : Int32) (r : Int32 × Int32 × Int32 × Int64 × Int64 × Int64) (hr : f_X7_back p1 c_sr s_s p_sz b_l b_b b_n ik il ib im = r) : MI l yX7_back (Cond.code yX7_back cX7_back 2 (some .int) :: W0) 2 48 D cI cL cZ (cAd ad) [.ref (ad 0), .int p1] (cw ad cI cL cZ c_sr t_n t_r t_w s_w s_h s_c s_p s_s p_nx p_sz r_k r_r r_p l_z q_z t_t b_l b_b b_n r_t l_l l_b l_n q_l q_b q_n t_le s_cs s_ps s_ha s_en pk ik s_ro s_me s_be s_se s_co pl pb pn il ib im l_a q_a) r.1 (cw ad cI cL cZ r.2.1 t_n t_r t_w s_w s_h s_c s_p s_s p_nx r.2.2.1 r_k r_r r_p l_z q_z t_t r.2.2.2.1 r.2.2.2.2.1 r.2.2.2.2.2 r_t l_l l_b l_n q_l q_b q_n t_le s_cs s_ps s_ha s_en pk ik s_ro s_me s_be s_se s_co pl pb pn il ib im l_a q_a) := by
  refine mk_start (cc := cX7_back) (maxL := 2) (ret := (some .int)) (by decide) rfl (Nat.le_of_ble_eq_true rfl) ?_
  intro p e s m below meth c ls C hP hS hl
  obtain ⟨hx, hb, hml, hrt, hlocks, hown, hts, hk⟩ := C
  have hown : s.vm.findClass RX7 = some m.cls := hown
  have hl : lv_has ls 2 [(0, .ref (ad 0)), (1, .int p1)] := hl
  rw [f_X7_back] at hr
  refine lv_iload_n hx hb dX7_back_0 rfl (lv_at hl 1 rfl) ?_
  refine lv_if_lt (tgt := 9) hx hb dX7_back_1 (by decide) (fun c1 => ?_) (fun c1 => ?_)
  · have hr := (if_pos c1).symm.trans hr
    refine lv_iconst (v := (-1)) hx hb dX7_back_9 (by decide) ?_
    subst hr
    exact ret_i hx hb hrt hlocks hP hS dX7_back_10
  · have hr := (if_neg c1).symm.trans hr
    refine lv_iload_n hx hb dX7_back_4 rfl (lv_at hl 1 rfl) ?_
    refine lv_iconst (v := 2) hx hb dX7_back_5 (by decide) ?_
    refine lv_icmp_lt (tgt := 11) hx hb dX7_back_6 (by decide) (fun c6 => ?_) (fun c6 => ?_)
    · have hr := (if_pos c6).symm.trans hr
      refine lv_aload_n hx hb dX7_back_11 rfl (lv_at hl 0 rfl) ?_
      refine va_get (D := D) (ci := 7) (v := .ref (ad 20)) (C := RX7) (T := TX7) (N := 9) hx hb hts u_X7 hown hk.1 hP 0 rfl rfl 4 (by decide) (hts _ q2_81) (fun _ h9 => h9) rfl dX7_back_12 ?_
      refine lv_iload_n hx hb dX7_back_15 rfl (lv_at hl 1 rfl) ?_
      refine go_z (ru_V (n := 1) ⟨hx, hb, hml, hown, hts⟩ hk hP (c_X5_has_b l D cI cL cZ ad c_sr t_n t_r t_w s_w s_h s_c s_p s_s p_nx p_sz r_k r_r r_p l_z q_z t_t b_l b_b b_n r_t l_l l_b l_n q_l q_b q_n t_le s_cs s_ps s_ha s_en pk ik s_ro s_me s_be s_se s_co pl pb pn il ib im l_a q_a hAd p1 _ rfl) (cwV 1 hts (gV q3_208 q3_209 q3_210 q1_6 q3_211) rfl rfl rfl hd_X5_has ⟨Nat.le_of_ble_eq_true rfl, Nat.le_of_ble_eq_true rfl⟩) (va_recv hk.1 hP (ci := 5) (q0 := 20) rfl rfl) rfl hl.1 rfl (Nat.le_of_ble_eq_true rfl) dX7_back_16 ⟨Nat.zero_le _, Nat.zero_le _⟩) hS (fun _ h => h) (fun H locs hz16 hP hS => ?_)
      have hP : va_P D vwCl (cw ad cI cL cZ c_sr t_n t_r t_w s_w s_h s_c s_p s_s p_nx p_sz r_k r_r r_p l_z q_z t_t b_l b_b b_n r_t l_l l_b l_n q_l q_b q_n t_le s_cs s_ps s_ha s_en pk ik s_ro s_me s_be s_se s_co pl pb pn il ib im l_a q_a) H := hP
      refine lv_if_ne (tgt := 25) hx hb dX7_back_19 (by decide) (fun c19 => ?_) (fun c19 => ?_)
      · have hr := (if_neg c19).symm.trans hr
        refine lv_aload_n hx hb dX7_back_25 rfl (lv_at hl 0 rfl) ?_
        refine va_get (D := D) (ci := 7) (v := .ref (ad 20)) (C := RX7) (T := TX7) (N := 9) hx hb hts u_X7 hown hk.1 hP 0 rfl rfl 4 (by decide) (hts _ q2_81) (fun _ h9 => h9) rfl dX7_back_26 ?_
        refine lv_iload_n hx hb dX7_back_29 rfl (lv_at hl 1 rfl) ?_
        refine lv_aload_n hx hb dX7_back_30 rfl (lv_at hl 0 rfl) ?_
        refine va_get (D := D) (ci := 7) (v := .ref (ad 13)) (C := RX7) (T := TX7) (N := 9) hx hb hts u_X7 hown hk.1 hP 0 rfl rfl 2 (by decide) (hts _ q2_79) (fun _ h9 => h9) rfl dX7_back_31 ?_
        obtain ⟨u1, hu1⟩ : ∃ z, f_X5_give_b p1 il ib im = z := ⟨_, rfl⟩
        have hr := (bd_eq hu1).symm.trans hr
        refine go_v (ru_V (n := 2) ⟨hx, hb, hml, hown, hts⟩ hk hP (c_X5_give_b l D cI cL cZ ad c_sr t_n t_r t_w s_w s_h s_c s_p s_s p_nx p_sz r_k r_r r_p l_z q_z t_t b_l b_b b_n r_t l_l l_b l_n q_l q_b q_n t_le s_cs s_ps s_ha s_en pk ik s_ro s_me s_be s_se s_co pl pb pn il ib im l_a q_a hAd p1 _ hu1) (cwV 2 hts (gV q3_213 q3_90 q3_91 q1_6 q3_92) rfl rfl rfl hd_X5_give ⟨Nat.le_of_ble_eq_true rfl, Nat.le_of_ble_eq_true rfl⟩) (va_recv hk.1 hP (ci := 5) (q0 := 20) rfl rfl) rfl hl.1 rfl (Nat.le_of_ble_eq_true rfl) dX7_back_34 ⟨Nat.zero_le _, Nat.zero_le _⟩) hS (fun _ h => h) (fun H locs hP hS => ?_)
        have hP : va_P D vwCl (cw ad cI cL cZ c_sr t_n t_r t_w s_w s_h s_c s_p s_s p_nx p_sz r_k r_r r_p l_z q_z t_t u1.1 u1.2.1 u1.2.2 r_t l_l l_b l_n q_l q_b q_n t_le s_cs s_ps s_ha s_en pk ik s_ro s_me s_be s_se s_co pl pb pn il ib im l_a q_a) H := hP
        refine lv_aload_n hx hb dX7_back_37 rfl (lv_at hl 0 rfl) ?_
        refine va_get (D := D) (ci := 7) (v := .ref (ad 14)) (C := RX7) (T := TX7) (N := 9) hx hb hts u_X7 hown hk.1 hP 0 rfl rfl 3 (by decide) (hts _ q2_80) (fun _ h9 => h9) rfl dX7_back_38 ?_
        obtain ⟨u2, hu2⟩ : ∃ z, f_X2_forget = z := ⟨_, rfl⟩
        have hr := (bd_eq hu2).symm.trans hr
        refine go_v (ru_V (n := 0) ⟨hx, hb, hml, hown, hts⟩ hk hP (c_X2_forget l D cI cL cZ ad c_sr t_n t_r t_w s_w s_h s_c s_p s_s p_nx p_sz r_k r_r r_p l_z q_z t_t u1.1 u1.2.1 u1.2.2 r_t l_l l_b l_n q_l q_b q_n t_le s_cs s_ps s_ha s_en pk ik s_ro s_me s_be s_se s_co pl pb pn il ib im l_a q_a hAd _ hu2) (cwV 0 hts (gV q2_146 q2_147 q2_148 q1_5 q2_149) rfl rfl rfl hd_X2_forget ⟨Nat.le_of_ble_eq_true rfl, Nat.le_of_ble_eq_true rfl⟩) (va_recv hk.1 hP (ci := 2) (q0 := 14) rfl rfl) rfl hl.1 rfl (Nat.le_of_ble_eq_true rfl) dX7_back_41 ⟨Nat.zero_le _, Nat.zero_le _⟩) hS (fun _ h => h) (fun H locs hP hS => ?_)
        have hP : va_P D vwCl (cw ad cI cL cZ c_sr t_n t_r t_w s_w s_h s_c s_p s_s p_nx u2 r_k r_r r_p l_z q_z t_t u1.1 u1.2.1 u1.2.2 r_t l_l l_b l_n q_l q_b q_n t_le s_cs s_ps s_ha s_en pk ik s_ro s_me s_be s_se s_co pl pb pn il ib im l_a q_a) H := hP
        refine lv_aload_n hx hb dX7_back_44 rfl (lv_at hl 0 rfl) ?_
        refine lv_iconst (v := 0) hx hb dX7_back_45 (by decide) ?_
        refine va_put (D := D) (ci := 7) (v := .int 0) (ty := .boolean) (C := RX7) (T := TX7) (N := 9) hx hb hts u_X7 tyX7 tyX7_ok nmX7 hown hk.1 hP (cw_D hAd) hS 0 rfl rfl 8 (by decide) (hts _ q2_85) (fun _ h9 => h9) rfl (tyX7_ok 8 (by decide)) rfl rfl (Nat.le_of_ble_eq_true rfl) dX7_back_46 (fun H locs hP _ hS => ?_)
        have hP : va_P D vwCl (cw ad cI cL cZ 0 t_n t_r t_w s_w s_h s_c s_p s_s p_nx u2 r_k r_r r_p l_z q_z t_t u1.1 u1.2.1 u1.2.2 r_t l_l l_b l_n q_l q_b q_n t_le s_cs s_ps s_ha s_en pk ik s_ro s_me s_be s_se s_co pl pb pn il ib im l_a q_a) H := hP
        refine lv_aload_n hx hb dX7_back_49 rfl (lv_at hl 0 rfl) ?_
        refine go_i (ru_V (n := 0) ⟨hx, hb, hml, hown, hts⟩ hk hP (c_X7_openSides l D cI cL cZ ad 0 t_n t_r t_w s_w s_h s_c s_p s_s p_nx u2 r_k r_r r_p l_z q_z t_t u1.1 u1.2.1 u1.2.2 r_t l_l l_b l_n q_l q_b q_n t_le s_cs s_ps s_ha s_en pk ik s_ro s_me s_be s_se s_co pl pb pn il ib im l_a q_a hAd _ rfl) (cwV 0 hts (gV q3_200 q3_202 qs2_13 q1_1 q3_203) rfl rfl rfl hd_X7_openSides ⟨Nat.le_of_ble_eq_true rfl, Nat.le_of_ble_eq_true rfl⟩) (va_recv hk.1 hP (ci := 7) (q0 := 0) rfl rfl) rfl hl.1 rfl (Nat.le_of_ble_eq_true rfl) dX7_back_50 ⟨Nat.zero_le _, Nat.zero_le _⟩) hS (fun _ h => h) (fun H locs hP hS => ?_)
        have hP : va_P D vwCl (cw ad cI cL cZ 0 t_n t_r t_w s_w s_h s_c s_p s_s p_nx u2 r_k r_r r_p l_z q_z t_t u1.1 u1.2.1 u1.2.2 r_t l_l l_b l_n q_l q_b q_n t_le s_cs s_ps s_ha s_en pk ik s_ro s_me s_be s_se s_co pl pb pn il ib im l_a q_a) H := hP
        subst hr
        exact ret_i hx hb hrt hlocks hP hS dX7_back_53
      · have hr := (if_pos c19).symm.trans hr
        refine lv_bipush (v := (-2)) hx hb dX7_back_22 (by decide) ?_
        subst hr
        exact ret_i hx hb hrt hlocks hP hS dX7_back_24
    · have hr := (if_neg c6).symm.trans hr
      refine lv_iconst (v := (-1)) hx hb dX7_back_9 (by decide) ?_
      subst hr
      exact ret_i hx hb hrt hlocks hP hS dX7_back_10
theorem hd_X7_count : yX7_count.cls = RX7 ∧ yX7_count.cls ≠ "java/lang/invoke/MethodHandle" ∧ yX7_count.cls ≠ "java/lang/invoke/VarHandle" ∧ (parseMethodDescriptor yX7_count.desc).map (fun d => d.parameters.length) = some 1 := by decide +kernel
def f_X7_count (p1 : Int32) (t_n : Int32) (s_w : Int32) (s_h : Int32) (s_c : Int32) (s_s : Int32) (p_sz : Int32) (b_l : Int64) (b_b : Int64) (b_n : Int64) : Int32 := (if p1 = 0 then s_w else (if p1 = 1 then s_h else (if p1 = 2 then s_s else (if p1 = 3 then f_J13_bitCount_95d88 b_l else (if p1 = 4 then f_J13_bitCount_95d88 b_b else (if p1 = 5 then f_X7_cellsWithNumber s_c b_n else (if p1 = 6 then t_n else (if p1 = 7 then p_sz else (-1)))))))))
set_option maxHeartbeats 4000000 in
set_option maxRecDepth 100000 in
theorem c_X7_count (l : Launch) (D : va_G) (cI cL cZ : ClassId) (ad : Nat → Nat) (c_sr t_n t_r t_w s_w s_h s_c s_p s_s p_nx p_sz r_k r_r r_p l_z q_z : Int32) (t_t b_l b_b b_n r_t l_l l_b l_n q_l q_b q_n : Int64) (t_le s_cs s_ps s_ha s_en pk ik : Nat → Int32) (s_ro s_me s_be s_se s_co pl pb pn il ib im l_a q_a : Nat → Int64) (hAd : cInj ad) (p1 : Int32) (r : Int32) (hr : f_X7_count p1 t_n s_w s_h s_c s_s p_sz b_l b_b b_n = r) : MI l yX7_count (Cond.code yX7_count cX7_count 2 (some .int) :: W0) 3 65 D cI cL cZ (cAd ad) [.ref (ad 0), .int p1] (cw ad cI cL cZ c_sr t_n t_r t_w s_w s_h s_c s_p s_s p_nx p_sz r_k r_r r_p l_z q_z t_t b_l b_b b_n r_t l_l l_b l_n q_l q_b q_n t_le s_cs s_ps s_ha s_en pk ik s_ro s_me s_be s_se s_co pl pb pn il ib im l_a q_a) r (cw ad cI cL cZ c_sr t_n t_r t_w s_w s_h s_c s_p s_s p_nx p_sz r_k r_r r_p l_z q_z t_t b_l b_b b_n r_t l_l l_b l_n q_l q_b q_n t_le s_cs s_ps s_ha s_en pk ik s_ro s_me s_be s_se s_co pl pb pn il ib im l_a q_a) := by
  refine mk_start (cc := cX7_count) (maxL := 2) (ret := (some .int)) (by decide) rfl (Nat.le_of_ble_eq_true rfl) ?_
  intro p e s m below meth c ls C hP hS hl
  obtain ⟨hx, hb, hml, hrt, hlocks, hown, hts, hk⟩ := C
  have hown : s.vm.findClass RX7 = some m.cls := hown
  have hl : lv_has ls 2 [(0, .ref (ad 0)), (1, .int p1)] := hl
  rw [f_X7_count] at hr
  refine lv_iload_n hx hb dX7_count_0 rfl (lv_at hl 1 rfl) ?_
  by_cases c1_0 : p1 = 0
  · have hr := (if_pos c1_0).symm.trans hr
    refine lv_tableIn (tgt := 48) (off := 47) hx hb dX7_count_1 (by rw [c1_0]; decide) (by rw [c1_0]; decide) (by rw [c1_0]; rfl) (by decide) ?_
    refine lv_aload_n hx hb dX7_count_48 rfl (lv_at hl 0 rfl) ?_
    refine va_get (D := D) (ci := 7) (v := .ref (ad 3)) (C := RX7) (T := TX7) (N := 9) hx hb hts u_X7 hown hk.1 hP 0 rfl rfl 1 (by decide) (hts _ q2_78) (fun _ h9 => h9) rfl dX7_count_49 ?_
    refine va_get (D := D) (ci := 4) (v := .int s_w) (C := RX4) (T := TX4) (N := 14) hx hb hts u_X4 hown hk.1 hP 3 rfl rfl 0 (by decide) (hts _ q1_57) (fun _ h9 => h9) rfl dX7_count_52 ?_
    subst hr
    exact ret_i hx hb hrt hlocks hP hS dX7_count_55
  · have hr := (if_neg c1_0).symm.trans hr
    by_cases c1_1 : p1 = 1
    · have hr := (if_pos c1_1).symm.trans hr
      refine lv_tableIn (tgt := 56) (off := 55) hx hb dX7_count_1 (by rw [c1_1]; decide) (by rw [c1_1]; decide) (by rw [c1_1]; rfl) (by decide) ?_
      refine lv_aload_n hx hb dX7_count_56 rfl (lv_at hl 0 rfl) ?_
      refine va_get (D := D) (ci := 7) (v := .ref (ad 3)) (C := RX7) (T := TX7) (N := 9) hx hb hts u_X7 hown hk.1 hP 0 rfl rfl 1 (by decide) (hts _ q2_78) (fun _ h9 => h9) rfl dX7_count_57 ?_
      refine va_get (D := D) (ci := 4) (v := .int s_h) (C := RX4) (T := TX4) (N := 14) hx hb hts u_X4 hown hk.1 hP 3 rfl rfl 1 (by decide) (hts _ q1_59) (fun _ h9 => h9) rfl dX7_count_60 ?_
      subst hr
      exact ret_i hx hb hrt hlocks hP hS dX7_count_63
    · have hr := (if_neg c1_1).symm.trans hr
      by_cases c1_2 : p1 = 2
      · have hr := (if_pos c1_2).symm.trans hr
        refine lv_tableIn (tgt := 64) (off := 63) hx hb dX7_count_1 (by rw [c1_2]; decide) (by rw [c1_2]; decide) (by rw [c1_2]; rfl) (by decide) ?_
        refine lv_aload_n hx hb dX7_count_64 rfl (lv_at hl 0 rfl) ?_
        refine va_get (D := D) (ci := 7) (v := .ref (ad 3)) (C := RX7) (T := TX7) (N := 9) hx hb hts u_X7 hown hk.1 hP 0 rfl rfl 1 (by decide) (hts _ q2_78) (fun _ h9 => h9) rfl dX7_count_65 ?_
        refine va_get (D := D) (ci := 4) (v := .int s_s) (C := RX4) (T := TX4) (N := 14) hx hb hts u_X4 hown hk.1 hP 3 rfl rfl 4 (by decide) (hts _ q1_68) (fun _ h9 => h9) rfl dX7_count_68 ?_
        subst hr
        exact ret_i hx hb hrt hlocks hP hS dX7_count_71
      · have hr := (if_neg c1_2).symm.trans hr
        by_cases c1_3 : p1 = 3
        · have hr := (if_pos c1_3).symm.trans hr
          refine lv_tableIn (tgt := 72) (off := 71) hx hb dX7_count_1 (by rw [c1_3]; decide) (by rw [c1_3]; decide) (by rw [c1_3]; rfl) (by decide) ?_
          refine lv_aload_n hx hb dX7_count_72 rfl (lv_at hl 0 rfl) ?_
          refine va_get (D := D) (ci := 7) (v := .ref (ad 13)) (C := RX7) (T := TX7) (N := 9) hx hb hts u_X7 hown hk.1 hP 0 rfl rfl 2 (by decide) (hts _ q2_79) (fun _ h9 => h9) rfl dX7_count_73 ?_
          refine va_get (D := D) (ci := 0) (v := .long b_l) (C := RX0) (T := TX0) (N := 3) hx hb hts u_X0 hown hk.1 hP 13 rfl rfl 0 (by decide) (hts _ q1_117) (fun _ h9 => h9) rfl dX7_count_76 ?_
          refine go_i (ru_S (n := 1) ⟨hx, hb, hml, hown, hts⟩ hk hP (c_J13_bitCount_95d88 l D cI cL cZ (cAd ad) (cw ad cI cL cZ c_sr t_n t_r t_w s_w s_h s_c s_p s_s p_nx p_sz r_k r_r r_p l_z q_z t_t b_l b_b b_n r_t l_l l_b l_n q_l q_b q_n t_le s_cs s_ps s_ha s_en pk ik s_ro s_me s_be s_se s_co pl pb pn il ib im l_a q_a) b_l _ rfl) (va_cwS 1 hts (gS q3_71 q3_4 q1_13 q3_5) rfl rfl rfl hd_J13_bitCount_95d88 ⟨Nat.le_of_ble_eq_true rfl, Nat.le_of_ble_eq_true rfl⟩) rfl hl.1 rfl (Nat.le_of_ble_eq_true rfl) dX7_count_79 ⟨Nat.zero_le _, Nat.zero_le _⟩) hS (fun _ h => h) (fun H locs hP hS => ?_)
          have hP : va_P D vwCl (cw ad cI cL cZ c_sr t_n t_r t_w s_w s_h s_c s_p s_s p_nx p_sz r_k r_r r_p l_z q_z t_t b_l b_b b_n r_t l_l l_b l_n q_l q_b q_n t_le s_cs s_ps s_ha s_en pk ik s_ro s_me s_be s_se s_co pl pb pn il ib im l_a q_a) H := hP
          subst hr
          exact ret_i hx hb hrt hlocks hP hS dX7_count_82
        · have hr := (if_neg c1_3).symm.trans hr
          by_cases c1_4 : p1 = 4
          · have hr := (if_pos c1_4).symm.trans hr
            refine lv_tableIn (tgt := 83) (off := 82) hx hb dX7_count_1 (by rw [c1_4]; decide) (by rw [c1_4]; decide) (by rw [c1_4]; rfl) (by decide) ?_
            refine lv_aload_n hx hb dX7_count_83 rfl (lv_at hl 0 rfl) ?_
            refine va_get (D := D) (ci := 7) (v := .ref (ad 13)) (C := RX7) (T := TX7) (N := 9) hx hb hts u_X7 hown hk.1 hP 0 rfl rfl 2 (by decide) (hts _ q2_79) (fun _ h9 => h9) rfl dX7_count_84 ?_
            refine va_get (D := D) (ci := 0) (v := .long b_b) (C := RX0) (T := TX0) (N := 3) hx hb hts u_X0 hown hk.1 hP 13 rfl rfl 1 (by decide) (hts _ q1_121) (fun _ h9 => h9) rfl dX7_count_87 ?_
            refine go_i (ru_S (n := 1) ⟨hx, hb, hml, hown, hts⟩ hk hP (c_J13_bitCount_95d88 l D cI cL cZ (cAd ad) (cw ad cI cL cZ c_sr t_n t_r t_w s_w s_h s_c s_p s_s p_nx p_sz r_k r_r r_p l_z q_z t_t b_l b_b b_n r_t l_l l_b l_n q_l q_b q_n t_le s_cs s_ps s_ha s_en pk ik s_ro s_me s_be s_se s_co pl pb pn il ib im l_a q_a) b_b _ rfl) (va_cwS 1 hts (gS q3_71 q3_4 q1_13 q3_5) rfl rfl rfl hd_J13_bitCount_95d88 ⟨Nat.le_of_ble_eq_true rfl, Nat.le_of_ble_eq_true rfl⟩) rfl hl.1 rfl (Nat.le_of_ble_eq_true rfl) dX7_count_90 ⟨Nat.zero_le _, Nat.zero_le _⟩) hS (fun _ h => h) (fun H locs hP hS => ?_)
            have hP : va_P D vwCl (cw ad cI cL cZ c_sr t_n t_r t_w s_w s_h s_c s_p s_s p_nx p_sz r_k r_r r_p l_z q_z t_t b_l b_b b_n r_t l_l l_b l_n q_l q_b q_n t_le s_cs s_ps s_ha s_en pk ik s_ro s_me s_be s_se s_co pl pb pn il ib im l_a q_a) H := hP
            subst hr
            exact ret_i hx hb hrt hlocks hP hS dX7_count_93
          · have hr := (if_neg c1_4).symm.trans hr
            by_cases c1_5 : p1 = 5
            · have hr := (if_pos c1_5).symm.trans hr
              refine lv_tableIn (tgt := 94) (off := 93) hx hb dX7_count_1 (by rw [c1_5]; decide) (by rw [c1_5]; decide) (by rw [c1_5]; rfl) (by decide) ?_
              refine lv_aload_n hx hb dX7_count_94 rfl (lv_at hl 0 rfl) ?_
              refine go_i (ru_V (n := 0) ⟨hx, hb, hml, hown, hts⟩ hk hP (c_X7_cellsWithNumber l D cI cL cZ ad c_sr t_n t_r t_w s_w s_h s_c s_p s_s p_nx p_sz r_k r_r r_p l_z q_z t_t b_l b_b b_n r_t l_l l_b l_n q_l q_b q_n t_le s_cs s_ps s_ha s_en pk ik s_ro s_me s_be s_se s_co pl pb pn il ib im l_a q_a hAd _ rfl) (cwV 0 hts (gV q3_218 q3_220 qs2_14 q1_1 q3_221) rfl rfl rfl hd_X7_cellsWithNumber ⟨Nat.le_of_ble_eq_true rfl, Nat.le_of_ble_eq_true rfl⟩) (va_recv hk.1 hP (ci := 7) (q0 := 0) rfl rfl) rfl hl.1 rfl (Nat.le_of_ble_eq_true rfl) dX7_count_95 ⟨Nat.zero_le _, Nat.zero_le _⟩) hS (fun _ h => h) (fun H locs hP hS => ?_)
              have hP : va_P D vwCl (cw ad cI cL cZ c_sr t_n t_r t_w s_w s_h s_c s_p s_s p_nx p_sz r_k r_r r_p l_z q_z t_t b_l b_b b_n r_t l_l l_b l_n q_l q_b q_n t_le s_cs s_ps s_ha s_en pk ik s_ro s_me s_be s_se s_co pl pb pn il ib im l_a q_a) H := hP
              subst hr
              exact ret_i hx hb hrt hlocks hP hS dX7_count_98
            · have hr := (if_neg c1_5).symm.trans hr
              by_cases c1_6 : p1 = 6
              · have hr := (if_pos c1_6).symm.trans hr
                refine lv_tableIn (tgt := 99) (off := 98) hx hb dX7_count_1 (by rw [c1_6]; decide) (by rw [c1_6]; decide) (by rw [c1_6]; rfl) (by decide) ?_
                refine lv_aload_n hx hb dX7_count_99 rfl (lv_at hl 0 rfl) ?_
                refine va_get (D := D) (ci := 7) (v := .ref (ad 1)) (C := RX7) (T := TX7) (N := 9) hx hb hts u_X7 hown hk.1 hP 0 rfl rfl 0 (by decide) (hts _ q2_77) (fun _ h9 => h9) rfl dX7_count_100 ?_
                refine va_get (D := D) (ci := 6) (v := .int t_n) (C := RX6) (T := TX6) (N := 5) hx hb hts u_X6 hown hk.1 hP 1 rfl rfl 1 (by decide) (hts _ q1_31) (fun _ h9 => h9) rfl dX7_count_103 ?_
                subst hr
                exact ret_i hx hb hrt hlocks hP hS dX7_count_106
              · have hr := (if_neg c1_6).symm.trans hr
                by_cases c1_7 : p1 = 7
                · have hr := (if_pos c1_7).symm.trans hr
                  refine lv_tableIn (tgt := 107) (off := 106) hx hb dX7_count_1 (by rw [c1_7]; decide) (by rw [c1_7]; decide) (by rw [c1_7]; rfl) (by decide) ?_
                  refine lv_aload_n hx hb dX7_count_107 rfl (lv_at hl 0 rfl) ?_
                  refine va_get (D := D) (ci := 7) (v := .ref (ad 14)) (C := RX7) (T := TX7) (N := 9) hx hb hts u_X7 hown hk.1 hP 0 rfl rfl 3 (by decide) (hts _ q2_80) (fun _ h9 => h9) rfl dX7_count_108 ?_
                  refine va_get (D := D) (ci := 2) (v := .int p_sz) (C := RX2) (T := TX2) (N := 3) hx hb hts u_X2 hown hk.1 hP 14 rfl rfl 2 (by decide) (hts _ q1_163) (fun _ h9 => h9) rfl dX7_count_111 ?_
                  subst hr
                  exact ret_i hx hb hrt hlocks hP hS dX7_count_114
                · have hr := (if_neg c1_7).symm.trans hr
                  refine lv_tableOut (tgt := 115) hx hb dX7_count_1 (sw_out8 c1_0 c1_1 c1_2 c1_3 c1_4 c1_5 c1_6 c1_7) (by decide) ?_
                  refine lv_iconst (v := (-1)) hx hb dX7_count_115 (by decide) ?_
                  subst hr
                  exact ret_i hx hb hrt hlocks hP hS dX7_count_116
