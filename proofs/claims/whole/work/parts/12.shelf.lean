theorem hd_X5_has : yX5_has.cls = RX5 ∧ yX5_has.cls ≠ "java/lang/invoke/MethodHandle" ∧ yX5_has.cls ≠ "java/lang/invoke/VarHandle" ∧ (parseMethodDescriptor yX5_has.desc).map (fun d => d.parameters.length) = some 1 := by decide +kernel
def f_X5_has (p1 : Int32) (pk : Nat → Int32) : Int32 := (if (f_X7_at p1 10 pk) = 1 then 1 else 0)
set_option maxHeartbeats 4000000 in
set_option maxRecDepth 100000 in
theorem c_X5_has (l : Launch) (D : va_G) (cI cL cZ : ClassId) (ad : Nat → Nat) (c_sr t_n t_r t_w s_w s_h s_c s_p s_s p_nx p_sz r_k r_r r_p l_z q_z : Int32) (t_t b_l b_b b_n r_t l_l l_b l_n q_l q_b q_n : Int64) (t_le s_cs s_ps s_ha s_en pk ik : Nat → Int32) (s_ro s_me s_be s_se s_co pl pb pn il ib im l_a q_a : Nat → Int64) (hAd : cInj ad) (p1 : Int32) (r : Int32) (hr : f_X5_has p1 pk = r) : MZ l yX5_has (Cond.code yX5_has cX5_has 2 (some .boolean) :: W0) 1 21 D cI cL cZ (cAd ad) [.ref (ad 15), .int p1] (cw ad cI cL cZ c_sr t_n t_r t_w s_w s_h s_c s_p s_s p_nx p_sz r_k r_r r_p l_z q_z t_t b_l b_b b_n r_t l_l l_b l_n q_l q_b q_n t_le s_cs s_ps s_ha s_en pk ik s_ro s_me s_be s_se s_co pl pb pn il ib im l_a q_a) r (cw ad cI cL cZ c_sr t_n t_r t_w s_w s_h s_c s_p s_s p_nx p_sz r_k r_r r_p l_z q_z t_t b_l b_b b_n r_t l_l l_b l_n q_l q_b q_n t_le s_cs s_ps s_ha s_en pk ik s_ro s_me s_be s_se s_co pl pb pn il ib im l_a q_a) := by
  refine mk_start (cc := cX5_has) (maxL := 2) (ret := (some .boolean)) (by decide) rfl (Nat.le_of_ble_eq_true rfl) ?_
  intro p e s m below meth c ls C hP hS hl
  obtain ⟨hx, hb, hml, hrt, hlocks, hown, hts, hk⟩ := C
  have hown : s.vm.findClass RX5 = some m.cls := hown
  have hl : lv_has ls 2 [(0, .ref (ad 15)), (1, .int p1)] := hl
  rw [f_X5_has] at hr
  refine lv_aload_n hx hb dX5_has_0 rfl (lv_at hl 0 rfl) ?_
  refine va_get (D := D) (ci := 5) (v := .ref (ad 19)) (C := RX5) (T := TX5) (N := 4) hx hb hts u_X5 hown hk.1 hP 15 rfl rfl 3 (by decide) (hts _ q1_150) (fun _ h9 => h9) rfl dX5_has_1 ?_
  refine lv_iload_n hx hb dX5_has_4 rfl (lv_at hl 1 rfl) ?_
  refine go_i (ru_N (n := 2) ⟨hx, hb, hml, hown, hts⟩ hk hP (c_X7_at l D cI cL cZ (cAd ad) (cw ad cI cL cZ c_sr t_n t_r t_w s_w s_h s_c s_p s_s p_nx p_sz r_k r_r r_p l_z q_z t_t b_l b_b b_n r_t l_l l_b l_n q_l q_b q_n t_le s_cs s_ps s_ha s_en pk ik s_ro s_me s_be s_se s_co pl pb pn il ib im l_a q_a) 19 (ad 19) 10 _ rfl (cw_D hAd) pk p1 _ rfl (by decide)) ⟨va_cnB 2 hts (gN q2_37) rfl rfl rfl (hk.2 _ nwm_X5_29) (hts _ q1_1) hd_X7_at ⟨Nat.le_of_ble_eq_true rfl, Nat.le_of_ble_eq_true rfl⟩, hts _ q2_36, trivial⟩ rfl hl.1 rfl (Nat.le_of_ble_eq_true rfl) dX5_has_5 ⟨Nat.zero_le _, Nat.zero_le _⟩) hS (fun _ h => h) (fun H locs hP hS => ?_)
  have hP : va_P D vwCl (cw ad cI cL cZ c_sr t_n t_r t_w s_w s_h s_c s_p s_s p_nx p_sz r_k r_r r_p l_z q_z t_t b_l b_b b_n r_t l_l l_b l_n q_l q_b q_n t_le s_cs s_ps s_ha s_en pk ik s_ro s_me s_be s_se s_co pl pb pn il ib im l_a q_a) H := hP
  refine lv_iconst (v := 1) hx hb dX5_has_8 (by decide) ?_
  refine lv_icmp_ne (tgt := 16) hx hb dX5_has_9 (by decide) (fun c9 => ?_) (fun c9 => ?_)
  · have hr := (if_neg c9).symm.trans hr
    refine lv_iconst (v := 0) hx hb dX5_has_16 (by decide) ?_
    subst hr
    exact ret_z hx hb hrt hlocks bz_0 hP hS dX5_has_17
  · have hr := (if_pos c9).symm.trans hr
    refine lv_iconst (v := 1) hx hb dX5_has_12 (by decide) ?_
    refine lv_goto (tgt := 17) hx hb dX5_has_13 (by decide) ?_
    subst hr
    exact ret_z hx hb hrt hlocks bz_1 hP hS dX5_has_17
theorem hd_X5_store : yX5_store.cls = RX5 ∧ yX5_store.cls ≠ "java/lang/invoke/MethodHandle" ∧ yX5_store.cls ≠ "java/lang/invoke/VarHandle" ∧ (parseMethodDescriptor yX5_store.desc).map (fun d => d.parameters.length) = some 2 := by decide +kernel
def f_X5_store (p1 : Int32) (b_l : Int64) (b_b : Int64) (b_n : Int64) (pk : Nat → Int32) (pl : Nat → Int64) (pb : Nat → Int64) (pn : Nat → Int64) : (Nat → Int32) × (Nat → Int64) × (Nat → Int64) × (Nat → Int64) := (f_X7_put p1 1 10 pk, f_X7_put_ p1 b_l 10 pl, f_X7_put_ p1 b_b 10 pb, f_X7_put_ p1 b_n 10 pn)
set_option maxHeartbeats 4000000 in
set_option maxRecDepth 100000 in
theorem c_X5_store (l : Launch) (D : va_G) (cI cL cZ : ClassId) (ad : Nat → Nat) (c_sr t_n t_r t_w s_w s_h s_c s_p s_s p_nx p_sz r_k r_r r_p l_z q_z : Int32) (t_t b_l b_b b_n r_t l_l l_b l_n q_l q_b q_n : Int64) (t_le s_cs s_ps s_ha s_en pk ik : Nat → Int32) (s_ro s_me s_be s_se s_co pl pb pn il ib im l_a q_a : Nat → Int64) (hAd : cInj ad) (p1 : Int32) (r : (Nat → Int32) × (Nat → Int64) × (Nat → Int64) × (Nat → Int64)) (hr : f_X5_store p1 b_l b_b b_n pk pl pb pn = r) : MV l yX5_store (Cond.code yX5_store cX5_store 3 none :: W0) 1 23 D cI cL cZ (cAd ad) [.ref (ad 15), .int p1, .ref (ad 13)] (cw ad cI cL cZ c_sr t_n t_r t_w s_w s_h s_c s_p s_s p_nx p_sz r_k r_r r_p l_z q_z t_t b_l b_b b_n r_t l_l l_b l_n q_l q_b q_n t_le s_cs s_ps s_ha s_en pk ik s_ro s_me s_be s_se s_co pl pb pn il ib im l_a q_a) (cw ad cI cL cZ c_sr t_n t_r t_w s_w s_h s_c s_p s_s p_nx p_sz r_k r_r r_p l_z q_z t_t b_l b_b b_n r_t l_l l_b l_n q_l q_b q_n t_le s_cs s_ps s_ha s_en r.1 ik s_ro s_me s_be s_se s_co r.2.1 r.2.2.1 r.2.2.2 il ib im l_a q_a) := by
  refine mk_start (cc := cX5_store) (maxL := 3) (ret := none) (by decide) rfl (Nat.le_of_ble_eq_true rfl) ?_
  intro p e s m below meth c ls C hP hS hl
  obtain ⟨hx, hb, hml, hrt, hlocks, hown, hts, hk⟩ := C
  have hown : s.vm.findClass RX5 = some m.cls := hown
  have hl : lv_has ls 3 [(0, .ref (ad 15)), (1, .int p1), (2, .ref (ad 13))] := hl
  rw [f_X5_store] at hr
  refine lv_aload_n hx hb dX5_store_0 rfl (lv_at hl 0 rfl) ?_
  refine va_get (D := D) (ci := 5) (v := .ref (ad 16)) (C := RX5) (T := TX5) (N := 4) hx hb hts u_X5 hown hk.1 hP 15 rfl rfl 0 (by decide) (hts _ q1_147) (fun _ h9 => h9) rfl dX5_store_1 ?_
  refine lv_iload_n hx hb dX5_store_4 rfl (lv_at hl 1 rfl) ?_
  refine lv_aload_n hx hb dX5_store_5 rfl (lv_at hl 2 rfl) ?_
  refine va_get (D := D) (ci := 0) (v := .long b_l) (C := RX0) (T := TX0) (N := 3) hx hb hts u_X0 hown hk.1 hP 13 rfl rfl 0 (by decide) (hts _ q1_115) (fun _ h9 => h9) rfl dX5_store_6 ?_
  refine go_v (ru_N (n := 3) ⟨hx, hb, hml, hown, hts⟩ hk hP (c_X7_put_ l D cI cL cZ (cAd ad) (cw ad cI cL cZ c_sr t_n t_r t_w s_w s_h s_c s_p s_s p_nx p_sz r_k r_r r_p l_z q_z t_t b_l b_b b_n r_t l_l l_b l_n q_l q_b q_n t_le s_cs s_ps s_ha s_en pk ik s_ro s_me s_be s_se s_co pl pb pn il ib im l_a q_a) 16 (ad 16) 10 _ rfl (cw_D hAd) pl p1 b_l _ rfl (by decide)) ⟨va_cnB 3 hts (gN q2_23) rfl rfl rfl (hk.2 _ nwm_X5_40) (hts _ q1_1) hd_X7_put_ ⟨Nat.le_of_ble_eq_true rfl, Nat.le_of_ble_eq_true rfl⟩, hts _ q2_22, trivial⟩ rfl hl.1 rfl (Nat.le_of_ble_eq_true rfl) dX5_store_9 ⟨Nat.zero_le _, Nat.zero_le _⟩) hS (fun _ h => h) (fun H locs hP hS => ?_)
  have hP : va_P D vwCl (cw ad cI cL cZ c_sr t_n t_r t_w s_w s_h s_c s_p s_s p_nx p_sz r_k r_r r_p l_z q_z t_t b_l b_b b_n r_t l_l l_b l_n q_l q_b q_n t_le s_cs s_ps s_ha s_en pk ik s_ro s_me s_be s_se s_co (f_X7_put_ p1 b_l 10 pl) pb pn il ib im l_a q_a) H := hP
  refine lv_aload_n hx hb dX5_store_12 rfl (lv_at hl 0 rfl) ?_
  refine va_get (D := D) (ci := 5) (v := .ref (ad 17)) (C := RX5) (T := TX5) (N := 4) hx hb hts u_X5 hown hk.1 hP 15 rfl rfl 1 (by decide) (hts _ q1_148) (fun _ h9 => h9) rfl dX5_store_13 ?_
  refine lv_iload_n hx hb dX5_store_16 rfl (lv_at hl 1 rfl) ?_
  refine lv_aload_n hx hb dX5_store_17 rfl (lv_at hl 2 rfl) ?_
  refine va_get (D := D) (ci := 0) (v := .long b_b) (C := RX0) (T := TX0) (N := 3) hx hb hts u_X0 hown hk.1 hP 13 rfl rfl 1 (by decide) (hts _ q1_119) (fun _ h9 => h9) rfl dX5_store_18 ?_
  refine go_v (ru_N (n := 3) ⟨hx, hb, hml, hown, hts⟩ hk hP (c_X7_put_ l D cI cL cZ (cAd ad) (cw ad cI cL cZ c_sr t_n t_r t_w s_w s_h s_c s_p s_s p_nx p_sz r_k r_r r_p l_z q_z t_t b_l b_b b_n r_t l_l l_b l_n q_l q_b q_n t_le s_cs s_ps s_ha s_en pk ik s_ro s_me s_be s_se s_co (f_X7_put_ p1 b_l 10 pl) pb pn il ib im l_a q_a) 17 (ad 17) 10 _ rfl (cw_D hAd) pb p1 b_b _ rfl (by decide)) ⟨va_cnB 3 hts (gN q2_23) rfl rfl rfl (hk.2 _ nwm_X5_40) (hts _ q1_1) hd_X7_put_ ⟨Nat.le_of_ble_eq_true rfl, Nat.le_of_ble_eq_true rfl⟩, hts _ q2_22, trivial⟩ rfl hl.1 rfl (Nat.le_of_ble_eq_true rfl) dX5_store_21 ⟨Nat.zero_le _, Nat.zero_le _⟩) hS (fun _ h => h) (fun H locs hP hS => ?_)
  have hP : va_P D vwCl (cw ad cI cL cZ c_sr t_n t_r t_w s_w s_h s_c s_p s_s p_nx p_sz r_k r_r r_p l_z q_z t_t b_l b_b b_n r_t l_l l_b l_n q_l q_b q_n t_le s_cs s_ps s_ha s_en pk ik s_ro s_me s_be s_se s_co (f_X7_put_ p1 b_l 10 pl) (f_X7_put_ p1 b_b 10 pb) pn il ib im l_a q_a) H := hP
  refine lv_aload_n hx hb dX5_store_24 rfl (lv_at hl 0 rfl) ?_
  refine va_get (D := D) (ci := 5) (v := .ref (ad 18)) (C := RX5) (T := TX5) (N := 4) hx hb hts u_X5 hown hk.1 hP 15 rfl rfl 2 (by decide) (hts _ q1_149) (fun _ h9 => h9) rfl dX5_store_25 ?_
  refine lv_iload_n hx hb dX5_store_28 rfl (lv_at hl 1 rfl) ?_
  refine lv_aload_n hx hb dX5_store_29 rfl (lv_at hl 2 rfl) ?_
  refine va_get (D := D) (ci := 0) (v := .long b_n) (C := RX0) (T := TX0) (N := 3) hx hb hts u_X0 hown hk.1 hP 13 rfl rfl 2 (by decide) (hts _ q1_123) (fun _ h9 => h9) rfl dX5_store_30 ?_
  refine go_v (ru_N (n := 3) ⟨hx, hb, hml, hown, hts⟩ hk hP (c_X7_put_ l D cI cL cZ (cAd ad) (cw ad cI cL cZ c_sr t_n t_r t_w s_w s_h s_c s_p s_s p_nx p_sz r_k r_r r_p l_z q_z t_t b_l b_b b_n r_t l_l l_b l_n q_l q_b q_n t_le s_cs s_ps s_ha s_en pk ik s_ro s_me s_be s_se s_co (f_X7_put_ p1 b_l 10 pl) (f_X7_put_ p1 b_b 10 pb) pn il ib im l_a q_a) 18 (ad 18) 10 _ rfl (cw_D hAd) pn p1 b_n _ rfl (by decide)) ⟨va_cnB 3 hts (gN q2_23) rfl rfl rfl (hk.2 _ nwm_X5_40) (hts _ q1_1) hd_X7_put_ ⟨Nat.le_of_ble_eq_true rfl, Nat.le_of_ble_eq_true rfl⟩, hts _ q2_22, trivial⟩ rfl hl.1 rfl (Nat.le_of_ble_eq_true rfl) dX5_store_33 ⟨Nat.zero_le _, Nat.zero_le _⟩) hS (fun _ h => h) (fun H locs hP hS => ?_)
  have hP : va_P D vwCl (cw ad cI cL cZ c_sr t_n t_r t_w s_w s_h s_c s_p s_s p_nx p_sz r_k r_r r_p l_z q_z t_t b_l b_b b_n r_t l_l l_b l_n q_l q_b q_n t_le s_cs s_ps s_ha s_en pk ik s_ro s_me s_be s_se s_co (f_X7_put_ p1 b_l 10 pl) (f_X7_put_ p1 b_b 10 pb) (f_X7_put_ p1 b_n 10 pn) il ib im l_a q_a) H := hP
  refine lv_aload_n hx hb dX5_store_36 rfl (lv_at hl 0 rfl) ?_
  refine va_get (D := D) (ci := 5) (v := .ref (ad 19)) (C := RX5) (T := TX5) (N := 4) hx hb hts u_X5 hown hk.1 hP 15 rfl rfl 3 (by decide) (hts _ q1_150) (fun _ h9 => h9) rfl dX5_store_37 ?_
  refine lv_iload_n hx hb dX5_store_40 rfl (lv_at hl 1 rfl) ?_
  refine lv_iconst (v := 1) hx hb dX5_store_41 (by decide) ?_
  refine go_v (ru_N (n := 3) ⟨hx, hb, hml, hown, hts⟩ hk hP (c_X7_put l D cI cL cZ (cAd ad) (cw ad cI cL cZ c_sr t_n t_r t_w s_w s_h s_c s_p s_s p_nx p_sz r_k r_r r_p l_z q_z t_t b_l b_b b_n r_t l_l l_b l_n q_l q_b q_n t_le s_cs s_ps s_ha s_en pk ik s_ro s_me s_be s_se s_co (f_X7_put_ p1 b_l 10 pl) (f_X7_put_ p1 b_b 10 pb) (f_X7_put_ p1 b_n 10 pn) il ib im l_a q_a) 19 (ad 19) 10 _ rfl (cw_D hAd) pk p1 1 _ rfl (by decide)) ⟨va_cnB 3 hts (gN q2_13) rfl rfl rfl (hk.2 _ nwm_X5_48) (hts _ q1_1) hd_X7_put ⟨Nat.le_of_ble_eq_true rfl, Nat.le_of_ble_eq_true rfl⟩, hts _ q2_12, trivial⟩ rfl hl.1 rfl (Nat.le_of_ble_eq_true rfl) dX5_store_42 ⟨Nat.zero_le _, Nat.zero_le _⟩) hS (fun _ h => h) (fun H locs hP hS => ?_)
  have hP : va_P D vwCl (cw ad cI cL cZ c_sr t_n t_r t_w s_w s_h s_c s_p s_s p_nx p_sz r_k r_r r_p l_z q_z t_t b_l b_b b_n r_t l_l l_b l_n q_l q_b q_n t_le s_cs s_ps s_ha s_en (f_X7_put p1 1 10 pk) ik s_ro s_me s_be s_se s_co (f_X7_put_ p1 b_l 10 pl) (f_X7_put_ p1 b_b 10 pb) (f_X7_put_ p1 b_n 10 pn) il ib im l_a q_a) H := hP
  subst hr
  exact ret_v hx hb hrt hlocks hP hS dX5_store_45
theorem hd_X5_give : yX5_give.cls = RX5 ∧ yX5_give.cls ≠ "java/lang/invoke/MethodHandle" ∧ yX5_give.cls ≠ "java/lang/invoke/VarHandle" ∧ (parseMethodDescriptor yX5_give.desc).map (fun d => d.parameters.length) = some 2 := by decide +kernel
def f_X5_give (p1 : Int32) (pl : Nat → Int64) (pb : Nat → Int64) (pn : Nat → Int64) : Int64 × Int64 × Int64 := (bd (f_X0_become (f_X7_at_ p1 10 pl) (f_X7_at_ p1 10 pb) (f_X7_at_ p1 10 pn)) (fun u1 => (u1.1, u1.2.1, u1.2.2)))
set_option maxHeartbeats 4000000 in
set_option maxRecDepth 100000 in
theorem c_X5_give (l : Launch) (D : va_G) (cI cL cZ : ClassId) (ad : Nat → Nat) (c_sr t_n t_r t_w s_w s_h s_c s_p s_s p_nx p_sz r_k r_r r_p l_z q_z : Int32) (t_t b_l b_b b_n r_t l_l l_b l_n q_l q_b q_n : Int64) (t_le s_cs s_ps s_ha s_en pk ik : Nat → Int32) (s_ro s_me s_be s_se s_co pl pb pn il ib im l_a q_a : Nat → Int64) (hAd : cInj ad) (p1 : Int32) (r : Int64 × Int64 × Int64) (hr : f_X5_give p1 pl pb pn = r) : MV l yX5_give (Cond.code yX5_give cX5_give 3 none :: W0) 1 26 D cI cL cZ (cAd ad) [.ref (ad 15), .int p1, .ref (ad 13)] (cw ad cI cL cZ c_sr t_n t_r t_w s_w s_h s_c s_p s_s p_nx p_sz r_k r_r r_p l_z q_z t_t b_l b_b b_n r_t l_l l_b l_n q_l q_b q_n t_le s_cs s_ps s_ha s_en pk ik s_ro s_me s_be s_se s_co pl pb pn il ib im l_a q_a) (cw ad cI cL cZ c_sr t_n t_r t_w s_w s_h s_c s_p s_s p_nx p_sz r_k r_r r_p l_z q_z t_t r.1 r.2.1 r.2.2 r_t l_l l_b l_n q_l q_b q_n t_le s_cs s_ps s_ha s_en pk ik s_ro s_me s_be s_se s_co pl pb pn il ib im l_a q_a) := by
  refine mk_start (cc := cX5_give) (maxL := 3) (ret := none) (by decide) rfl (Nat.le_of_ble_eq_true rfl) ?_
  intro p e s m below meth c ls C hP hS hl
  obtain ⟨hx, hb, hml, hrt, hlocks, hown, hts, hk⟩ := C
  have hown : s.vm.findClass RX5 = some m.cls := hown
  have hl : lv_has ls 3 [(0, .ref (ad 15)), (1, .int p1), (2, .ref (ad 13))] := hl
  rw [f_X5_give] at hr
  refine lv_aload_n hx hb dX5_give_0 rfl (lv_at hl 2 rfl) ?_
  refine lv_aload_n hx hb dX5_give_1 rfl (lv_at hl 0 rfl) ?_
  refine va_get (D := D) (ci := 5) (v := .ref (ad 16)) (C := RX5) (T := TX5) (N := 4) hx hb hts u_X5 hown hk.1 hP 15 rfl rfl 0 (by decide) (hts _ q1_147) (fun _ h9 => h9) rfl dX5_give_2 ?_
  refine lv_iload_n hx hb dX5_give_5 rfl (lv_at hl 1 rfl) ?_
  refine go_l (ru_N (n := 2) ⟨hx, hb, hml, hown, hts⟩ hk hP (c_X7_at_ l D cI cL cZ (cAd ad) (cw ad cI cL cZ c_sr t_n t_r t_w s_w s_h s_c s_p s_s p_nx p_sz r_k r_r r_p l_z q_z t_t b_l b_b b_n r_t l_l l_b l_n q_l q_b q_n t_le s_cs s_ps s_ha s_en pk ik s_ro s_me s_be s_se s_co pl pb pn il ib im l_a q_a) 16 (ad 16) 10 _ rfl (cw_D hAd) pl p1 _ rfl (by decide)) ⟨va_cnB 2 hts (gN q3_95) rfl rfl rfl (hk.2 _ nwm_X5_51) (hts _ q1_1) hd_X7_at_ ⟨Nat.le_of_ble_eq_true rfl, Nat.le_of_ble_eq_true rfl⟩, hts _ q3_94, trivial⟩ rfl hl.1 rfl (Nat.le_of_ble_eq_true rfl) dX5_give_6 ⟨Nat.zero_le _, Nat.zero_le _⟩) hS (fun _ h => h) (fun H locs hP hS => ?_)
  have hP : va_P D vwCl (cw ad cI cL cZ c_sr t_n t_r t_w s_w s_h s_c s_p s_s p_nx p_sz r_k r_r r_p l_z q_z t_t b_l b_b b_n r_t l_l l_b l_n q_l q_b q_n t_le s_cs s_ps s_ha s_en pk ik s_ro s_me s_be s_se s_co pl pb pn il ib im l_a q_a) H := hP
  refine lv_aload_n hx hb dX5_give_9 rfl (lv_at hl 0 rfl) ?_
  refine va_get (D := D) (ci := 5) (v := .ref (ad 17)) (C := RX5) (T := TX5) (N := 4) hx hb hts u_X5 hown hk.1 hP 15 rfl rfl 1 (by decide) (hts _ q1_148) (fun _ h9 => h9) rfl dX5_give_10 ?_
  refine lv_iload_n hx hb dX5_give_13 rfl (lv_at hl 1 rfl) ?_
  refine go_l (ru_N (n := 2) ⟨hx, hb, hml, hown, hts⟩ hk hP (c_X7_at_ l D cI cL cZ (cAd ad) (cw ad cI cL cZ c_sr t_n t_r t_w s_w s_h s_c s_p s_s p_nx p_sz r_k r_r r_p l_z q_z t_t b_l b_b b_n r_t l_l l_b l_n q_l q_b q_n t_le s_cs s_ps s_ha s_en pk ik s_ro s_me s_be s_se s_co pl pb pn il ib im l_a q_a) 17 (ad 17) 10 _ rfl (cw_D hAd) pb p1 _ rfl (by decide)) ⟨va_cnB 2 hts (gN q3_95) rfl rfl rfl (hk.2 _ nwm_X5_51) (hts _ q1_1) hd_X7_at_ ⟨Nat.le_of_ble_eq_true rfl, Nat.le_of_ble_eq_true rfl⟩, hts _ q3_94, trivial⟩ rfl hl.1 rfl (Nat.le_of_ble_eq_true rfl) dX5_give_14 ⟨Nat.zero_le _, Nat.zero_le _⟩) hS (fun _ h => h) (fun H locs hP hS => ?_)
  have hP : va_P D vwCl (cw ad cI cL cZ c_sr t_n t_r t_w s_w s_h s_c s_p s_s p_nx p_sz r_k r_r r_p l_z q_z t_t b_l b_b b_n r_t l_l l_b l_n q_l q_b q_n t_le s_cs s_ps s_ha s_en pk ik s_ro s_me s_be s_se s_co pl pb pn il ib im l_a q_a) H := hP
  refine lv_aload_n hx hb dX5_give_17 rfl (lv_at hl 0 rfl) ?_
  refine va_get (D := D) (ci := 5) (v := .ref (ad 18)) (C := RX5) (T := TX5) (N := 4) hx hb hts u_X5 hown hk.1 hP 15 rfl rfl 2 (by decide) (hts _ q1_149) (fun _ h9 => h9) rfl dX5_give_18 ?_
  refine lv_iload_n hx hb dX5_give_21 rfl (lv_at hl 1 rfl) ?_
  refine go_l (ru_N (n := 2) ⟨hx, hb, hml, hown, hts⟩ hk hP (c_X7_at_ l D cI cL cZ (cAd ad) (cw ad cI cL cZ c_sr t_n t_r t_w s_w s_h s_c s_p s_s p_nx p_sz r_k r_r r_p l_z q_z t_t b_l b_b b_n r_t l_l l_b l_n q_l q_b q_n t_le s_cs s_ps s_ha s_en pk ik s_ro s_me s_be s_se s_co pl pb pn il ib im l_a q_a) 18 (ad 18) 10 _ rfl (cw_D hAd) pn p1 _ rfl (by decide)) ⟨va_cnB 2 hts (gN q3_95) rfl rfl rfl (hk.2 _ nwm_X5_51) (hts _ q1_1) hd_X7_at_ ⟨Nat.le_of_ble_eq_true rfl, Nat.le_of_ble_eq_true rfl⟩, hts _ q3_94, trivial⟩ rfl hl.1 rfl (Nat.le_of_ble_eq_true rfl) dX5_give_22 ⟨Nat.zero_le _, Nat.zero_le _⟩) hS (fun _ h => h) (fun H locs hP hS => ?_)
  have hP : va_P D vwCl (cw ad cI cL cZ c_sr t_n t_r t_w s_w s_h s_c s_p s_s p_nx p_sz r_k r_r r_p l_z q_z t_t b_l b_b b_n r_t l_l l_b l_n q_l q_b q_n t_le s_cs s_ps s_ha s_en pk ik s_ro s_me s_be s_se s_co pl pb pn il ib im l_a q_a) H := hP
  obtain ⟨u1, hu1⟩ : ∃ z, f_X0_become (f_X7_at_ p1 10 pl) (f_X7_at_ p1 10 pb) (f_X7_at_ p1 10 pn) = z := ⟨_, rfl⟩
  have hr := (bd_eq hu1).symm.trans hr
  refine go_v (ru_V (n := 3) ⟨hx, hb, hml, hown, hts⟩ hk hP (c_X0_become l D cI cL cZ ad c_sr t_n t_r t_w s_w s_h s_c s_p s_s p_nx p_sz r_k r_r r_p l_z q_z t_t b_l b_b b_n r_t l_l l_b l_n q_l q_b q_n t_le s_cs s_ps s_ha s_en pk ik s_ro s_me s_be s_se s_co pl pb pn il ib im l_a q_a hAd (f_X7_at_ p1 10 pl) (f_X7_at_ p1 10 pb) (f_X7_at_ p1 10 pn) _ hu1) (cwV 3 hts (gV q3_96 q2_143 q2_144 q1_4 q2_145) rfl rfl rfl hd_X0_become ⟨Nat.le_of_ble_eq_true rfl, Nat.le_of_ble_eq_true rfl⟩) (va_recv hk.1 hP (ci := 0) (q0 := 13) rfl rfl) rfl hl.1 rfl (Nat.le_of_ble_eq_true rfl) dX5_give_25 ⟨Nat.zero_le _, Nat.zero_le _⟩) hS (fun _ h => h) (fun H locs hP hS => ?_)
  have hP : va_P D vwCl (cw ad cI cL cZ c_sr t_n t_r t_w s_w s_h s_c s_p s_s p_nx p_sz r_k r_r r_p l_z q_z t_t u1.1 u1.2.1 u1.2.2 r_t l_l l_b l_n q_l q_b q_n t_le s_cs s_ps s_ha s_en pk ik s_ro s_me s_be s_se s_co pl pb pn il ib im l_a q_a) H := hP
  subst hr
  exact ret_v hx hb hrt hlocks hP hS dX5_give_28
theorem hd_X5_forget : yX5_forget.cls = RX5 ∧ yX5_forget.cls ≠ "java/lang/invoke/MethodHandle" ∧ yX5_forget.cls ≠ "java/lang/invoke/VarHandle" ∧ (parseMethodDescriptor yX5_forget.desc).map (fun d => d.parameters.length) = some 0 := by decide +kernel
def f_X5_forget (pk : Nat → Int32) : (Nat → Int32) := f_J7_fill_53178 0 10 pk
set_option maxHeartbeats 4000000 in
set_option maxRecDepth 100000 in
theorem c_X5_forget (l : Launch) (D : va_G) (cI cL cZ : ClassId) (ad : Nat → Nat) (c_sr t_n t_r t_w s_w s_h s_c s_p s_s p_nx p_sz r_k r_r r_p l_z q_z : Int32) (t_t b_l b_b b_n r_t l_l l_b l_n q_l q_b q_n : Int64) (t_le s_cs s_ps s_ha s_en pk ik : Nat → Int32) (s_ro s_me s_be s_se s_co pl pb pn il ib im l_a q_a : Nat → Int64) (hAd : cInj ad) (r : (Nat → Int32)) (hr : f_X5_forget pk = r) : MV l yX5_forget (Cond.code yX5_forget cX5_forget 1 none :: W0) 1 23 D cI cL cZ (cAd ad) [.ref (ad 15)] (cw ad cI cL cZ c_sr t_n t_r t_w s_w s_h s_c s_p s_s p_nx p_sz r_k r_r r_p l_z q_z t_t b_l b_b b_n r_t l_l l_b l_n q_l q_b q_n t_le s_cs s_ps s_ha s_en pk ik s_ro s_me s_be s_se s_co pl pb pn il ib im l_a q_a) (cw ad cI cL cZ c_sr t_n t_r t_w s_w s_h s_c s_p s_s p_nx p_sz r_k r_r r_p l_z q_z t_t b_l b_b b_n r_t l_l l_b l_n q_l q_b q_n t_le s_cs s_ps s_ha s_en r ik s_ro s_me s_be s_se s_co pl pb pn il ib im l_a q_a) := by
  refine mk_start (cc := cX5_forget) (maxL := 1) (ret := none) (by decide) rfl (Nat.le_of_ble_eq_true rfl) ?_
  intro p e s m below meth c ls C hP hS hl
  obtain ⟨hx, hb, hml, hrt, hlocks, hown, hts, hk⟩ := C
  have hown : s.vm.findClass RX5 = some m.cls := hown
  have hl : lv_has ls 1 [(0, .ref (ad 15))] := hl
  rw [f_X5_forget] at hr
  refine lv_aload_n hx hb dX5_forget_0 rfl (lv_at hl 0 rfl) ?_
  refine va_get (D := D) (ci := 5) (v := .ref (ad 19)) (C := RX5) (T := TX5) (N := 4) hx hb hts u_X5 hown hk.1 hP 15 rfl rfl 3 (by decide) (hts _ q1_150) (fun _ h9 => h9) rfl dX5_forget_1 ?_
  refine lv_iconst (v := 0) hx hb dX5_forget_4 (by decide) ?_
  refine go_v (ru_S (n := 2) ⟨hx, hb, hml, hown, hts⟩ hk hP (c_J7_fill_53178 l D cI cL cZ (cAd ad) (cw ad cI cL cZ c_sr t_n t_r t_w s_w s_h s_c s_p s_s p_nx p_sz r_k r_r r_p l_z q_z t_t b_l b_b b_n r_t l_l l_b l_n q_l q_b q_n t_le s_cs s_ps s_ha s_en pk ik s_ro s_me s_be s_se s_co pl pb pn il ib im l_a q_a) 19 (ad 19) 10 _ rfl (cw_D hAd) pk 0 _ rfl (by decide)) (va_cwS 2 hts (gS q2_154 q1_234 q1_10 q1_235) rfl rfl rfl hd_J7_fill_53178 ⟨Nat.le_of_ble_eq_true rfl, Nat.le_of_ble_eq_true rfl⟩) rfl hl.1 rfl (Nat.le_of_ble_eq_true rfl) dX5_forget_5 ⟨Nat.zero_le _, Nat.zero_le _⟩) hS (fun _ h => h) (fun H locs hP hS => ?_)
  have hP : va_P D vwCl (cw ad cI cL cZ c_sr t_n t_r t_w s_w s_h s_c s_p s_s p_nx p_sz r_k r_r r_p l_z q_z t_t b_l b_b b_n r_t l_l l_b l_n q_l q_b q_n t_le s_cs s_ps s_ha s_en (f_J7_fill_53178 0 10 pk) ik s_ro s_me s_be s_se s_co pl pb pn il ib im l_a q_a) H := hP
  subst hr
  exact ret_v hx hb hrt hlocks hP hS dX5_forget_8
def f_X5_has_b (p1 : Int32) (ik : Nat → Int32) : Int32 := (if (f_X7_at p1 2 ik) = 1 then 1 else 0)
set_option maxHeartbeats 4000000 in
set_option maxRecDepth 100000 in
theorem c_X5_has_b (l : Launch) (D : va_G) (cI cL cZ : ClassId) (ad : Nat → Nat) (c_sr t_n t_r t_w s_w s_h s_c s_p s_s p_nx p_sz r_k r_r r_p l_z q_z : Int32) (t_t b_l b_b b_n r_t l_l l_b l_n q_l q_b q_n : Int64) (t_le s_cs s_ps s_ha s_en pk ik : Nat → Int32) (s_ro s_me s_be s_se s_co pl pb pn il ib im l_a q_a : Nat → Int64) (hAd : cInj ad) (p1 : Int32) (r : Int32) (hr : f_X5_has_b p1 ik = r) : MZ l yX5_has (Cond.code yX5_has cX5_has 2 (some .boolean) :: W0) 1 21 D cI cL cZ (cAd ad) [.ref (ad 20), .int p1] (cw ad cI cL cZ c_sr t_n t_r t_w s_w s_h s_c s_p s_s p_nx p_sz r_k r_r r_p l_z q_z t_t b_l b_b b_n r_t l_l l_b l_n q_l q_b q_n t_le s_cs s_ps s_ha s_en pk ik s_ro s_me s_be s_se s_co pl pb pn il ib im l_a q_a) r (cw ad cI cL cZ c_sr t_n t_r t_w s_w s_h s_c s_p s_s p_nx p_sz r_k r_r r_p l_z q_z t_t b_l b_b b_n r_t l_l l_b l_n q_l q_b q_n t_le s_cs s_ps s_ha s_en pk ik s_ro s_me s_be s_se s_co pl pb pn il ib im l_a q_a) := by
  refine mk_start (cc := cX5_has) (maxL := 2) (ret := (some .boolean)) (by decide) rfl (Nat.le_of_ble_eq_true rfl) ?_
  intro p e s m below meth c ls C hP hS hl
  obtain ⟨hx, hb, hml, hrt, hlocks, hown, hts, hk⟩ := C
  have hown : s.vm.findClass RX5 = some m.cls := hown
  have hl : lv_has ls 2 [(0, .ref (ad 20)), (1, .int p1)] := hl
  rw [f_X5_has_b] at hr
  refine lv_aload_n hx hb dX5_has_0 rfl (lv_at hl 0 rfl) ?_
  refine va_get (D := D) (ci := 5) (v := .ref (ad 24)) (C := RX5) (T := TX5) (N := 4) hx hb hts u_X5 hown hk.1 hP 20 rfl rfl 3 (by decide) (hts _ q1_150) (fun _ h9 => h9) rfl dX5_has_1 ?_
  refine lv_iload_n hx hb dX5_has_4 rfl (lv_at hl 1 rfl) ?_
  refine go_i (ru_N (n := 2) ⟨hx, hb, hml, hown, hts⟩ hk hP (c_X7_at l D cI cL cZ (cAd ad) (cw ad cI cL cZ c_sr t_n t_r t_w s_w s_h s_c s_p s_s p_nx p_sz r_k r_r r_p l_z q_z t_t b_l b_b b_n r_t l_l l_b l_n q_l q_b q_n t_le s_cs s_ps s_ha s_en pk ik s_ro s_me s_be s_se s_co pl pb pn il ib im l_a q_a) 24 (ad 24) 2 _ rfl (cw_D hAd) ik p1 _ rfl (by decide)) ⟨va_cnB 2 hts (gN q2_37) rfl rfl rfl (hk.2 _ nwm_X5_29) (hts _ q1_1) hd_X7_at ⟨Nat.le_of_ble_eq_true rfl, Nat.le_of_ble_eq_true rfl⟩, hts _ q2_36, trivial⟩ rfl hl.1 rfl (Nat.le_of_ble_eq_true rfl) dX5_has_5 ⟨Nat.zero_le _, Nat.zero_le _⟩) hS (fun _ h => h) (fun H locs hP hS => ?_)
  have hP : va_P D vwCl (cw ad cI cL cZ c_sr t_n t_r t_w s_w s_h s_c s_p s_s p_nx p_sz r_k r_r r_p l_z q_z t_t b_l b_b b_n r_t l_l l_b l_n q_l q_b q_n t_le s_cs s_ps s_ha s_en pk ik s_ro s_me s_be s_se s_co pl pb pn il ib im l_a q_a) H := hP
  refine lv_iconst (v := 1) hx hb dX5_has_8 (by decide) ?_
  refine lv_icmp_ne (tgt := 16) hx hb dX5_has_9 (by decide) (fun c9 => ?_) (fun c9 => ?_)
  · have hr := (if_neg c9).symm.trans hr
    refine lv_iconst (v := 0) hx hb dX5_has_16 (by decide) ?_
    subst hr
    exact ret_z hx hb hrt hlocks bz_0 hP hS dX5_has_17
  · have hr := (if_pos c9).symm.trans hr
    refine lv_iconst (v := 1) hx hb dX5_has_12 (by decide) ?_
    refine lv_goto (tgt := 17) hx hb dX5_has_13 (by decide) ?_
    subst hr
    exact ret_z hx hb hrt hlocks bz_1 hP hS dX5_has_17
def f_X5_store_b (p1 : Int32) (b_l : Int64) (b_b : Int64) (b_n : Int64) (ik : Nat → Int32) (il : Nat → Int64) (ib : Nat → Int64) (im : Nat → Int64) : (Nat → Int32) × (Nat → Int64) × (Nat → Int64) × (Nat → Int64) := (f_X7_put p1 1 2 ik, f_X7_put_ p1 b_l 2 il, f_X7_put_ p1 b_b 2 ib, f_X7_put_ p1 b_n 2 im)
set_option maxHeartbeats 4000000 in
set_option maxRecDepth 100000 in
theorem c_X5_store_b (l : Launch) (D : va_G) (cI cL cZ : ClassId) (ad : Nat → Nat) (c_sr t_n t_r t_w s_w s_h s_c s_p s_s p_nx p_sz r_k r_r r_p l_z q_z : Int32) (t_t b_l b_b b_n r_t l_l l_b l_n q_l q_b q_n : Int64) (t_le s_cs s_ps s_ha s_en pk ik : Nat → Int32) (s_ro s_me s_be s_se s_co pl pb pn il ib im l_a q_a : Nat → Int64) (hAd : cInj ad) (p1 : Int32) (r : (Nat → Int32) × (Nat → Int64) × (Nat → Int64) × (Nat → Int64)) (hr : f_X5_store_b p1 b_l b_b b_n ik il ib im = r) : MV l yX5_store (Cond.code yX5_store cX5_store 3 none :: W0) 1 23 D cI cL cZ (cAd ad) [.ref (ad 20), .int p1, .ref (ad 13)] (cw ad cI cL cZ c_sr t_n t_r t_w s_w s_h s_c s_p s_s p_nx p_sz r_k r_r r_p l_z q_z t_t b_l b_b b_n r_t l_l l_b l_n q_l q_b q_n t_le s_cs s_ps s_ha s_en pk ik s_ro s_me s_be s_se s_co pl pb pn il ib im l_a q_a) (cw ad cI cL cZ c_sr t_n t_r t_w s_w s_h s_c s_p s_s p_nx p_sz r_k r_r r_p l_z q_z t_t b_l b_b b_n r_t l_l l_b l_n q_l q_b q_n t_le s_cs s_ps s_ha s_en pk r.1 s_ro s_me s_be s_se s_co pl pb pn r.2.1 r.2.2.1 r.2.2.2 l_a q_a) := by
  refine mk_start (cc := cX5_store) (maxL := 3) (ret := none) (by decide) rfl (Nat.le_of_ble_eq_true rfl) ?_
  intro p e s m below meth c ls C hP hS hl
  obtain ⟨hx, hb, hml, hrt, hlocks, hown, hts, hk⟩ := C
  have hown : s.vm.findClass RX5 = some m.cls := hown
  have hl : lv_has ls 3 [(0, .ref (ad 20)), (1, .int p1), (2, .ref (ad 13))] := hl
  rw [f_X5_store_b] at hr
  refine lv_aload_n hx hb dX5_store_0 rfl (lv_at hl 0 rfl) ?_
  refine va_get (D := D) (ci := 5) (v := .ref (ad 21)) (C := RX5) (T := TX5) (N := 4) hx hb hts u_X5 hown hk.1 hP 20 rfl rfl 0 (by decide) (hts _ q1_147) (fun _ h9 => h9) rfl dX5_store_1 ?_
  refine lv_iload_n hx hb dX5_store_4 rfl (lv_at hl 1 rfl) ?_
  refine lv_aload_n hx hb dX5_store_5 rfl (lv_at hl 2 rfl) ?_
  refine va_get (D := D) (ci := 0) (v := .long b_l) (C := RX0) (T := TX0) (N := 3) hx hb hts u_X0 hown hk.1 hP 13 rfl rfl 0 (by decide) (hts _ q1_115) (fun _ h9 => h9) rfl dX5_store_6 ?_
  refine go_v (ru_N (n := 3) ⟨hx, hb, hml, hown, hts⟩ hk hP (c_X7_put_ l D cI cL cZ (cAd ad) (cw ad cI cL cZ c_sr t_n t_r t_w s_w s_h s_c s_p s_s p_nx p_sz r_k r_r r_p l_z q_z t_t b_l b_b b_n r_t l_l l_b l_n q_l q_b q_n t_le s_cs s_ps s_ha s_en pk ik s_ro s_me s_be s_se s_co pl pb pn il ib im l_a q_a) 21 (ad 21) 2 _ rfl (cw_D hAd) il p1 b_l _ rfl (by decide)) ⟨va_cnB 3 hts (gN q2_23) rfl rfl rfl (hk.2 _ nwm_X5_40) (hts _ q1_1) hd_X7_put_ ⟨Nat.le_of_ble_eq_true rfl, Nat.le_of_ble_eq_true rfl⟩, hts _ q2_22, trivial⟩ rfl hl.1 rfl (Nat.le_of_ble_eq_true rfl) dX5_store_9 ⟨Nat.zero_le _, Nat.zero_le _⟩) hS (fun _ h => h) (fun H locs hP hS => ?_)
  have hP : va_P D vwCl (cw ad cI cL cZ c_sr t_n t_r t_w s_w s_h s_c s_p s_s p_nx p_sz r_k r_r r_p l_z q_z t_t b_l b_b b_n r_t l_l l_b l_n q_l q_b q_n t_le s_cs s_ps s_ha s_en pk ik s_ro s_me s_be s_se s_co pl pb pn (f_X7_put_ p1 b_l 2 il) ib im l_a q_a) H := hP
  refine lv_aload_n hx hb dX5_store_12 rfl (lv_at hl 0 rfl) ?_
  refine va_get (D := D) (ci := 5) (v := .ref (ad 22)) (C := RX5) (T := TX5) (N := 4) hx hb hts u_X5 hown hk.1 hP 20 rfl rfl 1 (by decide) (hts _ q1_148) (fun _ h9 => h9) rfl dX5_store_13 ?_
  refine lv_iload_n hx hb dX5_store_16 rfl (lv_at hl 1 rfl) ?_
  refine lv_aload_n hx hb dX5_store_17 rfl (lv_at hl 2 rfl) ?_
  refine va_get (D := D) (ci := 0) (v := .long b_b) (C := RX0) (T := TX0) (N := 3) hx hb hts u_X0 hown hk.1 hP 13 rfl rfl 1 (by decide) (hts _ q1_119) (fun _ h9 => h9) rfl dX5_store_18 ?_
  refine go_v (ru_N (n := 3) ⟨hx, hb, hml, hown, hts⟩ hk hP (c_X7_put_ l D cI cL cZ (cAd ad) (cw ad cI cL cZ c_sr t_n t_r t_w s_w s_h s_c s_p s_s p_nx p_sz r_k r_r r_p l_z q_z t_t b_l b_b b_n r_t l_l l_b l_n q_l q_b q_n t_le s_cs s_ps s_ha s_en pk ik s_ro s_me s_be s_se s_co pl pb pn (f_X7_put_ p1 b_l 2 il) ib im l_a q_a) 22 (ad 22) 2 _ rfl (cw_D hAd) ib p1 b_b _ rfl (by decide)) ⟨va_cnB 3 hts (gN q2_23) rfl rfl rfl (hk.2 _ nwm_X5_40) (hts _ q1_1) hd_X7_put_ ⟨Nat.le_of_ble_eq_true rfl, Nat.le_of_ble_eq_true rfl⟩, hts _ q2_22, trivial⟩ rfl hl.1 rfl (Nat.le_of_ble_eq_true rfl) dX5_store_21 ⟨Nat.zero_le _, Nat.zero_le _⟩) hS (fun _ h => h) (fun H locs hP hS => ?_)
  have hP : va_P D vwCl (cw ad cI cL cZ c_sr t_n t_r t_w s_w s_h s_c s_p s_s p_nx p_sz r_k r_r r_p l_z q_z t_t b_l b_b b_n r_t l_l l_b l_n q_l q_b q_n t_le s_cs s_ps s_ha s_en pk ik s_ro s_me s_be s_se s_co pl pb pn (f_X7_put_ p1 b_l 2 il) (f_X7_put_ p1 b_b 2 ib) im l_a q_a) H := hP
  refine lv_aload_n hx hb dX5_store_24 rfl (lv_at hl 0 rfl) ?_
  refine va_get (D := D) (ci := 5) (v := .ref (ad 23)) (C := RX5) (T := TX5) (N := 4) hx hb hts u_X5 hown hk.1 hP 20 rfl rfl 2 (by decide) (hts _ q1_149) (fun _ h9 => h9) rfl dX5_store_25 ?_
  refine lv_iload_n hx hb dX5_store_28 rfl (lv_at hl 1 rfl) ?_
  refine lv_aload_n hx hb dX5_store_29 rfl (lv_at hl 2 rfl) ?_
  refine va_get (D := D) (ci := 0) (v := .long b_n) (C := RX0) (T := TX0) (N := 3) hx hb hts u_X0 hown hk.1 hP 13 rfl rfl 2 (by decide) (hts _ q1_123) (fun _ h9 => h9) rfl dX5_store_30 ?_
  refine go_v (ru_N (n := 3) ⟨hx, hb, hml, hown, hts⟩ hk hP (c_X7_put_ l D cI cL cZ (cAd ad) (cw ad cI cL cZ c_sr t_n t_r t_w s_w s_h s_c s_p s_s p_nx p_sz r_k r_r r_p l_z q_z t_t b_l b_b b_n r_t l_l l_b l_n q_l q_b q_n t_le s_cs s_ps s_ha s_en pk ik s_ro s_me s_be s_se s_co pl pb pn (f_X7_put_ p1 b_l 2 il) (f_X7_put_ p1 b_b 2 ib) im l_a q_a) 23 (ad 23) 2 _ rfl (cw_D hAd) im p1 b_n _ rfl (by decide)) ⟨va_cnB 3 hts (gN q2_23) rfl rfl rfl (hk.2 _ nwm_X5_40) (hts _ q1_1) hd_X7_put_ ⟨Nat.le_of_ble_eq_true rfl, Nat.le_of_ble_eq_true rfl⟩, hts _ q2_22, trivial⟩ rfl hl.1 rfl (Nat.le_of_ble_eq_true rfl) dX5_store_33 ⟨Nat.zero_le _, Nat.zero_le _⟩) hS (fun _ h => h) (fun H locs hP hS => ?_)
  have hP : va_P D vwCl (cw ad cI cL cZ c_sr t_n t_r t_w s_w s_h s_c s_p s_s p_nx p_sz r_k r_r r_p l_z q_z t_t b_l b_b b_n r_t l_l l_b l_n q_l q_b q_n t_le s_cs s_ps s_ha s_en pk ik s_ro s_me s_be s_se s_co pl pb pn (f_X7_put_ p1 b_l 2 il) (f_X7_put_ p1 b_b 2 ib) (f_X7_put_ p1 b_n 2 im) l_a q_a) H := hP
  refine lv_aload_n hx hb dX5_store_36 rfl (lv_at hl 0 rfl) ?_
  refine va_get (D := D) (ci := 5) (v := .ref (ad 24)) (C := RX5) (T := TX5) (N := 4) hx hb hts u_X5 hown hk.1 hP 20 rfl rfl 3 (by decide) (hts _ q1_150) (fun _ h9 => h9) rfl dX5_store_37 ?_
  refine lv_iload_n hx hb dX5_store_40 rfl (lv_at hl 1 rfl) ?_
  refine lv_iconst (v := 1) hx hb dX5_store_41 (by decide) ?_
  refine go_v (ru_N (n := 3) ⟨hx, hb, hml, hown, hts⟩ hk hP (c_X7_put l D cI cL cZ (cAd ad) (cw ad cI cL cZ c_sr t_n t_r t_w s_w s_h s_c s_p s_s p_nx p_sz r_k r_r r_p l_z q_z t_t b_l b_b b_n r_t l_l l_b l_n q_l q_b q_n t_le s_cs s_ps s_ha s_en pk ik s_ro s_me s_be s_se s_co pl pb pn (f_X7_put_ p1 b_l 2 il) (f_X7_put_ p1 b_b 2 ib) (f_X7_put_ p1 b_n 2 im) l_a q_a) 24 (ad 24) 2 _ rfl (cw_D hAd) ik p1 1 _ rfl (by decide)) ⟨va_cnB 3 hts (gN q2_13) rfl rfl rfl (hk.2 _ nwm_X5_48) (hts _ q1_1) hd_X7_put ⟨Nat.le_of_ble_eq_true rfl, Nat.le_of_ble_eq_true rfl⟩, hts _ q2_12, trivial⟩ rfl hl.1 rfl (Nat.le_of_ble_eq_true rfl) dX5_store_42 ⟨Nat.zero_le _, Nat.zero_le _⟩) hS (fun _ h => h) (fun H locs hP hS => ?_)
  have hP : va_P D vwCl (cw ad cI cL cZ c_sr t_n t_r t_w s_w s_h s_c s_p s_s p_nx p_sz r_k r_r r_p l_z q_z t_t b_l b_b b_n r_t l_l l_b l_n q_l q_b q_n t_le s_cs s_ps s_ha s_en pk (f_X7_put p1 1 2 ik) s_ro s_me s_be s_se s_co pl pb pn (f_X7_put_ p1 b_l 2 il) (f_X7_put_ p1 b_b 2 ib) (f_X7_put_ p1 b_n 2 im) l_a q_a) H := hP
  subst hr
  exact ret_v hx hb hrt hlocks hP hS dX5_store_45
def f_X5_give_b (p1 : Int32) (il : Nat → Int64) (ib : Nat → Int64) (im : Nat → Int64) : Int64 × Int64 × Int64 := (bd (f_X0_become (f_X7_at_ p1 2 il) (f_X7_at_ p1 2 ib) (f_X7_at_ p1 2 im)) (fun u1 => (u1.1, u1.2.1, u1.2.2)))
set_option maxHeartbeats 4000000 in
set_option maxRecDepth 100000 in
theorem c_X5_give_b (l : Launch) (D : va_G) (cI cL cZ : ClassId) (ad : Nat → Nat) (c_sr t_n t_r t_w s_w s_h s_c s_p s_s p_nx p_sz r_k r_r r_p l_z q_z : Int32) (t_t b_l b_b b_n r_t l_l l_b l_n q_l q_b q_n : Int64) (t_le s_cs s_ps s_ha s_en pk ik : Nat → Int32) (s_ro s_me s_be s_se s_co pl pb pn il ib im l_a q_a : Nat → Int64) (hAd : cInj ad) (p1 : Int32) (r : Int64 × Int64 × Int64) (hr : f_X5_give_b p1 il ib im = r) : MV l yX5_give (Cond.code yX5_give cX5_give 3 none :: W0) 1 26 D cI cL cZ (cAd ad) [.ref (ad 20), .int p1, .ref (ad 13)] (cw ad cI cL cZ c_sr t_n t_r t_w s_w s_h s_c s_p s_s p_nx p_sz r_k r_r r_p l_z q_z t_t b_l b_b b_n r_t l_l l_b l_n q_l q_b q_n t_le s_cs s_ps s_ha s_en pk ik s_ro s_me s_be s_se s_co pl pb pn il ib im l_a q_a) (cw ad cI cL cZ c_sr t_n t_r t_w s_w s_h s_c s_p s_s p_nx p_sz r_k r_r r_p l_z q_z t_t r.1 r.2.1 r.2.2 r_t l_l l_b l_n q_l q_b q_n t_le s_cs s_ps s_ha s_en pk ik s_ro s_me s_be s_se s_co pl pb pn il ib im l_a q_a) := by
  refine mk_start (cc := cX5_give) (maxL := 3) (ret := none) (by decide) rfl (Nat.le_of_ble_eq_true rfl) ?_
  intro p e s m below meth c ls C hP hS hl
  obtain ⟨hx, hb, hml, hrt, hlocks, hown, hts, hk⟩ := C
  have hown : s.vm.findClass RX5 = some m.cls := hown
  have hl : lv_has ls 3 [(0, .ref (ad 20)), (1, .int p1), (2, .ref (ad 13))] := hl
  rw [f_X5_give_b] at hr
  refine lv_aload_n hx hb dX5_give_0 rfl (lv_at hl 2 rfl) ?_
  refine lv_aload_n hx hb dX5_give_1 rfl (lv_at hl 0 rfl) ?_
  refine va_get (D := D) (ci := 5) (v := .ref (ad 21)) (C := RX5) (T := TX5) (N := 4) hx hb hts u_X5 hown hk.1 hP 20 rfl rfl 0 (by decide) (hts _ q1_147) (fun _ h9 => h9) rfl dX5_give_2 ?_
  refine lv_iload_n hx hb dX5_give_5 rfl (lv_at hl 1 rfl) ?_
  refine go_l (ru_N (n := 2) ⟨hx, hb, hml, hown, hts⟩ hk hP (c_X7_at_ l D cI cL cZ (cAd ad) (cw ad cI cL cZ c_sr t_n t_r t_w s_w s_h s_c s_p s_s p_nx p_sz r_k r_r r_p l_z q_z t_t b_l b_b b_n r_t l_l l_b l_n q_l q_b q_n t_le s_cs s_ps s_ha s_en pk ik s_ro s_me s_be s_se s_co pl pb pn il ib im l_a q_a) 21 (ad 21) 2 _ rfl (cw_D hAd) il p1 _ rfl (by decide)) ⟨va_cnB 2 hts (gN q3_95) rfl rfl rfl (hk.2 _ nwm_X5_51) (hts _ q1_1) hd_X7_at_ ⟨Nat.le_of_ble_eq_true rfl, Nat.le_of_ble_eq_true rfl⟩, hts _ q3_94, trivial⟩ rfl hl.1 rfl (Nat.le_of_ble_eq_true rfl) dX5_give_6 ⟨Nat.zero_le _, Nat.zero_le _⟩) hS (fun _ h => h) (fun H locs hP hS => ?_)
  have hP : va_P D vwCl (cw ad cI cL cZ c_sr t_n t_r t_w s_w s_h s_c s_p s_s p_nx p_sz r_k r_r r_p l_z q_z t_t b_l b_b b_n r_t l_l l_b l_n q_l q_b q_n t_le s_cs s_ps s_ha s_en pk ik s_ro s_me s_be s_se s_co pl pb pn il ib im l_a q_a) H := hP
  refine lv_aload_n hx hb dX5_give_9 rfl (lv_at hl 0 rfl) ?_
  refine va_get (D := D) (ci := 5) (v := .ref (ad 22)) (C := RX5) (T := TX5) (N := 4) hx hb hts u_X5 hown hk.1 hP 20 rfl rfl 1 (by decide) (hts _ q1_148) (fun _ h9 => h9) rfl dX5_give_10 ?_
  refine lv_iload_n hx hb dX5_give_13 rfl (lv_at hl 1 rfl) ?_
  refine go_l (ru_N (n := 2) ⟨hx, hb, hml, hown, hts⟩ hk hP (c_X7_at_ l D cI cL cZ (cAd ad) (cw ad cI cL cZ c_sr t_n t_r t_w s_w s_h s_c s_p s_s p_nx p_sz r_k r_r r_p l_z q_z t_t b_l b_b b_n r_t l_l l_b l_n q_l q_b q_n t_le s_cs s_ps s_ha s_en pk ik s_ro s_me s_be s_se s_co pl pb pn il ib im l_a q_a) 22 (ad 22) 2 _ rfl (cw_D hAd) ib p1 _ rfl (by decide)) ⟨va_cnB 2 hts (gN q3_95) rfl rfl rfl (hk.2 _ nwm_X5_51) (hts _ q1_1) hd_X7_at_ ⟨Nat.le_of_ble_eq_true rfl, Nat.le_of_ble_eq_true rfl⟩, hts _ q3_94, trivial⟩ rfl hl.1 rfl (Nat.le_of_ble_eq_true rfl) dX5_give_14 ⟨Nat.zero_le _, Nat.zero_le _⟩) hS (fun _ h => h) (fun H locs hP hS => ?_)
  have hP : va_P D vwCl (cw ad cI cL cZ c_sr t_n t_r t_w s_w s_h s_c s_p s_s p_nx p_sz r_k r_r r_p l_z q_z t_t b_l b_b b_n r_t l_l l_b l_n q_l q_b q_n t_le s_cs s_ps s_ha s_en pk ik s_ro s_me s_be s_se s_co pl pb pn il ib im l_a q_a) H := hP
  refine lv_aload_n hx hb dX5_give_17 rfl (lv_at hl 0 rfl) ?_
  refine va_get (D := D) (ci := 5) (v := .ref (ad 23)) (C := RX5) (T := TX5) (N := 4) hx hb hts u_X5 hown hk.1 hP 20 rfl rfl 2 (by decide) (hts _ q1_149) (fun _ h9 => h9) rfl dX5_give_18 ?_
  refine lv_iload_n hx hb dX5_give_21 rfl (lv_at hl 1 rfl) ?_
  refine go_l (ru_N (n := 2) ⟨hx, hb, hml, hown, hts⟩ hk hP (c_X7_at_ l D cI cL cZ (cAd ad) (cw ad cI cL cZ c_sr t_n t_r t_w s_w s_h s_c s_p s_s p_nx p_sz r_k r_r r_p l_z q_z t_t b_l b_b b_n r_t l_l l_b l_n q_l q_b q_n t_le s_cs s_ps s_ha s_en pk ik s_ro s_me s_be s_se s_co pl pb pn il ib im l_a q_a) 23 (ad 23) 2 _ rfl (cw_D hAd) im p1 _ rfl (by decide)) ⟨va_cnB 2 hts (gN q3_95) rfl rfl rfl (hk.2 _ nwm_X5_51) (hts _ q1_1) hd_X7_at_ ⟨Nat.le_of_ble_eq_true rfl, Nat.le_of_ble_eq_true rfl⟩, hts _ q3_94, trivial⟩ rfl hl.1 rfl (Nat.le_of_ble_eq_true rfl) dX5_give_22 ⟨Nat.zero_le _, Nat.zero_le _⟩) hS (fun _ h => h) (fun H locs hP hS => ?_)
  have hP : va_P D vwCl (cw ad cI cL cZ c_sr t_n t_r t_w s_w s_h s_c s_p s_s p_nx p_sz r_k r_r r_p l_z q_z t_t b_l b_b b_n r_t l_l l_b l_n q_l q_b q_n t_le s_cs s_ps s_ha s_en pk ik s_ro s_me s_be s_se s_co pl pb pn il ib im l_a q_a) H := hP
  obtain ⟨u1, hu1⟩ : ∃ z, f_X0_become (f_X7_at_ p1 2 il) (f_X7_at_ p1 2 ib) (f_X7_at_ p1 2 im) = z := ⟨_, rfl⟩
  have hr := (bd_eq hu1).symm.trans hr
  refine go_v (ru_V (n := 3) ⟨hx, hb, hml, hown, hts⟩ hk hP (c_X0_become l D cI cL cZ ad c_sr t_n t_r t_w s_w s_h s_c s_p s_s p_nx p_sz r_k r_r r_p l_z q_z t_t b_l b_b b_n r_t l_l l_b l_n q_l q_b q_n t_le s_cs s_ps s_ha s_en pk ik s_ro s_me s_be s_se s_co pl pb pn il ib im l_a q_a hAd (f_X7_at_ p1 2 il) (f_X7_at_ p1 2 ib) (f_X7_at_ p1 2 im) _ hu1) (cwV 3 hts (gV q3_96 q2_143 q2_144 q1_4 q2_145) rfl rfl rfl hd_X0_become ⟨Nat.le_of_ble_eq_true rfl, Nat.le_of_ble_eq_true rfl⟩) (va_recv hk.1 hP (ci := 0) (q0 := 13) rfl rfl) rfl hl.1 rfl (Nat.le_of_ble_eq_true rfl) dX5_give_25 ⟨Nat.zero_le _, Nat.zero_le _⟩) hS (fun _ h => h) (fun H locs hP hS => ?_)
  have hP : va_P D vwCl (cw ad cI cL cZ c_sr t_n t_r t_w s_w s_h s_c s_p s_s p_nx p_sz r_k r_r r_p l_z q_z t_t u1.1 u1.2.1 u1.2.2 r_t l_l l_b l_n q_l q_b q_n t_le s_cs s_ps s_ha s_en pk ik s_ro s_me s_be s_se s_co pl pb pn il ib im l_a q_a) H := hP
  subst hr
  exact ret_v hx hb hrt hlocks hP hS dX5_give_28
def f_X5_forget_b (ik : Nat → Int32) : (Nat → Int32) := f_J7_fill_53178 0 2 ik
set_option maxHeartbeats 4000000 in
set_option maxRecDepth 100000 in
theorem c_X5_forget_b (l : Launch) (D : va_G) (cI cL cZ : ClassId) (ad : Nat → Nat) (c_sr t_n t_r t_w s_w s_h s_c s_p s_s p_nx p_sz r_k r_r r_p l_z q_z : Int32) (t_t b_l b_b b_n r_t l_l l_b l_n q_l q_b q_n : Int64) (t_le s_cs s_ps s_ha s_en pk ik : Nat → Int32) (s_ro s_me s_be s_se s_co pl pb pn il ib im l_a q_a : Nat → Int64) (hAd : cInj ad) (r : (Nat → Int32)) (hr : f_X5_forget_b ik = r) : MV l yX5_forget (Cond.code yX5_forget cX5_forget 1 none :: W0) 1 23 D cI cL cZ (cAd ad) [.ref (ad 20)] (cw ad cI cL cZ c_sr t_n t_r t_w s_w s_h s_c s_p s_s p_nx p_sz r_k r_r r_p l_z q_z t_t b_l b_b b_n r_t l_l l_b l_n q_l q_b q_n t_le s_cs s_ps s_ha s_en pk ik s_ro s_me s_be s_se s_co pl pb pn il ib im l_a q_a) (cw ad cI cL cZ c_sr t_n t_r t_w s_w s_h s_c s_p s_s p_nx p_sz r_k r_r r_p l_z q_z t_t b_l b_b b_n r_t l_l l_b l_n q_l q_b q_n t_le s_cs s_ps s_ha s_en pk r s_ro s_me s_be s_se s_co pl pb pn il ib im l_a q_a) := by
  refine mk_start (cc := cX5_forget) (maxL := 1) (ret := none) (by decide) rfl (Nat.le_of_ble_eq_true rfl) ?_
  intro p e s m below meth c ls C hP hS hl
  obtain ⟨hx, hb, hml, hrt, hlocks, hown, hts, hk⟩ := C
  have hown : s.vm.findClass RX5 = some m.cls := hown
  have hl : lv_has ls 1 [(0, .ref (ad 20))] := hl
  rw [f_X5_forget_b] at hr
  refine lv_aload_n hx hb dX5_forget_0 rfl (lv_at hl 0 rfl) ?_
  refine va_get (D := D) (ci := 5) (v := .ref (ad 24)) (C := RX5) (T := TX5) (N := 4) hx hb hts u_X5 hown hk.1 hP 20 rfl rfl 3 (by decide) (hts _ q1_150) (fun _ h9 => h9) rfl dX5_forget_1 ?_
  refine lv_iconst (v := 0) hx hb dX5_forget_4 (by decide) ?_
  refine go_v (ru_S (n := 2) ⟨hx, hb, hml, hown, hts⟩ hk hP (c_J7_fill_53178 l D cI cL cZ (cAd ad) (cw ad cI cL cZ c_sr t_n t_r t_w s_w s_h s_c s_p s_s p_nx p_sz r_k r_r r_p l_z q_z t_t b_l b_b b_n r_t l_l l_b l_n q_l q_b q_n t_le s_cs s_ps s_ha s_en pk ik s_ro s_me s_be s_se s_co pl pb pn il ib im l_a q_a) 24 (ad 24) 2 _ rfl (cw_D hAd) ik 0 _ rfl (by decide)) (va_cwS 2 hts (gS q2_154 q1_234 q1_10 q1_235) rfl rfl rfl hd_J7_fill_53178 ⟨Nat.le_of_ble_eq_true rfl, Nat.le_of_ble_eq_true rfl⟩) rfl hl.1 rfl (Nat.le_of_ble_eq_true rfl) dX5_forget_5 ⟨Nat.zero_le _, Nat.zero_le _⟩) hS (fun _ h => h) (fun H locs hP hS => ?_)
  have hP : va_P D vwCl (cw ad cI cL cZ c_sr t_n t_r t_w s_w s_h s_c s_p s_s p_nx p_sz r_k r_r r_p l_z q_z t_t b_l b_b b_n r_t l_l l_b l_n q_l q_b q_n t_le s_cs s_ps s_ha s_en pk (f_J7_fill_53178 0 2 ik) s_ro s_me s_be s_se s_co pl pb pn il ib im l_a q_a) H := hP
  subst hr
  exact ret_v hx hb hrt hlocks hP hS dX5_forget_8
theorem hd_X2_remember : yX2_remember.cls = RX2 ∧ yX2_remember.cls ≠ "java/lang/invoke/MethodHandle" ∧ yX2_remember.cls ≠ "java/lang/invoke/VarHandle" ∧ (parseMethodDescriptor yX2_remember.desc).map (fun d => d.parameters.length) = some 1 := by decide +kernel
def f_X2_remember (p_nx : Int32) (p_sz : Int32) (b_l : Int64) (b_b : Int64) (b_n : Int64) (pk : Nat → Int32) (pl : Nat → Int64) (pb : Nat → Int64) (pn : Nat → Int64) : Int32 × Int32 × (Nat → Int32) × (Nat → Int64) × (Nat → Int64) × (Nat → Int64) := (bd (f_X5_store p_nx b_l b_b b_n pk pl pb pn) (fun u1 => (if 10 ≤ (p_nx + 1) then (0, minI (p_sz + 1) 10, u1.1, u1.2.1, u1.2.2.1, u1.2.2.2) else (p_nx + 1, minI (p_sz + 1) 10, u1.1, u1.2.1, u1.2.2.1, u1.2.2.2))))
set_option maxHeartbeats 4000000 in
set_option maxRecDepth 100000 in
theorem c_X2_remember (l : Launch) (D : va_G) (cI cL cZ : ClassId) (ad : Nat → Nat) (c_sr t_n t_r t_w s_w s_h s_c s_p s_s p_nx p_sz r_k r_r r_p l_z q_z : Int32) (t_t b_l b_b b_n r_t l_l l_b l_n q_l q_b q_n : Int64) (t_le s_cs s_ps s_ha s_en pk ik : Nat → Int32) (s_ro s_me s_be s_se s_co pl pb pn il ib im l_a q_a : Nat → Int64) (hAd : cInj ad) (r : Int32 × Int32 × (Nat → Int32) × (Nat → Int64) × (Nat → Int64) × (Nat → Int64)) (hr : f_X2_remember p_nx p_sz b_l b_b b_n pk pl pb pn = r) : MV l yX2_remember (Cond.code yX2_remember cX2_remember 2 none :: W0) 2 45 D cI cL cZ (cAd ad) [.ref (ad 14), .ref (ad 13)] (cw ad cI cL cZ c_sr t_n t_r t_w s_w s_h s_c s_p s_s p_nx p_sz r_k r_r r_p l_z q_z t_t b_l b_b b_n r_t l_l l_b l_n q_l q_b q_n t_le s_cs s_ps s_ha s_en pk ik s_ro s_me s_be s_se s_co pl pb pn il ib im l_a q_a) (cw ad cI cL cZ c_sr t_n t_r t_w s_w s_h s_c s_p s_s r.1 r.2.1 r_k r_r r_p l_z q_z t_t b_l b_b b_n r_t l_l l_b l_n q_l q_b q_n t_le s_cs s_ps s_ha s_en r.2.2.1 ik s_ro s_me s_be s_se s_co r.2.2.2.1 r.2.2.2.2.1 r.2.2.2.2.2 il ib im l_a q_a) := by
  refine mk_start (cc := cX2_remember) (maxL := 2) (ret := none) (by decide) rfl (Nat.le_of_ble_eq_true rfl) ?_
  intro p e s m below meth c ls C hP hS hl
  obtain ⟨hx, hb, hml, hrt, hlocks, hown, hts, hk⟩ := C
  have hown : s.vm.findClass RX2 = some m.cls := hown
  have hl : lv_has ls 2 [(0, .ref (ad 14)), (1, .ref (ad 13))] := hl
  rw [f_X2_remember] at hr
  refine lv_aload_n hx hb dX2_remember_0 rfl (lv_at hl 0 rfl) ?_
  refine va_get (D := D) (ci := 2) (v := .ref (ad 15)) (C := RX2) (T := TX2) (N := 3) hx hb hts u_X2 hown hk.1 hP 14 rfl rfl 0 (by decide) (hts _ q1_160) (fun _ h9 => h9) rfl dX2_remember_1 ?_
  refine lv_aload_n hx hb dX2_remember_4 rfl (lv_at hl 0 rfl) ?_
  refine va_get (D := D) (ci := 2) (v := .int p_nx) (C := RX2) (T := TX2) (N := 3) hx hb hts u_X2 hown hk.1 hP 14 rfl rfl 1 (by decide) (hts _ q1_161) (fun _ h9 => h9) rfl dX2_remember_5 ?_
  refine lv_aload_n hx hb dX2_remember_8 rfl (lv_at hl 1 rfl) ?_
  obtain ⟨u1, hu1⟩ : ∃ z, f_X5_store p_nx b_l b_b b_n pk pl pb pn = z := ⟨_, rfl⟩
  have hr := (bd_eq hu1).symm.trans hr
  refine go_v (ru_V (n := 2) ⟨hx, hb, hml, hown, hts⟩ hk hP (c_X5_store l D cI cL cZ ad c_sr t_n t_r t_w s_w s_h s_c s_p s_s p_nx p_sz r_k r_r r_p l_z q_z t_t b_l b_b b_n r_t l_l l_b l_n q_l q_b q_n t_le s_cs s_ps s_ha s_en pk ik s_ro s_me s_be s_se s_co pl pb pn il ib im l_a q_a hAd p_nx _ hu1) (cwV 2 hts (gV q2_208 q2_209 q2_210 q1_6 q2_211) rfl rfl rfl hd_X5_store ⟨Nat.le_of_ble_eq_true rfl, Nat.le_of_ble_eq_true rfl⟩) (va_recv hk.1 hP (ci := 5) (q0 := 15) rfl rfl) rfl hl.1 rfl (Nat.le_of_ble_eq_true rfl) dX2_remember_9 ⟨Nat.zero_le _, Nat.zero_le _⟩) hS (fun _ h => h) (fun H locs hP hS => ?_)
  have hP : va_P D vwCl (cw ad cI cL cZ c_sr t_n t_r t_w s_w s_h s_c s_p s_s p_nx p_sz r_k r_r r_p l_z q_z t_t b_l b_b b_n r_t l_l l_b l_n q_l q_b q_n t_le s_cs s_ps s_ha s_en u1.1 ik s_ro s_me s_be s_se s_co u1.2.1 u1.2.2.1 u1.2.2.2 il ib im l_a q_a) H := hP
  refine lv_aload_n hx hb dX2_remember_12 rfl (lv_at hl 0 rfl) ?_
  refine lv_aload_n hx hb dX2_remember_13 rfl (lv_at hl 0 rfl) ?_
  refine va_get (D := D) (ci := 2) (v := .int p_nx) (C := RX2) (T := TX2) (N := 3) hx hb hts u_X2 hown hk.1 hP 14 rfl rfl 1 (by decide) (hts _ q1_161) (fun _ h9 => h9) rfl dX2_remember_14 ?_
  refine lv_iconst (v := 1) hx hb dX2_remember_17 (by decide) ?_
  refine lv_iadd hx hb dX2_remember_18 ?_
  refine lv_bipush (v := 10) hx hb dX2_remember_19 (by decide) ?_
  refine lv_icmp_ge (tgt := 33) hx hb dX2_remember_21 (by decide) (fun c21 => ?_) (fun c21 => ?_)
  · have hr := (if_pos c21).symm.trans hr
    refine lv_iconst (v := 0) hx hb dX2_remember_33 (by decide) ?_
    refine va_put (D := D) (ci := 2) (v := .int 0) (ty := .int) (C := RX2) (T := TX2) (N := 3) hx hb hts u_X2 tyX2 tyX2_ok nmX2 hown hk.1 hP (cw_D hAd) hS 14 rfl rfl 1 (by decide) (hts _ q1_161) (fun _ h9 => h9) rfl (tyX2_ok 1 (by decide)) rfl rfl (Nat.le_of_ble_eq_true rfl) dX2_remember_34 (fun H locs hP _ hS => ?_)
    have hP : va_P D vwCl (cw ad cI cL cZ c_sr t_n t_r t_w s_w s_h s_c s_p s_s 0 p_sz r_k r_r r_p l_z q_z t_t b_l b_b b_n r_t l_l l_b l_n q_l q_b q_n t_le s_cs s_ps s_ha s_en u1.1 ik s_ro s_me s_be s_se s_co u1.2.1 u1.2.2.1 u1.2.2.2 il ib im l_a q_a) H := hP
    refine lv_aload_n hx hb dX2_remember_37 rfl (lv_at hl 0 rfl) ?_
    refine lv_aload_n hx hb dX2_remember_38 rfl (lv_at hl 0 rfl) ?_
    refine va_get (D := D) (ci := 2) (v := .int p_sz) (C := RX2) (T := TX2) (N := 3) hx hb hts u_X2 hown hk.1 hP 14 rfl rfl 2 (by decide) (hts _ q1_162) (fun _ h9 => h9) rfl dX2_remember_39 ?_
    refine lv_iconst (v := 1) hx hb dX2_remember_42 (by decide) ?_
    refine lv_iadd hx hb dX2_remember_43 ?_
    refine lv_bipush (v := 10) hx hb dX2_remember_44 (by decide) ?_
    refine va_mmin hx hb (hml.trans hl.1.symm) hown (hts _ q2_214) (hts _ q2_63) (hts _ q1_7) (hts _ q2_64) (Nat.le_of_ble_eq_true rfl) (Nat.le_of_ble_eq_true rfl) (Nat.zero_le _) (Nat.zero_le _) dX2_remember_46 ?_
    refine va_put (D := D) (ci := 2) (v := .int (minI (p_sz + 1) 10)) (ty := .int) (C := RX2) (T := TX2) (N := 3) hx hb hts u_X2 tyX2 tyX2_ok nmX2 hown hk.1 hP (cw_D hAd) hS 14 rfl rfl 2 (by decide) (hts _ q1_162) (fun _ h9 => h9) rfl (tyX2_ok 2 (by decide)) rfl rfl (Nat.le_of_ble_eq_true rfl) dX2_remember_49 (fun H locs hP _ hS => ?_)
    have hP : va_P D vwCl (cw ad cI cL cZ c_sr t_n t_r t_w s_w s_h s_c s_p s_s 0 (minI (p_sz + 1) 10) r_k r_r r_p l_z q_z t_t b_l b_b b_n r_t l_l l_b l_n q_l q_b q_n t_le s_cs s_ps s_ha s_en u1.1 ik s_ro s_me s_be s_se s_co u1.2.1 u1.2.2.1 u1.2.2.2 il ib im l_a q_a) H := hP
    subst hr
    exact ret_v hx hb hrt hlocks hP hS dX2_remember_52
  · have hr := (if_neg c21).symm.trans hr
    refine lv_aload_n hx hb dX2_remember_24 rfl (lv_at hl 0 rfl) ?_
    refine va_get (D := D) (ci := 2) (v := .int p_nx) (C := RX2) (T := TX2) (N := 3) hx hb hts u_X2 hown hk.1 hP 14 rfl rfl 1 (by decide) (hts _ q1_161) (fun _ h9 => h9) rfl dX2_remember_25 ?_
    refine lv_iconst (v := 1) hx hb dX2_remember_28 (by decide) ?_
    refine lv_iadd hx hb dX2_remember_29 ?_
    refine lv_goto (tgt := 34) hx hb dX2_remember_30 (by decide) ?_
    refine va_put (D := D) (ci := 2) (v := .int (p_nx + 1)) (ty := .int) (C := RX2) (T := TX2) (N := 3) hx hb hts u_X2 tyX2 tyX2_ok nmX2 hown hk.1 hP (cw_D hAd) hS 14 rfl rfl 1 (by decide) (hts _ q1_161) (fun _ h9 => h9) rfl (tyX2_ok 1 (by decide)) rfl rfl (Nat.le_of_ble_eq_true rfl) dX2_remember_34 (fun H locs hP _ hS => ?_)
    have hP : va_P D vwCl (cw ad cI cL cZ c_sr t_n t_r t_w s_w s_h s_c s_p s_s (p_nx + 1) p_sz r_k r_r r_p l_z q_z t_t b_l b_b b_n r_t l_l l_b l_n q_l q_b q_n t_le s_cs s_ps s_ha s_en u1.1 ik s_ro s_me s_be s_se s_co u1.2.1 u1.2.2.1 u1.2.2.2 il ib im l_a q_a) H := hP
    refine lv_aload_n hx hb dX2_remember_37 rfl (lv_at hl 0 rfl) ?_
    refine lv_aload_n hx hb dX2_remember_38 rfl (lv_at hl 0 rfl) ?_
    refine va_get (D := D) (ci := 2) (v := .int p_sz) (C := RX2) (T := TX2) (N := 3) hx hb hts u_X2 hown hk.1 hP 14 rfl rfl 2 (by decide) (hts _ q1_162) (fun _ h9 => h9) rfl dX2_remember_39 ?_
    refine lv_iconst (v := 1) hx hb dX2_remember_42 (by decide) ?_
    refine lv_iadd hx hb dX2_remember_43 ?_
    refine lv_bipush (v := 10) hx hb dX2_remember_44 (by decide) ?_
    refine va_mmin hx hb (hml.trans hl.1.symm) hown (hts _ q2_214) (hts _ q2_63) (hts _ q1_7) (hts _ q2_64) (Nat.le_of_ble_eq_true rfl) (Nat.le_of_ble_eq_true rfl) (Nat.zero_le _) (Nat.zero_le _) dX2_remember_46 ?_
    refine va_put (D := D) (ci := 2) (v := .int (minI (p_sz + 1) 10)) (ty := .int) (C := RX2) (T := TX2) (N := 3) hx hb hts u_X2 tyX2 tyX2_ok nmX2 hown hk.1 hP (cw_D hAd) hS 14 rfl rfl 2 (by decide) (hts _ q1_162) (fun _ h9 => h9) rfl (tyX2_ok 2 (by decide)) rfl rfl (Nat.le_of_ble_eq_true rfl) dX2_remember_49 (fun H locs hP _ hS => ?_)
    have hP : va_P D vwCl (cw ad cI cL cZ c_sr t_n t_r t_w s_w s_h s_c s_p s_s (p_nx + 1) (minI (p_sz + 1) 10) r_k r_r r_p l_z q_z t_t b_l b_b b_n r_t l_l l_b l_n q_l q_b q_n t_le s_cs s_ps s_ha s_en u1.1 ik s_ro s_me s_be s_se s_co u1.2.1 u1.2.2.1 u1.2.2.2 il ib im l_a q_a) H := hP
    subst hr
    exact ret_v hx hb hrt hlocks hP hS dX2_remember_52
theorem hd_X2_giveLatest : yX2_giveLatest.cls = RX2 ∧ yX2_giveLatest.cls ≠ "java/lang/invoke/MethodHandle" ∧ yX2_giveLatest.cls ≠ "java/lang/invoke/VarHandle" ∧ (parseMethodDescriptor yX2_giveLatest.desc).map (fun d => d.parameters.length) = some 1 := by decide +kernel
def f_X2_giveLatest (p_nx : Int32) (p_sz : Int32) (pl : Nat → Int64) (pb : Nat → Int64) (pn : Nat → Int64) : Int32 × Int32 × Int64 × Int64 × Int64 := (if p_nx ≤ 0 then (bd (f_X5_give 9 pl pb pn) (fun u1 => (9, maxI (p_sz - 1) 0, u1.1, u1.2.1, u1.2.2))) else (bd (f_X5_give (p_nx - 1) pl pb pn) (fun u2 => (p_nx - 1, maxI (p_sz - 1) 0, u2.1, u2.2.1, u2.2.2))))
set_option maxHeartbeats 4000000 in
set_option maxRecDepth 100000 in
theorem c_X2_giveLatest (l : Launch) (D : va_G) (cI cL cZ : ClassId) (ad : Nat → Nat) (c_sr t_n t_r t_w s_w s_h s_c s_p s_s p_nx p_sz r_k r_r r_p l_z q_z : Int32) (t_t b_l b_b b_n r_t l_l l_b l_n q_l q_b q_n : Int64) (t_le s_cs s_ps s_ha s_en pk ik : Nat → Int32) (s_ro s_me s_be s_se s_co pl pb pn il ib im l_a q_a : Nat → Int64) (hAd : cInj ad) (r : Int32 × Int32 × Int64 × Int64 × Int64) (hr : f_X2_giveLatest p_nx p_sz pl pb pn = r) : MV l yX2_giveLatest (Cond.code yX2_giveLatest cX2_giveLatest 2 none :: W0) 2 48 D cI cL cZ (cAd ad) [.ref (ad 14), .ref (ad 13)] (cw ad cI cL cZ c_sr t_n t_r t_w s_w s_h s_c s_p s_s p_nx p_sz r_k r_r r_p l_z q_z t_t b_l b_b b_n r_t l_l l_b l_n q_l q_b q_n t_le s_cs s_ps s_ha s_en pk ik s_ro s_me s_be s_se s_co pl pb pn il ib im l_a q_a) (cw ad cI cL cZ c_sr t_n t_r t_w s_w s_h s_c s_p s_s r.1 r.2.1 r_k r_r r_p l_z q_z t_t r.2.2.1 r.2.2.2.1 r.2.2.2.2 r_t l_l l_b l_n q_l q_b q_n t_le s_cs s_ps s_ha s_en pk ik s_ro s_me s_be s_se s_co pl pb pn il ib im l_a q_a) := by
  refine mk_start (cc := cX2_giveLatest) (maxL := 2) (ret := none) (by decide) rfl (Nat.le_of_ble_eq_true rfl) ?_
  intro p e s m below meth c ls C hP hS hl
  obtain ⟨hx, hb, hml, hrt, hlocks, hown, hts, hk⟩ := C
  have hown : s.vm.findClass RX2 = some m.cls := hown
  have hl : lv_has ls 2 [(0, .ref (ad 14)), (1, .ref (ad 13))] := hl
  rw [f_X2_giveLatest] at hr
  refine lv_aload_n hx hb dX2_giveLatest_0 rfl (lv_at hl 0 rfl) ?_
  refine lv_aload_n hx hb dX2_giveLatest_1 rfl (lv_at hl 0 rfl) ?_
  refine va_get (D := D) (ci := 2) (v := .int p_nx) (C := RX2) (T := TX2) (N := 3) hx hb hts u_X2 hown hk.1 hP 14 rfl rfl 1 (by decide) (hts _ q1_161) (fun _ h9 => h9) rfl dX2_giveLatest_2 ?_
  refine lv_if_le (tgt := 17) hx hb dX2_giveLatest_5 (by decide) (fun c5 => ?_) (fun c5 => ?_)
  · have hr := (if_pos c5).symm.trans hr
    refine lv_bipush (v := 9) hx hb dX2_giveLatest_17 (by decide) ?_
    refine va_put (D := D) (ci := 2) (v := .int 9) (ty := .int) (C := RX2) (T := TX2) (N := 3) hx hb hts u_X2 tyX2 tyX2_ok nmX2 hown hk.1 hP (cw_D hAd) hS 14 rfl rfl 1 (by decide) (hts _ q1_161) (fun _ h9 => h9) rfl (tyX2_ok 1 (by decide)) rfl rfl (Nat.le_of_ble_eq_true rfl) dX2_giveLatest_19 (fun H locs hP _ hS => ?_)
    have hP : va_P D vwCl (cw ad cI cL cZ c_sr t_n t_r t_w s_w s_h s_c s_p s_s 9 p_sz r_k r_r r_p l_z q_z t_t b_l b_b b_n r_t l_l l_b l_n q_l q_b q_n t_le s_cs s_ps s_ha s_en pk ik s_ro s_me s_be s_se s_co pl pb pn il ib im l_a q_a) H := hP
    refine lv_aload_n hx hb dX2_giveLatest_22 rfl (lv_at hl 0 rfl) ?_
    refine lv_aload_n hx hb dX2_giveLatest_23 rfl (lv_at hl 0 rfl) ?_
    refine va_get (D := D) (ci := 2) (v := .int p_sz) (C := RX2) (T := TX2) (N := 3) hx hb hts u_X2 hown hk.1 hP 14 rfl rfl 2 (by decide) (hts _ q1_162) (fun _ h9 => h9) rfl dX2_giveLatest_24 ?_
    refine lv_iconst (v := 1) hx hb dX2_giveLatest_27 (by decide) ?_
    refine lv_isub hx hb dX2_giveLatest_28 ?_
    refine lv_iconst (v := 0) hx hb dX2_giveLatest_29 (by decide) ?_
    refine va_mmax hx hb (hml.trans hl.1.symm) hown (hts _ q3_88) (hts _ q1_145) (hts _ q1_7) (hts _ q1_146) (Nat.le_of_ble_eq_true rfl) (Nat.le_of_ble_eq_true rfl) (Nat.zero_le _) (Nat.zero_le _) dX2_giveLatest_30 ?_
    refine va_put (D := D) (ci := 2) (v := .int (maxI (p_sz - 1) 0)) (ty := .int) (C := RX2) (T := TX2) (N := 3) hx hb hts u_X2 tyX2 tyX2_ok nmX2 hown hk.1 hP (cw_D hAd) hS 14 rfl rfl 2 (by decide) (hts _ q1_162) (fun _ h9 => h9) rfl (tyX2_ok 2 (by decide)) rfl rfl (Nat.le_of_ble_eq_true rfl) dX2_giveLatest_33 (fun H locs hP _ hS => ?_)
    have hP : va_P D vwCl (cw ad cI cL cZ c_sr t_n t_r t_w s_w s_h s_c s_p s_s 9 (maxI (p_sz - 1) 0) r_k r_r r_p l_z q_z t_t b_l b_b b_n r_t l_l l_b l_n q_l q_b q_n t_le s_cs s_ps s_ha s_en pk ik s_ro s_me s_be s_se s_co pl pb pn il ib im l_a q_a) H := hP
    refine lv_aload_n hx hb dX2_giveLatest_36 rfl (lv_at hl 0 rfl) ?_
    refine va_get (D := D) (ci := 2) (v := .ref (ad 15)) (C := RX2) (T := TX2) (N := 3) hx hb hts u_X2 hown hk.1 hP 14 rfl rfl 0 (by decide) (hts _ q1_160) (fun _ h9 => h9) rfl dX2_giveLatest_37 ?_
    refine lv_aload_n hx hb dX2_giveLatest_40 rfl (lv_at hl 0 rfl) ?_
    refine va_get (D := D) (ci := 2) (v := .int 9) (C := RX2) (T := TX2) (N := 3) hx hb hts u_X2 hown hk.1 hP 14 rfl rfl 1 (by decide) (hts _ q1_161) (fun _ h9 => h9) rfl dX2_giveLatest_41 ?_
    refine lv_aload_n hx hb dX2_giveLatest_44 rfl (lv_at hl 1 rfl) ?_
    obtain ⟨u1, hu1⟩ : ∃ z, f_X5_give 9 pl pb pn = z := ⟨_, rfl⟩
    have hr := (bd_eq hu1).symm.trans hr
    refine go_v (ru_V (n := 2) ⟨hx, hb, hml, hown, hts⟩ hk hP (c_X5_give l D cI cL cZ ad c_sr t_n t_r t_w s_w s_h s_c s_p s_s 9 (maxI (p_sz - 1) 0) r_k r_r r_p l_z q_z t_t b_l b_b b_n r_t l_l l_b l_n q_l q_b q_n t_le s_cs s_ps s_ha s_en pk ik s_ro s_me s_be s_se s_co pl pb pn il ib im l_a q_a hAd 9 _ hu1) (cwV 2 hts (gV q3_89 q3_90 q3_91 q1_6 q3_92) rfl rfl rfl hd_X5_give ⟨Nat.le_of_ble_eq_true rfl, Nat.le_of_ble_eq_true rfl⟩) (va_recv hk.1 hP (ci := 5) (q0 := 15) rfl rfl) rfl hl.1 rfl (Nat.le_of_ble_eq_true rfl) dX2_giveLatest_45 ⟨Nat.zero_le _, Nat.zero_le _⟩) hS (fun _ h => h) (fun H locs hP hS => ?_)
    have hP : va_P D vwCl (cw ad cI cL cZ c_sr t_n t_r t_w s_w s_h s_c s_p s_s 9 (maxI (p_sz - 1) 0) r_k r_r r_p l_z q_z t_t u1.1 u1.2.1 u1.2.2 r_t l_l l_b l_n q_l q_b q_n t_le s_cs s_ps s_ha s_en pk ik s_ro s_me s_be s_se s_co pl pb pn il ib im l_a q_a) H := hP
    subst hr
    exact ret_v hx hb hrt hlocks hP hS dX2_giveLatest_48
  · have hr := (if_neg c5).symm.trans hr
    refine lv_aload_n hx hb dX2_giveLatest_8 rfl (lv_at hl 0 rfl) ?_
    refine va_get (D := D) (ci := 2) (v := .int p_nx) (C := RX2) (T := TX2) (N := 3) hx hb hts u_X2 hown hk.1 hP 14 rfl rfl 1 (by decide) (hts _ q1_161) (fun _ h9 => h9) rfl dX2_giveLatest_9 ?_
    refine lv_iconst (v := 1) hx hb dX2_giveLatest_12 (by decide) ?_
    refine lv_isub hx hb dX2_giveLatest_13 ?_
    refine lv_goto (tgt := 19) hx hb dX2_giveLatest_14 (by decide) ?_
    refine va_put (D := D) (ci := 2) (v := .int (p_nx - 1)) (ty := .int) (C := RX2) (T := TX2) (N := 3) hx hb hts u_X2 tyX2 tyX2_ok nmX2 hown hk.1 hP (cw_D hAd) hS 14 rfl rfl 1 (by decide) (hts _ q1_161) (fun _ h9 => h9) rfl (tyX2_ok 1 (by decide)) rfl rfl (Nat.le_of_ble_eq_true rfl) dX2_giveLatest_19 (fun H locs hP _ hS => ?_)
    have hP : va_P D vwCl (cw ad cI cL cZ c_sr t_n t_r t_w s_w s_h s_c s_p s_s (p_nx - 1) p_sz r_k r_r r_p l_z q_z t_t b_l b_b b_n r_t l_l l_b l_n q_l q_b q_n t_le s_cs s_ps s_ha s_en pk ik s_ro s_me s_be s_se s_co pl pb pn il ib im l_a q_a) H := hP
    refine lv_aload_n hx hb dX2_giveLatest_22 rfl (lv_at hl 0 rfl) ?_
    refine lv_aload_n hx hb dX2_giveLatest_23 rfl (lv_at hl 0 rfl) ?_
    refine va_get (D := D) (ci := 2) (v := .int p_sz) (C := RX2) (T := TX2) (N := 3) hx hb hts u_X2 hown hk.1 hP 14 rfl rfl 2 (by decide) (hts _ q1_162) (fun _ h9 => h9) rfl dX2_giveLatest_24 ?_
    refine lv_iconst (v := 1) hx hb dX2_giveLatest_27 (by decide) ?_
    refine lv_isub hx hb dX2_giveLatest_28 ?_
    refine lv_iconst (v := 0) hx hb dX2_giveLatest_29 (by decide) ?_
    refine va_mmax hx hb (hml.trans hl.1.symm) hown (hts _ q3_88) (hts _ q1_145) (hts _ q1_7) (hts _ q1_146) (Nat.le_of_ble_eq_true rfl) (Nat.le_of_ble_eq_true rfl) (Nat.zero_le _) (Nat.zero_le _) dX2_giveLatest_30 ?_
    refine va_put (D := D) (ci := 2) (v := .int (maxI (p_sz - 1) 0)) (ty := .int) (C := RX2) (T := TX2) (N := 3) hx hb hts u_X2 tyX2 tyX2_ok nmX2 hown hk.1 hP (cw_D hAd) hS 14 rfl rfl 2 (by decide) (hts _ q1_162) (fun _ h9 => h9) rfl (tyX2_ok 2 (by decide)) rfl rfl (Nat.le_of_ble_eq_true rfl) dX2_giveLatest_33 (fun H locs hP _ hS => ?_)
    have hP : va_P D vwCl (cw ad cI cL cZ c_sr t_n t_r t_w s_w s_h s_c s_p s_s (p_nx - 1) (maxI (p_sz - 1) 0) r_k r_r r_p l_z q_z t_t b_l b_b b_n r_t l_l l_b l_n q_l q_b q_n t_le s_cs s_ps s_ha s_en pk ik s_ro s_me s_be s_se s_co pl pb pn il ib im l_a q_a) H := hP
    refine lv_aload_n hx hb dX2_giveLatest_36 rfl (lv_at hl 0 rfl) ?_
    refine va_get (D := D) (ci := 2) (v := .ref (ad 15)) (C := RX2) (T := TX2) (N := 3) hx hb hts u_X2 hown hk.1 hP 14 rfl rfl 0 (by decide) (hts _ q1_160) (fun _ h9 => h9) rfl dX2_giveLatest_37 ?_
    refine lv_aload_n hx hb dX2_giveLatest_40 rfl (lv_at hl 0 rfl) ?_
    refine va_get (D := D) (ci := 2) (v := .int (p_nx - 1)) (C := RX2) (T := TX2) (N := 3) hx hb hts u_X2 hown hk.1 hP 14 rfl rfl 1 (by decide) (hts _ q1_161) (fun _ h9 => h9) rfl dX2_giveLatest_41 ?_
    refine lv_aload_n hx hb dX2_giveLatest_44 rfl (lv_at hl 1 rfl) ?_
    obtain ⟨u2, hu2⟩ : ∃ z, f_X5_give (p_nx - 1) pl pb pn = z := ⟨_, rfl⟩
    have hr := (bd_eq hu2).symm.trans hr
    refine go_v (ru_V (n := 2) ⟨hx, hb, hml, hown, hts⟩ hk hP (c_X5_give l D cI cL cZ ad c_sr t_n t_r t_w s_w s_h s_c s_p s_s (p_nx - 1) (maxI (p_sz - 1) 0) r_k r_r r_p l_z q_z t_t b_l b_b b_n r_t l_l l_b l_n q_l q_b q_n t_le s_cs s_ps s_ha s_en pk ik s_ro s_me s_be s_se s_co pl pb pn il ib im l_a q_a hAd (p_nx - 1) _ hu2) (cwV 2 hts (gV q3_89 q3_90 q3_91 q1_6 q3_92) rfl rfl rfl hd_X5_give ⟨Nat.le_of_ble_eq_true rfl, Nat.le_of_ble_eq_true rfl⟩) (va_recv hk.1 hP (ci := 5) (q0 := 15) rfl rfl) rfl hl.1 rfl (Nat.le_of_ble_eq_true rfl) dX2_giveLatest_45 ⟨Nat.zero_le _, Nat.zero_le _⟩) hS (fun _ h => h) (fun H locs hP hS => ?_)
    have hP : va_P D vwCl (cw ad cI cL cZ c_sr t_n t_r t_w s_w s_h s_c s_p s_s (p_nx - 1) (maxI (p_sz - 1) 0) r_k r_r r_p l_z q_z t_t u2.1 u2.2.1 u2.2.2 r_t l_l l_b l_n q_l q_b q_n t_le s_cs s_ps s_ha s_en pk ik s_ro s_me s_be s_se s_co pl pb pn il ib im l_a q_a) H := hP
    subst hr
    exact ret_v hx hb hrt hlocks hP hS dX2_giveLatest_48
theorem hd_X2_forget : yX2_forget.cls = RX2 ∧ yX2_forget.cls ≠ "java/lang/invoke/MethodHandle" ∧ yX2_forget.cls ≠ "java/lang/invoke/VarHandle" ∧ (parseMethodDescriptor yX2_forget.desc).map (fun d => d.parameters.length) = some 0 := by decide +kernel
def f_X2_forget : Int32 := 0
set_option maxHeartbeats 4000000 in
set_option maxRecDepth 100000 in
theorem c_X2_forget (l : Launch) (D : va_G) (cI cL cZ : ClassId) (ad : Nat → Nat) (c_sr t_n t_r t_w s_w s_h s_c s_p s_s p_nx p_sz r_k r_r r_p l_z q_z : Int32) (t_t b_l b_b b_n r_t l_l l_b l_n q_l q_b q_n : Int64) (t_le s_cs s_ps s_ha s_en pk ik : Nat → Int32) (s_ro s_me s_be s_se s_co pl pb pn il ib im l_a q_a : Nat → Int64) (hAd : cInj ad) (r : Int32) (hr : f_X2_forget = r) : MV l yX2_forget (Cond.code yX2_forget cX2_forget 1 none :: W0) 0 0 D cI cL cZ (cAd ad) [.ref (ad 14)] (cw ad cI cL cZ c_sr t_n t_r t_w s_w s_h s_c s_p s_s p_nx p_sz r_k r_r r_p l_z q_z t_t b_l b_b b_n r_t l_l l_b l_n q_l q_b q_n t_le s_cs s_ps s_ha s_en pk ik s_ro s_me s_be s_se s_co pl pb pn il ib im l_a q_a) (cw ad cI cL cZ c_sr t_n t_r t_w s_w s_h s_c s_p s_s p_nx r r_k r_r r_p l_z q_z t_t b_l b_b b_n r_t l_l l_b l_n q_l q_b q_n t_le s_cs s_ps s_ha s_en pk ik s_ro s_me s_be s_se s_co pl pb pn il ib im l_a q_a) := by
  refine mk_start (cc := cX2_forget) (maxL := 1) (ret := none) (by decide) rfl (Nat.le_of_ble_eq_true rfl) ?_
  intro p e s m below meth c ls C hP hS hl
  obtain ⟨hx, hb, hml, hrt, hlocks, hown, hts, hk⟩ := C
  have hown : s.vm.findClass RX2 = some m.cls := hown
  have hl : lv_has ls 1 [(0, .ref (ad 14))] := hl
  rw [f_X2_forget] at hr
  refine lv_aload_n hx hb dX2_forget_0 rfl (lv_at hl 0 rfl) ?_
  refine lv_iconst (v := 0) hx hb dX2_forget_1 (by decide) ?_
  refine va_put (D := D) (ci := 2) (v := .int 0) (ty := .int) (C := RX2) (T := TX2) (N := 3) hx hb hts u_X2 tyX2 tyX2_ok nmX2 hown hk.1 hP (cw_D hAd) hS 14 rfl rfl 2 (by decide) (hts _ q1_162) (fun _ h9 => h9) rfl (tyX2_ok 2 (by decide)) rfl rfl (Nat.le_of_ble_eq_true rfl) dX2_forget_2 (fun H locs hP _ hS => ?_)
  have hP : va_P D vwCl (cw ad cI cL cZ c_sr t_n t_r t_w s_w s_h s_c s_p s_s p_nx 0 r_k r_r r_p l_z q_z t_t b_l b_b b_n r_t l_l l_b l_n q_l q_b q_n t_le s_cs s_ps s_ha s_en pk ik s_ro s_me s_be s_se s_co pl pb pn il ib im l_a q_a) H := hP
  subst hr
  exact ret_v hx hb hrt hlocks hP hS dX2_forget_5
