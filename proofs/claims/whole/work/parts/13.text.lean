theorem hd_X6_takes : yX6_takes.cls = RX6 ∧ yX6_takes.cls ≠ "java/lang/invoke/MethodHandle" ∧ yX6_takes.cls ≠ "java/lang/invoke/VarHandle" ∧ (parseMethodDescriptor yX6_takes.desc).map (fun d => d.parameters.length) = some 1 := by decide +kernel
def f_X6_takes (p1 : Int32) (t_n : Int32) (t_le : Nat → Int32) : Int32 × Int32 × (Nat → Int32) := (if t_n < 0 then (0, t_n, t_le) else (if t_n < 40 then (1, t_n + 1, upd t_le t_n.toNatClampNeg p1) else (0, t_n, t_le)))
set_option maxHeartbeats 4000000 in
set_option maxRecDepth 100000 in
theorem c_X6_takes (l : Launch) (D : va_G) (cI cL cZ : ClassId) (ad : Nat → Nat) (c_sr t_n t_r t_w s_w s_h s_c s_p s_s p_nx p_sz r_k r_r r_p l_z q_z : Int32) (t_t b_l b_b b_n r_t l_l l_b l_n q_l q_b q_n : Int64) (t_le s_cs s_ps s_ha s_en pk ik : Nat → Int32) (s_ro s_me s_be s_se s_co pl pb pn il ib im l_a q_a : Nat → Int64) (hAd : cInj ad) (p1 : Int32) (r : Int32 × Int32 × (Nat → Int32)) (hr : f_X6_takes p1 t_n t_le = r) : MZ l yX6_takes (Cond.code yX6_takes cX6_takes 2 (some .boolean) :: W0) 0 0 D cI cL cZ (cAd ad) [.ref (ad 1), .int p1] (cw ad cI cL cZ c_sr t_n t_r t_w s_w s_h s_c s_p s_s p_nx p_sz r_k r_r r_p l_z q_z t_t b_l b_b b_n r_t l_l l_b l_n q_l q_b q_n t_le s_cs s_ps s_ha s_en pk ik s_ro s_me s_be s_se s_co pl pb pn il ib im l_a q_a) r.1 (cw ad cI cL cZ c_sr r.2.1 t_r t_w s_w s_h s_c s_p s_s p_nx p_sz r_k r_r r_p l_z q_z t_t b_l b_b b_n r_t l_l l_b l_n q_l q_b q_n r.2.2 s_cs s_ps s_ha s_en pk ik s_ro s_me s_be s_se s_co pl pb pn il ib im l_a q_a) := by
  refine mk_start (cc := cX6_takes) (maxL := 2) (ret := (some .boolean)) (by decide) rfl (Nat.le_of_ble_eq_true rfl) ?_
  intro p e s m below meth c ls C hP hS hl
  obtain ⟨hx, hb, hml, hrt, hlocks, hown, hts, hk⟩ := C
  have hown : s.vm.findClass RX6 = some m.cls := hown
  have hl : lv_has ls 2 [(0, .ref (ad 1)), (1, .int p1)] := hl
  rw [f_X6_takes] at hr
  refine lv_aload_n hx hb dX6_takes_0 rfl (lv_at hl 0 rfl) ?_
  refine va_get (D := D) (ci := 6) (v := .int t_n) (C := RX6) (T := TX6) (N := 5) hx hb hts u_X6 hown hk.1 hP 1 rfl rfl 1 (by decide) (hts _ q1_30) (fun _ h9 => h9) rfl dX6_takes_1 ?_
  refine lv_if_lt (tgt := 19) hx hb dX6_takes_4 (by decide) (fun c4 => ?_) (fun c4 => ?_)
  · have hr := (if_pos c4).symm.trans hr
    refine lv_iconst (v := 0) hx hb dX6_takes_19 (by decide) ?_
    subst hr
    exact ret_z hx hb hrt hlocks bz_0 hP hS dX6_takes_20
  · have hr := (if_neg c4).symm.trans hr
    refine lv_aload_n hx hb dX6_takes_7 rfl (lv_at hl 0 rfl) ?_
    refine va_get (D := D) (ci := 6) (v := .int t_n) (C := RX6) (T := TX6) (N := 5) hx hb hts u_X6 hown hk.1 hP 1 rfl rfl 1 (by decide) (hts _ q1_30) (fun _ h9 => h9) rfl dX6_takes_8 ?_
    refine lv_aload_n hx hb dX6_takes_11 rfl (lv_at hl 0 rfl) ?_
    refine va_get (D := D) (ci := 6) (v := .ref (ad 2)) (C := RX6) (T := TX6) (N := 5) hx hb hts u_X6 hown hk.1 hP 1 rfl rfl 0 (by decide) (hts _ q1_29) (fun _ h9 => h9) rfl dX6_takes_12 ?_
    refine va_alen (v := 40) hx hb hk.1 hP 2 0 rfl rfl rfl dX6_takes_15 ?_
    refine lv_icmp_lt (tgt := 21) hx hb dX6_takes_16 (by decide) (fun c16 => ?_) (fun c16 => ?_)
    · have hr := (if_pos c16).symm.trans hr
      refine lv_aload_n hx hb dX6_takes_21 rfl (lv_at hl 0 rfl) ?_
      refine va_get (D := D) (ci := 6) (v := .ref (ad 2)) (C := RX6) (T := TX6) (N := 5) hx hb hts u_X6 hown hk.1 hP 1 rfl rfl 0 (by decide) (hts _ q1_29) (fun _ h9 => h9) rfl dX6_takes_22 ?_
      refine lv_aload_n hx hb dX6_takes_25 rfl (lv_at hl 0 rfl) ?_
      refine va_get (D := D) (ci := 6) (v := .int t_n) (C := RX6) (T := TX6) (N := 5) hx hb hts u_X6 hown hk.1 hP 1 rfl rfl 1 (by decide) (hts _ q1_30) (fun _ h9 => h9) rfl dX6_takes_26 ?_
      refine lv_iload_n hx hb dX6_takes_29 rfl (lv_at hl 1 rfl) ?_
      refine va_iast hx hb hk.1 hP (cw_D hAd) hS 2 0 (rfl) rfl (vin_c (nn_of c4) (i32_nle c16) (by decide)) dX6_takes_30 (fun H locs hP _ hS => ?_)
      have hP : va_P D vwCl (cw ad cI cL cZ c_sr t_n t_r t_w s_w s_h s_c s_p s_s p_nx p_sz r_k r_r r_p l_z q_z t_t b_l b_b b_n r_t l_l l_b l_n q_l q_b q_n (upd t_le t_n.toNatClampNeg p1) s_cs s_ps s_ha s_en pk ik s_ro s_me s_be s_se s_co pl pb pn il ib im l_a q_a) H := hP
      refine lv_aload_n hx hb dX6_takes_31 rfl (lv_at hl 0 rfl) ?_
      refine lv_dup hx hb dX6_takes_32 rfl ?_
      refine va_get (D := D) (ci := 6) (v := .int t_n) (C := RX6) (T := TX6) (N := 5) hx hb hts u_X6 hown hk.1 hP 1 rfl rfl 1 (by decide) (hts _ q1_30) (fun _ h9 => h9) rfl dX6_takes_33 ?_
      refine lv_iconst (v := 1) hx hb dX6_takes_36 (by decide) ?_
      refine lv_iadd hx hb dX6_takes_37 ?_
      refine va_put (D := D) (ci := 6) (v := .int (t_n + 1)) (ty := .int) (C := RX6) (T := TX6) (N := 5) hx hb hts u_X6 tyX6 tyX6_ok nmX6 hown hk.1 hP (cw_D hAd) hS 1 rfl rfl 1 (by decide) (hts _ q1_30) (fun _ h9 => h9) rfl (tyX6_ok 1 (by decide)) rfl rfl (Nat.le_of_ble_eq_true rfl) dX6_takes_38 (fun H locs hP _ hS => ?_)
      have hP : va_P D vwCl (cw ad cI cL cZ c_sr (t_n + 1) t_r t_w s_w s_h s_c s_p s_s p_nx p_sz r_k r_r r_p l_z q_z t_t b_l b_b b_n r_t l_l l_b l_n q_l q_b q_n (upd t_le t_n.toNatClampNeg p1) s_cs s_ps s_ha s_en pk ik s_ro s_me s_be s_se s_co pl pb pn il ib im l_a q_a) H := hP
      refine lv_iconst (v := 1) hx hb dX6_takes_41 (by decide) ?_
      subst hr
      exact ret_z hx hb hrt hlocks bz_1 hP hS dX6_takes_42
    · have hr := (if_neg c16).symm.trans hr
      refine lv_iconst (v := 0) hx hb dX6_takes_19 (by decide) ?_
      subst hr
      exact ret_z hx hb hrt hlocks bz_0 hP hS dX6_takes_20
theorem hd_X6_endsRow : yX6_endsRow.cls = RX6 ∧ yX6_endsRow.cls ≠ "java/lang/invoke/MethodHandle" ∧ yX6_endsRow.cls ≠ "java/lang/invoke/VarHandle" ∧ (parseMethodDescriptor yX6_endsRow.desc).map (fun d => d.parameters.length) = some 1 := by decide +kernel
def f_X6_endsRow (p1 : Int32) (t_r : Int32) (t_w : Int32) : Int32 := (if p1 ≤ 0 then 0 else (if t_r = 0 then 1 else (if p1 = t_w then 1 else 0)))
set_option maxHeartbeats 4000000 in
set_option maxRecDepth 100000 in
theorem c_X6_endsRow (l : Launch) (D : va_G) (cI cL cZ : ClassId) (ad : Nat → Nat) (c_sr t_n t_r t_w s_w s_h s_c s_p s_s p_nx p_sz r_k r_r r_p l_z q_z : Int32) (t_t b_l b_b b_n r_t l_l l_b l_n q_l q_b q_n : Int64) (t_le s_cs s_ps s_ha s_en pk ik : Nat → Int32) (s_ro s_me s_be s_se s_co pl pb pn il ib im l_a q_a : Nat → Int64) (hAd : cInj ad) (p1 : Int32) (r : Int32) (hr : f_X6_endsRow p1 t_r t_w = r) : MZ l yX6_endsRow (Cond.code yX6_endsRow cX6_endsRow 2 (some .boolean) :: W0) 0 0 D cI cL cZ (cAd ad) [.ref (ad 1), .int p1] (cw ad cI cL cZ c_sr t_n t_r t_w s_w s_h s_c s_p s_s p_nx p_sz r_k r_r r_p l_z q_z t_t b_l b_b b_n r_t l_l l_b l_n q_l q_b q_n t_le s_cs s_ps s_ha s_en pk ik s_ro s_me s_be s_se s_co pl pb pn il ib im l_a q_a) r (cw ad cI cL cZ c_sr t_n t_r t_w s_w s_h s_c s_p s_s p_nx p_sz r_k r_r r_p l_z q_z t_t b_l b_b b_n r_t l_l l_b l_n q_l q_b q_n t_le s_cs s_ps s_ha s_en pk ik s_ro s_me s_be s_se s_co pl pb pn il ib im l_a q_a) := by
  refine mk_start (cc := cX6_endsRow) (maxL := 2) (ret := (some .boolean)) (by decide) rfl (Nat.le_of_ble_eq_true rfl) ?_
  intro p e s m below meth c ls C hP hS hl
  obtain ⟨hx, hb, hml, hrt, hlocks, hown, hts, hk⟩ := C
  have hown : s.vm.findClass RX6 = some m.cls := hown
  have hl : lv_has ls 2 [(0, .ref (ad 1)), (1, .int p1)] := hl
  rw [f_X6_endsRow] at hr
  refine lv_iload_n hx hb dX6_endsRow_0 rfl (lv_at hl 1 rfl) ?_
  refine lv_if_le (tgt := 23) hx hb dX6_endsRow_1 (by decide) (fun c1 => ?_) (fun c1 => ?_)
  · have hr := (if_pos c1).symm.trans hr
    refine lv_iconst (v := 0) hx hb dX6_endsRow_23 (by decide) ?_
    subst hr
    exact ret_z hx hb hrt hlocks bz_0 hP hS dX6_endsRow_24
  · have hr := (if_neg c1).symm.trans hr
    refine lv_aload_n hx hb dX6_endsRow_4 rfl (lv_at hl 0 rfl) ?_
    refine va_get (D := D) (ci := 6) (v := .int t_r) (C := RX6) (T := TX6) (N := 5) hx hb hts u_X6 hown hk.1 hP 1 rfl rfl 2 (by decide) (hts _ q1_32) (fun _ h9 => h9) rfl dX6_endsRow_5 ?_
    refine lv_if_eq (tgt := 19) hx hb dX6_endsRow_8 (by decide) (fun c8 => ?_) (fun c8 => ?_)
    · have hr := (if_pos c8).symm.trans hr
      refine lv_iconst (v := 1) hx hb dX6_endsRow_19 (by decide) ?_
      refine lv_goto (tgt := 24) hx hb dX6_endsRow_20 (by decide) ?_
      subst hr
      exact ret_z hx hb hrt hlocks bz_1 hP hS dX6_endsRow_24
    · have hr := (if_neg c8).symm.trans hr
      refine lv_iload_n hx hb dX6_endsRow_11 rfl (lv_at hl 1 rfl) ?_
      refine lv_aload_n hx hb dX6_endsRow_12 rfl (lv_at hl 0 rfl) ?_
      refine va_get (D := D) (ci := 6) (v := .int t_w) (C := RX6) (T := TX6) (N := 5) hx hb hts u_X6 hown hk.1 hP 1 rfl rfl 3 (by decide) (hts _ q1_34) (fun _ h9 => h9) rfl dX6_endsRow_13 ?_
      refine lv_icmp_ne (tgt := 23) hx hb dX6_endsRow_16 (by decide) (fun c16 => ?_) (fun c16 => ?_)
      · have hr := (if_neg c16).symm.trans hr
        refine lv_iconst (v := 0) hx hb dX6_endsRow_23 (by decide) ?_
        subst hr
        exact ret_z hx hb hrt hlocks bz_0 hP hS dX6_endsRow_24
      · have hr := (if_pos c16).symm.trans hr
        refine lv_iconst (v := 1) hx hb dX6_endsRow_19 (by decide) ?_
        refine lv_goto (tgt := 24) hx hb dX6_endsRow_20 (by decide) ?_
        subst hr
        exact ret_z hx hb hrt hlocks bz_1 hP hS dX6_endsRow_24
theorem hd_X6_fitsRow : yX6_fitsRow.cls = RX6 ∧ yX6_fitsRow.cls ≠ "java/lang/invoke/MethodHandle" ∧ yX6_fitsRow.cls ≠ "java/lang/invoke/VarHandle" ∧ (parseMethodDescriptor yX6_fitsRow.desc).map (fun d => d.parameters.length) = some 1 := by decide +kernel
def f_X6_fitsRow (p1 : Int32) (t_r : Int32) (t_w : Int32) : Int32 := (if 4 ≤ t_r then 0 else (if t_r = 0 then (if 4 ≤ p1 then 0 else 1) else (if t_w ≤ p1 then 0 else 1)))
set_option maxHeartbeats 4000000 in
set_option maxRecDepth 100000 in
theorem c_X6_fitsRow (l : Launch) (D : va_G) (cI cL cZ : ClassId) (ad : Nat → Nat) (c_sr t_n t_r t_w s_w s_h s_c s_p s_s p_nx p_sz r_k r_r r_p l_z q_z : Int32) (t_t b_l b_b b_n r_t l_l l_b l_n q_l q_b q_n : Int64) (t_le s_cs s_ps s_ha s_en pk ik : Nat → Int32) (s_ro s_me s_be s_se s_co pl pb pn il ib im l_a q_a : Nat → Int64) (hAd : cInj ad) (p1 : Int32) (r : Int32) (hr : f_X6_fitsRow p1 t_r t_w = r) : MZ l yX6_fitsRow (Cond.code yX6_fitsRow cX6_fitsRow 2 (some .boolean) :: W0) 0 0 D cI cL cZ (cAd ad) [.ref (ad 1), .int p1] (cw ad cI cL cZ c_sr t_n t_r t_w s_w s_h s_c s_p s_s p_nx p_sz r_k r_r r_p l_z q_z t_t b_l b_b b_n r_t l_l l_b l_n q_l q_b q_n t_le s_cs s_ps s_ha s_en pk ik s_ro s_me s_be s_se s_co pl pb pn il ib im l_a q_a) r (cw ad cI cL cZ c_sr t_n t_r t_w s_w s_h s_c s_p s_s p_nx p_sz r_k r_r r_p l_z q_z t_t b_l b_b b_n r_t l_l l_b l_n q_l q_b q_n t_le s_cs s_ps s_ha s_en pk ik s_ro s_me s_be s_se s_co pl pb pn il ib im l_a q_a) := by
  refine mk_start (cc := cX6_fitsRow) (maxL := 2) (ret := (some .boolean)) (by decide) rfl (Nat.le_of_ble_eq_true rfl) ?_
  intro p e s m below meth c ls C hP hS hl
  obtain ⟨hx, hb, hml, hrt, hlocks, hown, hts, hk⟩ := C
  have hown : s.vm.findClass RX6 = some m.cls := hown
  have hl : lv_has ls 2 [(0, .ref (ad 1)), (1, .int p1)] := hl
  rw [f_X6_fitsRow] at hr
  refine lv_aload_n hx hb dX6_fitsRow_0 rfl (lv_at hl 0 rfl) ?_
  refine va_get (D := D) (ci := 6) (v := .int t_r) (C := RX6) (T := TX6) (N := 5) hx hb hts u_X6 hown hk.1 hP 1 rfl rfl 2 (by decide) (hts _ q1_32) (fun _ h9 => h9) rfl dX6_fitsRow_1 ?_
  refine lv_iconst (v := 4) hx hb dX6_fitsRow_4 (by decide) ?_
  refine lv_icmp_ge (tgt := 31) hx hb dX6_fitsRow_5 (by decide) (fun c5 => ?_) (fun c5 => ?_)
  · have hr := (if_pos c5).symm.trans hr
    refine lv_iconst (v := 0) hx hb dX6_fitsRow_31 (by decide) ?_
    subst hr
    exact ret_z hx hb hrt hlocks bz_0 hP hS dX6_fitsRow_32
  · have hr := (if_neg c5).symm.trans hr
    refine lv_iload_n hx hb dX6_fitsRow_8 rfl (lv_at hl 1 rfl) ?_
    refine lv_aload_n hx hb dX6_fitsRow_9 rfl (lv_at hl 0 rfl) ?_
    refine va_get (D := D) (ci := 6) (v := .int t_r) (C := RX6) (T := TX6) (N := 5) hx hb hts u_X6 hown hk.1 hP 1 rfl rfl 2 (by decide) (hts _ q1_32) (fun _ h9 => h9) rfl dX6_fitsRow_10 ?_
    refine lv_if_ne (tgt := 20) hx hb dX6_fitsRow_13 (by decide) (fun c13 => ?_) (fun c13 => ?_)
    · have hr := (if_neg c13).symm.trans hr
      refine lv_aload_n hx hb dX6_fitsRow_20 rfl (lv_at hl 0 rfl) ?_
      refine va_get (D := D) (ci := 6) (v := .int t_w) (C := RX6) (T := TX6) (N := 5) hx hb hts u_X6 hown hk.1 hP 1 rfl rfl 3 (by decide) (hts _ q1_34) (fun _ h9 => h9) rfl dX6_fitsRow_21 ?_
      refine lv_icmp_ge (tgt := 31) hx hb dX6_fitsRow_24 (by decide) (fun c24 => ?_) (fun c24 => ?_)
      · have hr := (if_pos c24).symm.trans hr
        refine lv_iconst (v := 0) hx hb dX6_fitsRow_31 (by decide) ?_
        subst hr
        exact ret_z hx hb hrt hlocks bz_0 hP hS dX6_fitsRow_32
      · have hr := (if_neg c24).symm.trans hr
        refine lv_iconst (v := 1) hx hb dX6_fitsRow_27 (by decide) ?_
        refine lv_goto (tgt := 32) hx hb dX6_fitsRow_28 (by decide) ?_
        subst hr
        exact ret_z hx hb hrt hlocks bz_1 hP hS dX6_fitsRow_32
    · have hr := (if_pos c13).symm.trans hr
      refine lv_iconst (v := 4) hx hb dX6_fitsRow_16 (by decide) ?_
      refine lv_goto (tgt := 24) hx hb dX6_fitsRow_17 (by decide) ?_
      refine lv_icmp_ge (tgt := 31) hx hb dX6_fitsRow_24 (by decide) (fun c24 => ?_) (fun c24 => ?_)
      · have hr := (if_pos c24).symm.trans hr
        refine lv_iconst (v := 0) hx hb dX6_fitsRow_31 (by decide) ?_
        subst hr
        exact ret_z hx hb hrt hlocks bz_0 hP hS dX6_fitsRow_32
      · have hr := (if_neg c24).symm.trans hr
        refine lv_iconst (v := 1) hx hb dX6_fitsRow_27 (by decide) ?_
        refine lv_goto (tgt := 32) hx hb dX6_fitsRow_28 (by decide) ?_
        subst hr
        exact ret_z hx hb hrt hlocks bz_1 hP hS dX6_fitsRow_32
theorem hd_X6_read : yX6_read.cls = RX6 ∧ yX6_read.cls ≠ "java/lang/invoke/MethodHandle" ∧ yX6_read.cls ≠ "java/lang/invoke/VarHandle" ∧ (parseMethodDescriptor yX6_read.desc).map (fun d => d.parameters.length) = some 0 := by decide +kernel
def F_X6_read_21 (t_n : Int32) (t_le : Nat → Int32) {β : Type} (k0 : Int32 → Int32 → Int32 → Int64 → β) (k1 : Int32 → Int32 → Int32 → Int64 → β) : Nat → Int32 → Int32 → Int32 → Int32 → Int32 → Int64 → β
  | 0, x1, x2, x3, t_r, t_w, t_t => k0 x2 t_r t_w t_t
  | n + 1, x1, x2, x3, t_r, t_w, t_t => (if t_n ≤ x3 then k0 x2 t_r t_w t_t else (if (f_X7_at x3 40 t_le) = 32 then F_X6_read_21 t_n t_le k0 k1 n x1 x2 (x3 + 1) t_r t_w t_t else (if (f_X7_at x3 40 t_le) = 59 then (if (f_X6_endsRow x2 t_r t_w) = 0 then (if (f_X6_numberOfSign (f_X7_at x3 40 t_le)) = ((-2)) then k1 x3 t_r t_w t_t else (if (f_X6_fitsRow x2 t_r t_w) = 0 then k1 x3 t_r t_w t_t else F_X6_read_21 t_n t_le k0 k1 n (x1 + 1) (x2 + 1) (x3 + 1) t_r t_w (f_X0_withNumber t_t x1 (f_X6_numberOfSign (f_X7_at x3 40 t_le))))) else F_X6_read_21 t_n t_le k0 k1 n x1 0 (x3 + 1) (t_r + 1) x2 t_t) else (if (f_X6_numberOfSign (f_X7_at x3 40 t_le)) = ((-2)) then k1 x3 t_r t_w t_t else (if (f_X6_fitsRow x2 t_r t_w) = 0 then k1 x3 t_r t_w t_t else F_X6_read_21 t_n t_le k0 k1 n (x1 + 1) (x2 + 1) (x3 + 1) t_r t_w (f_X0_withNumber t_t x1 (f_X6_numberOfSign (f_X7_at x3 40 t_le))))))))
def f_X6_read (t_n : Int32) (t_le : Nat → Int32) : Int32 × Int32 × Int32 × Int64 := F_X6_read_21 t_n t_le (fun z1 z2 z3 z4 => (if z2 = 0 then (t_n, z2, z3, z4) else (if z1 ≤ 0 then ((-1), z2, z3, z4) else (t_n, z2, z3, z4)))) (fun z5 z6 z7 z8 => (z5, z6, z7, z8)) (fu t_n (0 : Int32)) 0 0 0 0 0 0
set_option maxHeartbeats 4000000 in
set_option maxRecDepth 100000 in
theorem lp_X6_read_21 (l : Launch) (D : va_G) (cI cL cZ : ClassId) (ad : Nat → Nat) (c_sr t_n s_w s_h s_c s_p s_s p_nx p_sz r_k r_r r_p l_z q_z : Int32) (b_l b_b b_n r_t l_l l_b l_n q_l q_b q_n : Int64) (t_le s_cs s_ps s_ha s_en pk ik : Nat → Int32) (s_ro s_me s_be s_se s_co pl pb pn il ib im l_a q_a : Nat → Int64) {p : Program} {e : Env} {s : State} {m : MethodId} {args : Array Value} {below : List Frame} {meth : Method} {c : Code} {Q : State → Prop} (C : Cx p s m args meth c cX6_read 6 (some .int) W0 RX6 D cI cL cZ) (hAd : cInj ad) {β : Type} (k0 : Int32 → Int32 → Int32 → Int64 → β) (k1 : Int32 → Int32 → Int32 → Int64 → β) (r : β)
    (h0 : ∀ (e2 t_r t_w : Int32) (t_t : Int64) (H : Heap) (locs : List Loc) (ls : Array Slot), k0 e2 t_r t_w t_t = r → va_P D vwCl (cw ad cI cL cZ c_sr t_n t_r t_w s_w s_h s_c s_p s_s p_nx p_sz r_k r_r r_p l_z q_z t_t b_l b_b b_n r_t l_l l_b l_n q_l q_b q_n t_le s_cs s_ps s_ha s_en pk ik s_ro s_me s_be s_se s_co pl pb pn il ib im l_a q_a) H → va_S (cAd ad) s.heap H locs → lv_has ls 6 [(0, .ref (ad 1)), (2, .int e2)] → W p l e (rmS 1 25) s m args below meth c H locs 0 0 Q (F0 m 137 ls []))
    (h1 : ∀ (e3 t_r t_w : Int32) (t_t : Int64) (H : Heap) (locs : List Loc) (ls : Array Slot), k1 e3 t_r t_w t_t = r → va_P D vwCl (cw ad cI cL cZ c_sr t_n t_r t_w s_w s_h s_c s_p s_s p_nx p_sz r_k r_r r_p l_z q_z t_t b_l b_b b_n r_t l_l l_b l_n q_l q_b q_n t_le s_cs s_ps s_ha s_en pk ik s_ro s_me s_be s_se s_co pl pb pn il ib im l_a q_a) H → va_S (cAd ad) s.heap H locs → lv_has ls 6 [(3, .int e3)] → W p l e (rmS 1 25) s m args below meth c H locs 0 0 Q (F0 m 129 ls [])) :
    ∀ (n : Nat) (x1 x2 x3 t_r t_w : Int32) (t_t : Int64) (H : Heap) (locs : List Loc) (ls : Array Slot), fuU n t_n x3 → F_X6_read_21 t_n t_le k0 k1 n x1 x2 x3 t_r t_w t_t = r → va_P D vwCl (cw ad cI cL cZ c_sr t_n t_r t_w s_w s_h s_c s_p s_s p_nx p_sz r_k r_r r_p l_z q_z t_t b_l b_b b_n r_t l_l l_b l_n q_l q_b q_n t_le s_cs s_ps s_ha s_en pk ik s_ro s_me s_be s_se s_co pl pb pn il ib im l_a q_a) H → va_S (cAd ad) s.heap H locs → lv_has ls 6 [(0, .ref (ad 1)), (1, .int x1), (2, .int x2), (3, .int x3)] → W p l e (rmS 1 25) s m args below meth c H locs 0 0 Q (F0 m 21 ls []) := by
  obtain ⟨hx, hb, hml, hrt, hlocks, hown, hts, hk⟩ := C
  intro n
  induction n with
  | zero =>
    intro x1 x2 x3 t_r t_w t_t H locs ls hf
    exact absurd hf.1 (Nat.lt_irrefl 0)
  | succ n ih =>
    intro x1 x2 x3 t_r t_w t_t H locs ls hf hr hP hS hl
    rw [F_X6_read_21] at hr
    refine lv_iload_n hx hb dX6_read_21 rfl (lv_at hl 3 rfl) ?_
    refine lv_aload_n hx hb dX6_read_22 rfl (lv_at hl 0 rfl) ?_
    refine va_get (D := D) (ci := 6) (v := .int t_n) (C := RX6) (T := TX6) (N := 5) hx hb hts u_X6 hown hk.1 hP 1 rfl rfl 1 (by decide) (hts _ q1_30) (fun _ h9 => h9) rfl dX6_read_23 ?_
    refine lv_icmp_ge (tgt := 137) hx hb dX6_read_26 (by decide) (fun c26 => ?_) (fun c26 => ?_)
    · have hr := (if_pos c26).symm.trans hr
      exact h0 x2 t_r t_w t_t _ _ _ hr hP hS (lv_sub hl [0, 2] rfl)
    · have hr := (if_neg c26).symm.trans hr
      refine lv_aload_n hx hb dX6_read_29 rfl (lv_at hl 0 rfl) ?_
      refine va_get (D := D) (ci := 6) (v := .ref (ad 2)) (C := RX6) (T := TX6) (N := 5) hx hb hts u_X6 hown hk.1 hP 1 rfl rfl 0 (by decide) (hts _ q1_29) (fun _ h9 => h9) rfl dX6_read_30 ?_
      refine lv_iload_n hx hb dX6_read_33 rfl (lv_at hl 3 rfl) ?_
      refine go_i (ru_N (n := 2) ⟨hx, hb, hml, hown, hts⟩ hk hP (c_X7_at l D cI cL cZ (cAd ad) (cw ad cI cL cZ c_sr t_n t_r t_w s_w s_h s_c s_p s_s p_nx p_sz r_k r_r r_p l_z q_z t_t b_l b_b b_n r_t l_l l_b l_n q_l q_b q_n t_le s_cs s_ps s_ha s_en pk ik s_ro s_me s_be s_se s_co pl pb pn il ib im l_a q_a) 2 (ad 2) 40 _ rfl (cw_D hAd) t_le x3 _ rfl (by decide)) ⟨va_cnB 2 hts (gN q2_37) rfl rfl rfl (hk.2 _ nwm_X6_29) (hts _ q1_1) hd_X7_at ⟨Nat.le_of_ble_eq_true rfl, Nat.le_of_ble_eq_true rfl⟩, hts _ q2_36, trivial⟩ rfl hl.1 rfl (Nat.le_of_ble_eq_true rfl) dX6_read_34 ⟨Nat.zero_le _, Nat.zero_le _⟩) hS (fun _ h => h) (fun H locs hP hS => ?_)
      have hP : va_P D vwCl (cw ad cI cL cZ c_sr t_n t_r t_w s_w s_h s_c s_p s_s p_nx p_sz r_k r_r r_p l_z q_z t_t b_l b_b b_n r_t l_l l_b l_n q_l q_b q_n t_le s_cs s_ps s_ha s_en pk ik s_ro s_me s_be s_se s_co pl pb pn il ib im l_a q_a) H := hP
      refine lv_istore (lv' := [(4, .int (f_X7_at x3 40 t_le)), (0, .ref (ad 1)), (1, .int x1), (2, .int x2), (3, .int x3)]) hx hb dX6_read_37 hl (by decide) rfl (fun ls hl => ?_)
      refine lv_iload hx hb dX6_read_39 (lv_at hl 0 rfl) ?_
      refine lv_bipush (v := 32) hx hb dX6_read_41 (by decide) ?_
      refine lv_icmp_ne (tgt := 49) hx hb dX6_read_43 (by decide) (fun c43 => ?_) (fun c43 => ?_)
      · have hr := (if_neg c43).symm.trans hr
        refine lv_iload hx hb dX6_read_49 (lv_at hl 0 rfl) ?_
        refine go_i (ru_S (n := 1) ⟨hx, hb, hml, hown, hts⟩ hk hP (c_X6_numberOfSign l D cI cL cZ (cAd ad) (cw ad cI cL cZ c_sr t_n t_r t_w s_w s_h s_c s_p s_s p_nx p_sz r_k r_r r_p l_z q_z t_t b_l b_b b_n r_t l_l l_b l_n q_l q_b q_n t_le s_cs s_ps s_ha s_en pk ik s_ro s_me s_be s_se s_co pl pb pn il ib im l_a q_a) (f_X7_at x3 40 t_le) _ rfl) (va_cwS 1 hts (gS q2_126 q2_127 q1_2 q2_128) rfl rfl rfl hd_X6_numberOfSign ⟨Nat.le_of_ble_eq_true rfl, Nat.le_of_ble_eq_true rfl⟩) rfl hl.1 rfl (Nat.le_of_ble_eq_true rfl) dX6_read_51 ⟨Nat.zero_le _, Nat.zero_le _⟩) hS (fun _ h => h) (fun H locs hP hS => ?_)
        have hP : va_P D vwCl (cw ad cI cL cZ c_sr t_n t_r t_w s_w s_h s_c s_p s_s p_nx p_sz r_k r_r r_p l_z q_z t_t b_l b_b b_n r_t l_l l_b l_n q_l q_b q_n t_le s_cs s_ps s_ha s_en pk ik s_ro s_me s_be s_se s_co pl pb pn il ib im l_a q_a) H := hP
        refine lv_istore (lv' := [(5, .int (f_X6_numberOfSign (f_X7_at x3 40 t_le))), (4, .int (f_X7_at x3 40 t_le)), (0, .ref (ad 1)), (1, .int x1), (2, .int x2), (3, .int x3)]) hx hb dX6_read_54 hl (by decide) rfl (fun ls hl => ?_)
        refine lv_iload hx hb dX6_read_56 (lv_at hl 1 rfl) ?_
        refine lv_bipush (v := 59) hx hb dX6_read_58 (by decide) ?_
        refine lv_icmp_ne (tgt := 91) hx hb dX6_read_60 (by decide) (fun c60 => ?_) (fun c60 => ?_)
        · have hr := (if_neg c60).symm.trans hr
          refine lv_iload hx hb dX6_read_91 (lv_at hl 0 rfl) ?_
          refine lv_bipush (v := (-2)) hx hb dX6_read_93 (by decide) ?_
          refine lv_icmp_eq (tgt := 129) hx hb dX6_read_95 (by decide) (fun c95 => ?_) (fun c95 => ?_)
          · have hr := (if_pos c95).symm.trans hr
            exact h1 x3 t_r t_w t_t _ _ _ hr hP hS (lv_sub hl [5] rfl)
          · have hr := (if_neg c95).symm.trans hr
            refine lv_aload_n hx hb dX6_read_98 rfl (lv_at hl 2 rfl) ?_
            refine lv_iload_n hx hb dX6_read_99 rfl (lv_at hl 4 rfl) ?_
            refine go_z (ru_V (n := 1) ⟨hx, hb, hml, hown, hts⟩ hk hP (c_X6_fitsRow l D cI cL cZ ad c_sr t_n t_r t_w s_w s_h s_c s_p s_s p_nx p_sz r_k r_r r_p l_z q_z t_t b_l b_b b_n r_t l_l l_b l_n q_l q_b q_n t_le s_cs s_ps s_ha s_en pk ik s_ro s_me s_be s_se s_co pl pb pn il ib im l_a q_a hAd x2 _ rfl) (cwV 1 hts (gV q2_133 q2_135 qs1_10 q1_2 q2_136) rfl rfl rfl hd_X6_fitsRow ⟨Nat.le_of_ble_eq_true rfl, Nat.le_of_ble_eq_true rfl⟩) (va_recv hk.1 hP (ci := 6) (q0 := 1) rfl rfl) rfl hl.1 rfl (Nat.le_of_ble_eq_true rfl) dX6_read_100 ⟨Nat.zero_le _, Nat.zero_le _⟩) hS (fun _ h => h) (fun H locs hz100 hP hS => ?_)
            have hP : va_P D vwCl (cw ad cI cL cZ c_sr t_n t_r t_w s_w s_h s_c s_p s_s p_nx p_sz r_k r_r r_p l_z q_z t_t b_l b_b b_n r_t l_l l_b l_n q_l q_b q_n t_le s_cs s_ps s_ha s_en pk ik s_ro s_me s_be s_se s_co pl pb pn il ib im l_a q_a) H := hP
            refine lv_if_eq (tgt := 129) hx hb dX6_read_103 (by decide) (fun c103 => ?_) (fun c103 => ?_)
            · have hr := (if_pos c103).symm.trans hr
              exact h1 x3 t_r t_w t_t _ _ _ hr hP hS (lv_sub hl [5] rfl)
            · have hr := (if_neg c103).symm.trans hr
              refine lv_aload_n hx hb dX6_read_106 rfl (lv_at hl 2 rfl) ?_
              refine lv_aload_n hx hb dX6_read_107 rfl (lv_at hl 2 rfl) ?_
              refine va_get (D := D) (ci := 6) (v := .long t_t) (C := RX6) (T := TX6) (N := 5) hx hb hts u_X6 hown hk.1 hP 1 rfl rfl 4 (by decide) (hts _ q1_36) (fun _ h9 => h9) rfl dX6_read_108 ?_
              refine lv_iload_n hx hb dX6_read_111 rfl (lv_at hl 3 rfl) ?_
              refine lv_iload hx hb dX6_read_112 (lv_at hl 0 rfl) ?_
              refine go_l (ru_S (n := 3) ⟨hx, hb, hml, hown, hts⟩ hk hP (c_X0_withNumber l D cI cL cZ (cAd ad) (cw ad cI cL cZ c_sr t_n t_r t_w s_w s_h s_c s_p s_s p_nx p_sz r_k r_r r_p l_z q_z t_t b_l b_b b_n r_t l_l l_b l_n q_l q_b q_n t_le s_cs s_ps s_ha s_en pk ik s_ro s_me s_be s_se s_co pl pb pn il ib im l_a q_a) t_t x1 (f_X6_numberOfSign (f_X7_at x3 40 t_le)) _ rfl) (va_cwS 3 hts (gS q2_137 q2_138 q1_4 q2_139) rfl rfl rfl hd_X0_withNumber ⟨Nat.le_of_ble_eq_true rfl, Nat.le_of_ble_eq_true rfl⟩) rfl hl.1 rfl (Nat.le_of_ble_eq_true rfl) dX6_read_114 ⟨Nat.zero_le _, Nat.zero_le _⟩) hS (fun _ h => h) (fun H locs hP hS => ?_)
              have hP : va_P D vwCl (cw ad cI cL cZ c_sr t_n t_r t_w s_w s_h s_c s_p s_s p_nx p_sz r_k r_r r_p l_z q_z t_t b_l b_b b_n r_t l_l l_b l_n q_l q_b q_n t_le s_cs s_ps s_ha s_en pk ik s_ro s_me s_be s_se s_co pl pb pn il ib im l_a q_a) H := hP
              refine va_put (D := D) (ci := 6) (v := .long (f_X0_withNumber t_t x1 (f_X6_numberOfSign (f_X7_at x3 40 t_le)))) (ty := .long) (C := RX6) (T := TX6) (N := 5) hx hb hts u_X6 tyX6 tyX6_ok nmX6 hown hk.1 hP (cw_D hAd) hS 1 rfl rfl 4 (by decide) (hts _ q1_36) (fun _ h9 => h9) rfl (tyX6_ok 4 (by decide)) rfl rfl (Nat.le_of_ble_eq_true rfl) dX6_read_117 (fun H locs hP _ hS => ?_)
              have hP : va_P D vwCl (cw ad cI cL cZ c_sr t_n t_r t_w s_w s_h s_c s_p s_s p_nx p_sz r_k r_r r_p l_z q_z (f_X0_withNumber t_t x1 (f_X6_numberOfSign (f_X7_at x3 40 t_le))) b_l b_b b_n r_t l_l l_b l_n q_l q_b q_n t_le s_cs s_ps s_ha s_en pk ik s_ro s_me s_be s_se s_co pl pb pn il ib im l_a q_a) H := hP
              refine lv_iinc (v := x1 + 1) (lv' := [(1, .int (x1 + 1)), (5, .int (f_X6_numberOfSign (f_X7_at x3 40 t_le))), (4, .int (f_X7_at x3 40 t_le)), (0, .ref (ad 1)), (2, .int x2), (3, .int x3)]) hx hb dX6_read_120 hl (k := 3) rfl rfl (by decide) rfl (fun ls hl => ?_)
              refine lv_iinc (v := x2 + 1) (lv' := [(2, .int (x2 + 1)), (1, .int (x1 + 1)), (5, .int (f_X6_numberOfSign (f_X7_at x3 40 t_le))), (4, .int (f_X7_at x3 40 t_le)), (0, .ref (ad 1)), (3, .int x3)]) hx hb dX6_read_123 hl (k := 4) rfl rfl (by decide) rfl (fun ls hl => ?_)
              refine lv_goto (tgt := 131) hx hb dX6_read_126 (by decide) ?_
              refine lv_iinc (v := x3 + 1) (lv' := [(3, .int (x3 + 1)), (2, .int (x2 + 1)), (1, .int (x1 + 1)), (5, .int (f_X6_numberOfSign (f_X7_at x3 40 t_le))), (4, .int (f_X7_at x3 40 t_le)), (0, .ref (ad 1))]) hx hb dX6_read_131 hl (k := 5) rfl rfl (by decide) rfl (fun ls hl => ?_)
              refine lv_goto (tgt := 21) hx hb dX6_read_134 (by decide) ?_
              exact ih (x1 + 1) (x2 + 1) (x3 + 1) t_r t_w (f_X0_withNumber t_t x1 (f_X6_numberOfSign (f_X7_at x3 40 t_le))) _ _ _ (fuU_s hf c26) hr hP hS (lv_sub hl [5, 2, 1, 0] rfl)
        · have hr := (if_pos c60).symm.trans hr
          refine lv_aload_n hx hb dX6_read_63 rfl (lv_at hl 2 rfl) ?_
          refine lv_iload_n hx hb dX6_read_64 rfl (lv_at hl 4 rfl) ?_
          refine go_z (ru_V (n := 1) ⟨hx, hb, hml, hown, hts⟩ hk hP (c_X6_endsRow l D cI cL cZ ad c_sr t_n t_r t_w s_w s_h s_c s_p s_s p_nx p_sz r_k r_r r_p l_z q_z t_t b_l b_b b_n r_t l_l l_b l_n q_l q_b q_n t_le s_cs s_ps s_ha s_en pk ik s_ro s_me s_be s_se s_co pl pb pn il ib im l_a q_a hAd x2 _ rfl) (cwV 1 hts (gV q2_129 q2_131 qs1_9 q1_2 q2_132) rfl rfl rfl hd_X6_endsRow ⟨Nat.le_of_ble_eq_true rfl, Nat.le_of_ble_eq_true rfl⟩) (va_recv hk.1 hP (ci := 6) (q0 := 1) rfl rfl) rfl hl.1 rfl (Nat.le_of_ble_eq_true rfl) dX6_read_65 ⟨Nat.zero_le _, Nat.zero_le _⟩) hS (fun _ h => h) (fun H locs hz65 hP hS => ?_)
          have hP : va_P D vwCl (cw ad cI cL cZ c_sr t_n t_r t_w s_w s_h s_c s_p s_s p_nx p_sz r_k r_r r_p l_z q_z t_t b_l b_b b_n r_t l_l l_b l_n q_l q_b q_n t_le s_cs s_ps s_ha s_en pk ik s_ro s_me s_be s_se s_co pl pb pn il ib im l_a q_a) H := hP
          refine lv_if_eq (tgt := 91) hx hb dX6_read_68 (by decide) (fun c68 => ?_) (fun c68 => ?_)
          · have hr := (if_pos c68).symm.trans hr
            refine lv_iload hx hb dX6_read_91 (lv_at hl 0 rfl) ?_
            refine lv_bipush (v := (-2)) hx hb dX6_read_93 (by decide) ?_
            refine lv_icmp_eq (tgt := 129) hx hb dX6_read_95 (by decide) (fun c95 => ?_) (fun c95 => ?_)
            · have hr := (if_pos c95).symm.trans hr
              exact h1 x3 t_r t_w t_t _ _ _ hr hP hS (lv_sub hl [5] rfl)
            · have hr := (if_neg c95).symm.trans hr
              refine lv_aload_n hx hb dX6_read_98 rfl (lv_at hl 2 rfl) ?_
              refine lv_iload_n hx hb dX6_read_99 rfl (lv_at hl 4 rfl) ?_
              refine go_z (ru_V (n := 1) ⟨hx, hb, hml, hown, hts⟩ hk hP (c_X6_fitsRow l D cI cL cZ ad c_sr t_n t_r t_w s_w s_h s_c s_p s_s p_nx p_sz r_k r_r r_p l_z q_z t_t b_l b_b b_n r_t l_l l_b l_n q_l q_b q_n t_le s_cs s_ps s_ha s_en pk ik s_ro s_me s_be s_se s_co pl pb pn il ib im l_a q_a hAd x2 _ rfl) (cwV 1 hts (gV q2_133 q2_135 qs1_10 q1_2 q2_136) rfl rfl rfl hd_X6_fitsRow ⟨Nat.le_of_ble_eq_true rfl, Nat.le_of_ble_eq_true rfl⟩) (va_recv hk.1 hP (ci := 6) (q0 := 1) rfl rfl) rfl hl.1 rfl (Nat.le_of_ble_eq_true rfl) dX6_read_100 ⟨Nat.zero_le _, Nat.zero_le _⟩) hS (fun _ h => h) (fun H locs hz100 hP hS => ?_)
              have hP : va_P D vwCl (cw ad cI cL cZ c_sr t_n t_r t_w s_w s_h s_c s_p s_s p_nx p_sz r_k r_r r_p l_z q_z t_t b_l b_b b_n r_t l_l l_b l_n q_l q_b q_n t_le s_cs s_ps s_ha s_en pk ik s_ro s_me s_be s_se s_co pl pb pn il ib im l_a q_a) H := hP
              refine lv_if_eq (tgt := 129) hx hb dX6_read_103 (by decide) (fun c103 => ?_) (fun c103 => ?_)
              · have hr := (if_pos c103).symm.trans hr
                exact h1 x3 t_r t_w t_t _ _ _ hr hP hS (lv_sub hl [5] rfl)
              · have hr := (if_neg c103).symm.trans hr
                refine lv_aload_n hx hb dX6_read_106 rfl (lv_at hl 2 rfl) ?_
                refine lv_aload_n hx hb dX6_read_107 rfl (lv_at hl 2 rfl) ?_
                refine va_get (D := D) (ci := 6) (v := .long t_t) (C := RX6) (T := TX6) (N := 5) hx hb hts u_X6 hown hk.1 hP 1 rfl rfl 4 (by decide) (hts _ q1_36) (fun _ h9 => h9) rfl dX6_read_108 ?_
                refine lv_iload_n hx hb dX6_read_111 rfl (lv_at hl 3 rfl) ?_
                refine lv_iload hx hb dX6_read_112 (lv_at hl 0 rfl) ?_
                refine go_l (ru_S (n := 3) ⟨hx, hb, hml, hown, hts⟩ hk hP (c_X0_withNumber l D cI cL cZ (cAd ad) (cw ad cI cL cZ c_sr t_n t_r t_w s_w s_h s_c s_p s_s p_nx p_sz r_k r_r r_p l_z q_z t_t b_l b_b b_n r_t l_l l_b l_n q_l q_b q_n t_le s_cs s_ps s_ha s_en pk ik s_ro s_me s_be s_se s_co pl pb pn il ib im l_a q_a) t_t x1 (f_X6_numberOfSign (f_X7_at x3 40 t_le)) _ rfl) (va_cwS 3 hts (gS q2_137 q2_138 q1_4 q2_139) rfl rfl rfl hd_X0_withNumber ⟨Nat.le_of_ble_eq_true rfl, Nat.le_of_ble_eq_true rfl⟩) rfl hl.1 rfl (Nat.le_of_ble_eq_true rfl) dX6_read_114 ⟨Nat.zero_le _, Nat.zero_le _⟩) hS (fun _ h => h) (fun H locs hP hS => ?_)
                have hP : va_P D vwCl (cw ad cI cL cZ c_sr t_n t_r t_w s_w s_h s_c s_p s_s p_nx p_sz r_k r_r r_p l_z q_z t_t b_l b_b b_n r_t l_l l_b l_n q_l q_b q_n t_le s_cs s_ps s_ha s_en pk ik s_ro s_me s_be s_se s_co pl pb pn il ib im l_a q_a) H := hP
                refine va_put (D := D) (ci := 6) (v := .long (f_X0_withNumber t_t x1 (f_X6_numberOfSign (f_X7_at x3 40 t_le)))) (ty := .long) (C := RX6) (T := TX6) (N := 5) hx hb hts u_X6 tyX6 tyX6_ok nmX6 hown hk.1 hP (cw_D hAd) hS 1 rfl rfl 4 (by decide) (hts _ q1_36) (fun _ h9 => h9) rfl (tyX6_ok 4 (by decide)) rfl rfl (Nat.le_of_ble_eq_true rfl) dX6_read_117 (fun H locs hP _ hS => ?_)
                have hP : va_P D vwCl (cw ad cI cL cZ c_sr t_n t_r t_w s_w s_h s_c s_p s_s p_nx p_sz r_k r_r r_p l_z q_z (f_X0_withNumber t_t x1 (f_X6_numberOfSign (f_X7_at x3 40 t_le))) b_l b_b b_n r_t l_l l_b l_n q_l q_b q_n t_le s_cs s_ps s_ha s_en pk ik s_ro s_me s_be s_se s_co pl pb pn il ib im l_a q_a) H := hP
                refine lv_iinc (v := x1 + 1) (lv' := [(1, .int (x1 + 1)), (5, .int (f_X6_numberOfSign (f_X7_at x3 40 t_le))), (4, .int (f_X7_at x3 40 t_le)), (0, .ref (ad 1)), (2, .int x2), (3, .int x3)]) hx hb dX6_read_120 hl (k := 3) rfl rfl (by decide) rfl (fun ls hl => ?_)
                refine lv_iinc (v := x2 + 1) (lv' := [(2, .int (x2 + 1)), (1, .int (x1 + 1)), (5, .int (f_X6_numberOfSign (f_X7_at x3 40 t_le))), (4, .int (f_X7_at x3 40 t_le)), (0, .ref (ad 1)), (3, .int x3)]) hx hb dX6_read_123 hl (k := 4) rfl rfl (by decide) rfl (fun ls hl => ?_)
                refine lv_goto (tgt := 131) hx hb dX6_read_126 (by decide) ?_
                refine lv_iinc (v := x3 + 1) (lv' := [(3, .int (x3 + 1)), (2, .int (x2 + 1)), (1, .int (x1 + 1)), (5, .int (f_X6_numberOfSign (f_X7_at x3 40 t_le))), (4, .int (f_X7_at x3 40 t_le)), (0, .ref (ad 1))]) hx hb dX6_read_131 hl (k := 5) rfl rfl (by decide) rfl (fun ls hl => ?_)
                refine lv_goto (tgt := 21) hx hb dX6_read_134 (by decide) ?_
                exact ih (x1 + 1) (x2 + 1) (x3 + 1) t_r t_w (f_X0_withNumber t_t x1 (f_X6_numberOfSign (f_X7_at x3 40 t_le))) _ _ _ (fuU_s hf c26) hr hP hS (lv_sub hl [5, 2, 1, 0] rfl)
          · have hr := (if_neg c68).symm.trans hr
            refine lv_aload_n hx hb dX6_read_71 rfl (lv_at hl 2 rfl) ?_
            refine lv_iload_n hx hb dX6_read_72 rfl (lv_at hl 4 rfl) ?_
            refine va_put (D := D) (ci := 6) (v := .int x2) (ty := .int) (C := RX6) (T := TX6) (N := 5) hx hb hts u_X6 tyX6 tyX6_ok nmX6 hown hk.1 hP (cw_D hAd) hS 1 rfl rfl 3 (by decide) (hts _ q1_34) (fun _ h9 => h9) rfl (tyX6_ok 3 (by decide)) rfl rfl (Nat.le_of_ble_eq_true rfl) dX6_read_73 (fun H locs hP _ hS => ?_)
            have hP : va_P D vwCl (cw ad cI cL cZ c_sr t_n t_r x2 s_w s_h s_c s_p s_s p_nx p_sz r_k r_r r_p l_z q_z t_t b_l b_b b_n r_t l_l l_b l_n q_l q_b q_n t_le s_cs s_ps s_ha s_en pk ik s_ro s_me s_be s_se s_co pl pb pn il ib im l_a q_a) H := hP
            refine lv_aload_n hx hb dX6_read_76 rfl (lv_at hl 2 rfl) ?_
            refine lv_dup hx hb dX6_read_77 rfl ?_
            refine va_get (D := D) (ci := 6) (v := .int t_r) (C := RX6) (T := TX6) (N := 5) hx hb hts u_X6 hown hk.1 hP 1 rfl rfl 2 (by decide) (hts _ q1_32) (fun _ h9 => h9) rfl dX6_read_78 ?_
            refine lv_iconst (v := 1) hx hb dX6_read_81 (by decide) ?_
            refine lv_iadd hx hb dX6_read_82 ?_
            refine va_put (D := D) (ci := 6) (v := .int (t_r + 1)) (ty := .int) (C := RX6) (T := TX6) (N := 5) hx hb hts u_X6 tyX6 tyX6_ok nmX6 hown hk.1 hP (cw_D hAd) hS 1 rfl rfl 2 (by decide) (hts _ q1_32) (fun _ h9 => h9) rfl (tyX6_ok 2 (by decide)) rfl rfl (Nat.le_of_ble_eq_true rfl) dX6_read_83 (fun H locs hP _ hS => ?_)
            have hP : va_P D vwCl (cw ad cI cL cZ c_sr t_n (t_r + 1) x2 s_w s_h s_c s_p s_s p_nx p_sz r_k r_r r_p l_z q_z t_t b_l b_b b_n r_t l_l l_b l_n q_l q_b q_n t_le s_cs s_ps s_ha s_en pk ik s_ro s_me s_be s_se s_co pl pb pn il ib im l_a q_a) H := hP
            refine lv_iconst (v := 0) hx hb dX6_read_86 (by decide) ?_
            refine lv_istore_n (lv' := [(2, .int 0), (5, .int (f_X6_numberOfSign (f_X7_at x3 40 t_le))), (4, .int (f_X7_at x3 40 t_le)), (0, .ref (ad 1)), (1, .int x1), (3, .int x3)]) hx hb dX6_read_87 rfl hl (by decide) rfl (fun ls hl => ?_)
            refine lv_goto (tgt := 131) hx hb dX6_read_88 (by decide) ?_
            refine lv_iinc (v := x3 + 1) (lv' := [(3, .int (x3 + 1)), (2, .int 0), (5, .int (f_X6_numberOfSign (f_X7_at x3 40 t_le))), (4, .int (f_X7_at x3 40 t_le)), (0, .ref (ad 1)), (1, .int x1)]) hx hb dX6_read_131 hl (k := 5) rfl rfl (by decide) rfl (fun ls hl => ?_)
            refine lv_goto (tgt := 21) hx hb dX6_read_134 (by decide) ?_
            exact ih x1 0 (x3 + 1) (t_r + 1) x2 t_t _ _ _ (fuU_s hf c26) hr hP hS (lv_sub hl [4, 5, 1, 0] rfl)
      · have hr := (if_pos c43).symm.trans hr
        refine lv_goto (tgt := 131) hx hb dX6_read_46 (by decide) ?_
        refine lv_iinc (v := x3 + 1) (lv' := [(3, .int (x3 + 1)), (4, .int (f_X7_at x3 40 t_le)), (0, .ref (ad 1)), (1, .int x1), (2, .int x2)]) hx hb dX6_read_131 hl (k := 4) rfl rfl (by decide) rfl (fun ls hl => ?_)
        refine lv_goto (tgt := 21) hx hb dX6_read_134 (by decide) ?_
        exact ih x1 x2 (x3 + 1) t_r t_w t_t _ _ _ (fuU_s hf c26) hr hP hS (lv_sub hl [2, 3, 4, 0] rfl)
set_option maxHeartbeats 4000000 in
set_option maxRecDepth 100000 in
theorem c_X6_read (l : Launch) (D : va_G) (cI cL cZ : ClassId) (ad : Nat → Nat) (c_sr t_n t_r t_w s_w s_h s_c s_p s_s p_nx p_sz r_k r_r r_p l_z q_z : Int32) (t_t b_l b_b b_n r_t l_l l_b l_n q_l q_b q_n : Int64) (t_le s_cs s_ps s_ha s_en pk ik : Nat → Int32) (s_ro s_me s_be s_se s_co pl pb pn il ib im l_a q_a : Nat → Int64) (hAd : cInj ad) (r : Int32 × Int32 × Int32 × Int64) (hr : f_X6_read t_n t_le = r) : MI l yX6_read (Cond.code yX6_read cX6_read 6 (some .int) :: W0) 1 25 D cI cL cZ (cAd ad) [.ref (ad 1)] (cw ad cI cL cZ c_sr t_n t_r t_w s_w s_h s_c s_p s_s p_nx p_sz r_k r_r r_p l_z q_z t_t b_l b_b b_n r_t l_l l_b l_n q_l q_b q_n t_le s_cs s_ps s_ha s_en pk ik s_ro s_me s_be s_se s_co pl pb pn il ib im l_a q_a) r.1 (cw ad cI cL cZ c_sr t_n r.2.1 r.2.2.1 s_w s_h s_c s_p s_s p_nx p_sz r_k r_r r_p l_z q_z r.2.2.2 b_l b_b b_n r_t l_l l_b l_n q_l q_b q_n t_le s_cs s_ps s_ha s_en pk ik s_ro s_me s_be s_se s_co pl pb pn il ib im l_a q_a) := by
  refine mk_start (cc := cX6_read) (maxL := 6) (ret := (some .int)) (by decide) rfl (Nat.le_of_ble_eq_true rfl) ?_
  intro p e s m below meth c ls C hP hS hl
  obtain ⟨hx, hb, hml, hrt, hlocks, hown, hts, hk⟩ := C
  have hown : s.vm.findClass RX6 = some m.cls := hown
  have hl : lv_has ls 6 [(0, .ref (ad 1))] := hl
  rw [f_X6_read] at hr
  refine lv_aload_n hx hb dX6_read_0 rfl (lv_at hl 0 rfl) ?_
  refine lv_iconst (v := 0) hx hb dX6_read_1 (by decide) ?_
  refine va_put (D := D) (ci := 6) (v := .int 0) (ty := .int) (C := RX6) (T := TX6) (N := 5) hx hb hts u_X6 tyX6 tyX6_ok nmX6 hown hk.1 hP (cw_D hAd) hS 1 rfl rfl 2 (by decide) (hts _ q1_32) (fun _ h9 => h9) rfl (tyX6_ok 2 (by decide)) rfl rfl (Nat.le_of_ble_eq_true rfl) dX6_read_2 (fun H locs hP _ hS => ?_)
  have hP : va_P D vwCl (cw ad cI cL cZ c_sr t_n 0 t_w s_w s_h s_c s_p s_s p_nx p_sz r_k r_r r_p l_z q_z t_t b_l b_b b_n r_t l_l l_b l_n q_l q_b q_n t_le s_cs s_ps s_ha s_en pk ik s_ro s_me s_be s_se s_co pl pb pn il ib im l_a q_a) H := hP
  refine lv_aload_n hx hb dX6_read_5 rfl (lv_at hl 0 rfl) ?_
  refine lv_iconst (v := 0) hx hb dX6_read_6 (by decide) ?_
  refine va_put (D := D) (ci := 6) (v := .int 0) (ty := .int) (C := RX6) (T := TX6) (N := 5) hx hb hts u_X6 tyX6 tyX6_ok nmX6 hown hk.1 hP (cw_D hAd) hS 1 rfl rfl 3 (by decide) (hts _ q1_34) (fun _ h9 => h9) rfl (tyX6_ok 3 (by decide)) rfl rfl (Nat.le_of_ble_eq_true rfl) dX6_read_7 (fun H locs hP _ hS => ?_)
  have hP : va_P D vwCl (cw ad cI cL cZ c_sr t_n 0 0 s_w s_h s_c s_p s_s p_nx p_sz r_k r_r r_p l_z q_z t_t b_l b_b b_n r_t l_l l_b l_n q_l q_b q_n t_le s_cs s_ps s_ha s_en pk ik s_ro s_me s_be s_se s_co pl pb pn il ib im l_a q_a) H := hP
  refine lv_aload_n hx hb dX6_read_10 rfl (lv_at hl 0 rfl) ?_
  refine lv_lconst (v := 0) hx hb dX6_read_11 (by decide) ?_
  refine va_put (D := D) (ci := 6) (v := .long 0) (ty := .long) (C := RX6) (T := TX6) (N := 5) hx hb hts u_X6 tyX6 tyX6_ok nmX6 hown hk.1 hP (cw_D hAd) hS 1 rfl rfl 4 (by decide) (hts _ q1_36) (fun _ h9 => h9) rfl (tyX6_ok 4 (by decide)) rfl rfl (Nat.le_of_ble_eq_true rfl) dX6_read_12 (fun H locs hP _ hS => ?_)
  have hP : va_P D vwCl (cw ad cI cL cZ c_sr t_n 0 0 s_w s_h s_c s_p s_s p_nx p_sz r_k r_r r_p l_z q_z 0 b_l b_b b_n r_t l_l l_b l_n q_l q_b q_n t_le s_cs s_ps s_ha s_en pk ik s_ro s_me s_be s_se s_co pl pb pn il ib im l_a q_a) H := hP
  refine lv_iconst (v := 0) hx hb dX6_read_15 (by decide) ?_
  refine lv_istore_n (lv' := [(1, .int 0), (0, .ref (ad 1))]) hx hb dX6_read_16 rfl hl (by decide) rfl (fun ls hl => ?_)
  refine lv_iconst (v := 0) hx hb dX6_read_17 (by decide) ?_
  refine lv_istore_n (lv' := [(2, .int 0), (1, .int 0), (0, .ref (ad 1))]) hx hb dX6_read_18 rfl hl (by decide) rfl (fun ls hl => ?_)
  refine lv_iconst (v := 0) hx hb dX6_read_19 (by decide) ?_
  refine lv_istore_n (lv' := [(3, .int 0), (2, .int 0), (1, .int 0), (0, .ref (ad 1))]) hx hb dX6_read_20 rfl hl (by decide) rfl (fun ls hl => ?_)
  refine lp_X6_read_21 l D cI cL cZ ad c_sr t_n s_w s_h s_c s_p s_s p_nx p_sz r_k r_r r_p l_z q_z b_l b_b b_n r_t l_l l_b l_n q_l q_b q_n t_le s_cs s_ps s_ha s_en pk ik s_ro s_me s_be s_se s_co pl pb pn il ib im l_a q_a ⟨hx, hb, hml, hrt, hlocks, hown, hts, hk⟩ hAd _ _ _ (fun z1 z2 z3 z4 H locs ls hr hP hS hl => ?_) (fun z5 z6 z7 z8 H locs ls hr hP hS hl => ?_) (fu t_n (0 : Int32)) 0 0 0 0 0 0 _ _ _ (fuU_0 (by decide)) hr hP hS (lv_sub hl [3, 2, 1, 0] rfl)
  · refine lv_aload_n hx hb dX6_read_137 rfl (lv_at hl 0 rfl) ?_
    refine va_get (D := D) (ci := 6) (v := .int z2) (C := RX6) (T := TX6) (N := 5) hx hb hts u_X6 hown hk.1 hP 1 rfl rfl 2 (by decide) (hts _ q1_32) (fun _ h9 => h9) rfl dX6_read_138 ?_
    refine lv_if_eq (tgt := 148) hx hb dX6_read_141 (by decide) (fun c141 => ?_) (fun c141 => ?_)
    · have hr := (if_pos c141).symm.trans hr
      refine lv_aload_n hx hb dX6_read_148 rfl (lv_at hl 0 rfl) ?_
      refine va_get (D := D) (ci := 6) (v := .int t_n) (C := RX6) (T := TX6) (N := 5) hx hb hts u_X6 hown hk.1 hP 1 rfl rfl 1 (by decide) (hts _ q1_30) (fun _ h9 => h9) rfl dX6_read_149 ?_
      refine lv_goto (tgt := 156) hx hb dX6_read_152 (by decide) ?_
      subst hr
      exact ret_i hx hb hrt hlocks hP hS dX6_read_156
    · have hr := (if_neg c141).symm.trans hr
      refine lv_iload_n hx hb dX6_read_144 rfl (lv_at hl 1 rfl) ?_
      refine lv_if_le (tgt := 155) hx hb dX6_read_145 (by decide) (fun c145 => ?_) (fun c145 => ?_)
      · have hr := (if_pos c145).symm.trans hr
        refine lv_iconst (v := (-1)) hx hb dX6_read_155 (by decide) ?_
        subst hr
        exact ret_i hx hb hrt hlocks hP hS dX6_read_156
      · have hr := (if_neg c145).symm.trans hr
        refine lv_aload_n hx hb dX6_read_148 rfl (lv_at hl 0 rfl) ?_
        refine va_get (D := D) (ci := 6) (v := .int t_n) (C := RX6) (T := TX6) (N := 5) hx hb hts u_X6 hown hk.1 hP 1 rfl rfl 1 (by decide) (hts _ q1_30) (fun _ h9 => h9) rfl dX6_read_149 ?_
        refine lv_goto (tgt := 156) hx hb dX6_read_152 (by decide) ?_
        subst hr
        exact ret_i hx hb hrt hlocks hP hS dX6_read_156
  · refine lv_iload_n hx hb dX6_read_129 rfl (lv_at hl 0 rfl) ?_
    subst hr
    exact ret_i hx hb hrt hlocks hP hS dX6_read_130
