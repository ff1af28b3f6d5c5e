theorem hd_X3_tells : yX3_tells.cls = RX3 ∧ yX3_tells.cls ≠ "java/lang/invoke/MethodHandle" ∧ yX3_tells.cls ≠ "java/lang/invoke/VarHandle" ∧ (parseMethodDescriptor yX3_tells.desc).map (fun d => d.parameters.length) = some 0 := by decide +kernel
def f_X3_tells (r_k : Int32) : Int32 := (if r_k = 1 then 1 else (if r_k = 2 then 1 else 0))
set_option maxHeartbeats 4000000 in
set_option maxRecDepth 100000 in
theorem c_X3_tells (l : Launch) (D : va_G) (cI cL cZ : ClassId) (ad : Nat → Nat) (c_sr t_n t_r t_w s_w s_h s_c s_p s_s p_nx p_sz r_k r_r r_p l_z q_z : Int32) (t_t b_l b_b b_n r_t l_l l_b l_n q_l q_b q_n : Int64) (t_le s_cs s_ps s_ha s_en pk ik : Nat → Int32) (s_ro s_me s_be s_se s_co pl pb pn il ib im l_a q_a : Nat → Int64) (hAd : cInj ad) (r : Int32) (hr : f_X3_tells r_k = r) : MZ l yX3_tells (Cond.code yX3_tells cX3_tells 1 (some .boolean) :: W0) 0 0 D cI cL cZ (cAd ad) [.ref (ad 25)] (cw ad cI cL cZ c_sr t_n t_r t_w s_w s_h s_c s_p s_s p_nx p_sz r_k r_r r_p l_z q_z t_t b_l b_b b_n r_t l_l l_b l_n q_l q_b q_n t_le s_cs s_ps s_ha s_en pk ik s_ro s_me s_be s_se s_co pl pb pn il ib im l_a q_a) r (cw ad cI cL cZ c_sr t_n t_r t_w s_w s_h s_c s_p s_s p_nx p_sz r_k r_r r_p l_z q_z t_t b_l b_b b_n r_t l_l l_b l_n q_l q_b q_n t_le s_cs s_ps s_ha s_en pk ik s_ro s_me s_be s_se s_co pl pb pn il ib im l_a q_a) := by
  refine mk_start (cc := cX3_tells) (maxL := 1) (ret := (some .boolean)) (by decide) rfl (Nat.le_of_ble_eq_true rfl) ?_
  intro p e s m below meth c ls C hP hS hl
  obtain ⟨hx, hb, hml, hrt, hlocks, hown, hts, hk⟩ := C
  have hown : s.vm.findClass RX3 = some m.cls := hown
  have hl : lv_has ls 1 [(0, .ref (ad 25))] := hl
  rw [f_X3_tells] at hr
  refine lv_aload_n hx hb dX3_tells_0 rfl (lv_at hl 0 rfl) ?_
  refine va_get (D := D) (ci := 3) (v := .int r_k) (C := RX3) (T := TX3) (N := 6) hx hb hts u_X3 hown hk.1 hP 25 rfl rfl 2 (by decide) (hts _ q1_181) (fun _ h9 => h9) rfl dX3_tells_1 ?_
  refine lv_iconst (v := 1) hx hb dX3_tells_4 (by decide) ?_
  refine lv_icmp_eq (tgt := 16) hx hb dX3_tells_5 (by decide) (fun c5 => ?_) (fun c5 => ?_)
  · have hr := (if_pos c5).symm.trans hr
    refine lv_iconst (v := 1) hx hb dX3_tells_16 (by decide) ?_
    refine lv_goto (tgt := 21) hx hb dX3_tells_17 (by decide) ?_
    subst hr
    exact ret_z hx hb hrt hlocks bz_1 hP hS dX3_tells_21
  · have hr := (if_neg c5).symm.trans hr
    refine lv_aload_n hx hb dX3_tells_8 rfl (lv_at hl 0 rfl) ?_
    refine va_get (D := D) (ci := 3) (v := .int r_k) (C := RX3) (T := TX3) (N := 6) hx hb hts u_X3 hown hk.1 hP 25 rfl rfl 2 (by decide) (hts _ q1_181) (fun _ h9 => h9) rfl dX3_tells_9 ?_
    refine lv_iconst (v := 2) hx hb dX3_tells_12 (by decide) ?_
    refine lv_icmp_ne (tgt := 20) hx hb dX3_tells_13 (by decide) (fun c13 => ?_) (fun c13 => ?_)
    · have hr := (if_neg c13).symm.trans hr
      refine lv_iconst (v := 0) hx hb dX3_tells_20 (by decide) ?_
      subst hr
      exact ret_z hx hb hrt hlocks bz_0 hP hS dX3_tells_21
    · have hr := (if_pos c13).symm.trans hr
      refine lv_iconst (v := 1) hx hb dX3_tells_16 (by decide) ?_
      refine lv_goto (tgt := 21) hx hb dX3_tells_17 (by decide) ?_
      subst hr
      exact ret_z hx hb hrt hlocks bz_1 hP hS dX3_tells_21
theorem hd_X3_openOf : yX3_openOf.cls = RX3 ∧ yX3_openOf.cls ≠ "java/lang/invoke/MethodHandle" ∧ yX3_openOf.cls ≠ "java/lang/invoke/VarHandle" ∧ (parseMethodDescriptor yX3_openOf.desc).map (fun d => d.parameters.length) = some 1 := by decide +kernel
def f_X3_openOf (p1 : Int64) (b_l : Int64) (b_b : Int64) : Int64 := (p1 &&& (b_l ^^^ ((-1)))) &&& (b_b ^^^ ((-1)))
set_option maxHeartbeats 4000000 in
set_option maxRecDepth 100000 in
theorem c_X3_openOf (l : Launch) (D : va_G) (cI cL cZ : ClassId) (ad : Nat → Nat) (c_sr t_n t_r t_w s_w s_h s_c s_p s_s p_nx p_sz r_k r_r r_p l_z q_z : Int32) (t_t b_l b_b b_n r_t l_l l_b l_n q_l q_b q_n : Int64) (t_le s_cs s_ps s_ha s_en pk ik : Nat → Int32) (s_ro s_me s_be s_se s_co pl pb pn il ib im l_a q_a : Nat → Int64) (hAd : cInj ad) (p1 : Int64) (r : Int64) (hr : f_X3_openOf p1 b_l b_b = r) : ML l yX3_openOf (Cond.code yX3_openOf cX3_openOf 3 (some .long) :: W0) 0 0 D cI cL cZ (cAd ad) [.ref (ad 25), .long p1] (cw ad cI cL cZ c_sr t_n t_r t_w s_w s_h s_c s_p s_s p_nx p_sz r_k r_r r_p l_z q_z t_t b_l b_b b_n r_t l_l l_b l_n q_l q_b q_n t_le s_cs s_ps s_ha s_en pk ik s_ro s_me s_be s_se s_co pl pb pn il ib im l_a q_a) r (cw ad cI cL cZ c_sr t_n t_r t_w s_w s_h s_c s_p s_s p_nx p_sz r_k r_r r_p l_z q_z t_t b_l b_b b_n r_t l_l l_b l_n q_l q_b q_n t_le s_cs s_ps s_ha s_en pk ik s_ro s_me s_be s_se s_co pl pb pn il ib im l_a q_a) := by
  refine mk_start (cc := cX3_openOf) (maxL := 3) (ret := (some .long)) (by decide) rfl (Nat.le_of_ble_eq_true rfl) ?_
  intro p e s m below meth c ls C hP hS hl
  obtain ⟨hx, hb, hml, hrt, hlocks, hown, hts, hk⟩ := C
  have hown : s.vm.findClass RX3 = some m.cls := hown
  have hl : lv_has ls 3 [(0, .ref (ad 25)), (1, .long p1)] := hl
  rw [f_X3_openOf] at hr
  refine lv_lload_n hx hb dX3_openOf_0 rfl (lv_at hl 1 rfl) ?_
  refine lv_aload_n hx hb dX3_openOf_1 rfl (lv_at hl 0 rfl) ?_
  refine va_get (D := D) (ci := 3) (v := .ref (ad 13)) (C := RX3) (T := TX3) (N := 6) hx hb hts u_X3 hown hk.1 hP 25 rfl rfl 1 (by decide) (hts _ q1_180) (fun _ h9 => h9) rfl dX3_openOf_2 ?_
  refine va_get (D := D) (ci := 0) (v := .long b_l) (C := RX0) (T := TX0) (N := 3) hx hb hts u_X0 hown hk.1 hP 13 rfl rfl 0 (by decide) (hts _ q1_116) (fun _ h9 => h9) rfl dX3_openOf_5 ?_
  refine lv_ldc2 hx hb hown (hts _ q3_2) dX3_openOf_8 ?_
  refine lv_lxor hx hb dX3_openOf_11 ?_
  refine lv_land hx hb dX3_openOf_12 ?_
  refine lv_aload_n hx hb dX3_openOf_13 rfl (lv_at hl 0 rfl) ?_
  refine va_get (D := D) (ci := 3) (v := .ref (ad 13)) (C := RX3) (T := TX3) (N := 6) hx hb hts u_X3 hown hk.1 hP 25 rfl rfl 1 (by decide) (hts _ q1_180) (fun _ h9 => h9) rfl dX3_openOf_14 ?_
  refine va_get (D := D) (ci := 0) (v := .long b_b) (C := RX0) (T := TX0) (N := 3) hx hb hts u_X0 hown hk.1 hP 13 rfl rfl 1 (by decide) (hts _ q1_120) (fun _ h9 => h9) rfl dX3_openOf_17 ?_
  refine lv_ldc2 hx hb hown (hts _ q3_2) dX3_openOf_20 ?_
  refine lv_lxor hx hb dX3_openOf_23 ?_
  refine lv_land hx hb dX3_openOf_24 ?_
  subst hr
  exact ret_l hx hb hrt hlocks hP hS dX3_openOf_25
theorem hd_X3_tell : yX3_tell.cls = RX3 ∧ yX3_tell.cls ≠ "java/lang/invoke/MethodHandle" ∧ yX3_tell.cls ≠ "java/lang/invoke/VarHandle" ∧ (parseMethodDescriptor yX3_tell.desc).map (fun d => d.parameters.length) = some 2 := by decide +kernel
def f_X3_tell (p1 : Int32) (p2 : Int64) : Int32 × Int64 := (p1, p2)
set_option maxHeartbeats 4000000 in
set_option maxRecDepth 100000 in
theorem c_X3_tell (l : Launch) (D : va_G) (cI cL cZ : ClassId) (ad : Nat → Nat) (c_sr t_n t_r t_w s_w s_h s_c s_p s_s p_nx p_sz r_k r_r r_p l_z q_z : Int32) (t_t b_l b_b b_n r_t l_l l_b l_n q_l q_b q_n : Int64) (t_le s_cs s_ps s_ha s_en pk ik : Nat → Int32) (s_ro s_me s_be s_se s_co pl pb pn il ib im l_a q_a : Nat → Int64) (hAd : cInj ad) (p1 : Int32) (p2 : Int64) (r : Int32 × Int64) (hr : f_X3_tell p1 p2 = r) : MV l yX3_tell (Cond.code yX3_tell cX3_tell 4 none :: W0) 0 0 D cI cL cZ (cAd ad) [.ref (ad 25), .int p1, .long p2] (cw ad cI cL cZ c_sr t_n t_r t_w s_w s_h s_c s_p s_s p_nx p_sz r_k r_r r_p l_z q_z t_t b_l b_b b_n r_t l_l l_b l_n q_l q_b q_n t_le s_cs s_ps s_ha s_en pk ik s_ro s_me s_be s_se s_co pl pb pn il ib im l_a q_a) (cw ad cI cL cZ c_sr t_n t_r t_w s_w s_h s_c s_p s_s p_nx p_sz r.1 r_r r_p l_z q_z t_t b_l b_b b_n r.2 l_l l_b l_n q_l q_b q_n t_le s_cs s_ps s_ha s_en pk ik s_ro s_me s_be s_se s_co pl pb pn il ib im l_a q_a) := by
  refine mk_start (cc := cX3_tell) (maxL := 4) (ret := none) (by decide) rfl (Nat.le_of_ble_eq_true rfl) ?_
  intro p e s m below meth c ls C hP hS hl
  obtain ⟨hx, hb, hml, hrt, hlocks, hown, hts, hk⟩ := C
  have hown : s.vm.findClass RX3 = some m.cls := hown
  have hl : lv_has ls 4 [(0, .ref (ad 25)), (1, .int p1), (2, .long p2)] := hl
  rw [f_X3_tell] at hr
  refine lv_aload_n hx hb dX3_tell_0 rfl (lv_at hl 0 rfl) ?_
  refine lv_iload_n hx hb dX3_tell_1 rfl (lv_at hl 1 rfl) ?_
  refine va_put (D := D) (ci := 3) (v := .int p1) (ty := .int) (C := RX3) (T := TX3) (N := 6) hx hb hts u_X3 tyX3 tyX3_ok nmX3 hown hk.1 hP (cw_D hAd) hS 25 rfl rfl 2 (by decide) (hts _ q1_181) (fun _ h9 => h9) rfl (tyX3_ok 2 (by decide)) rfl rfl (Nat.le_of_ble_eq_true rfl) dX3_tell_2 (fun H locs hP _ hS => ?_)
  have hP : va_P D vwCl (cw ad cI cL cZ c_sr t_n t_r t_w s_w s_h s_c s_p s_s p_nx p_sz p1 r_r r_p l_z q_z t_t b_l b_b b_n r_t l_l l_b l_n q_l q_b q_n t_le s_cs s_ps s_ha s_en pk ik s_ro s_me s_be s_se s_co pl pb pn il ib im l_a q_a) H := hP
  refine lv_aload_n hx hb dX3_tell_5 rfl (lv_at hl 0 rfl) ?_
  refine lv_lload_n hx hb dX3_tell_6 rfl (lv_at hl 2 rfl) ?_
  refine va_put (D := D) (ci := 3) (v := .long p2) (ty := .long) (C := RX3) (T := TX3) (N := 6) hx hb hts u_X3 tyX3 tyX3_ok nmX3 hown hk.1 hP (cw_D hAd) hS 25 rfl rfl 5 (by decide) (hts _ q1_187) (fun _ h9 => h9) rfl (tyX3_ok 5 (by decide)) rfl rfl (Nat.le_of_ble_eq_true rfl) dX3_tell_7 (fun H locs hP _ hS => ?_)
  have hP : va_P D vwCl (cw ad cI cL cZ c_sr t_n t_r t_w s_w s_h s_c s_p s_s p_nx p_sz p1 r_r r_p l_z q_z t_t b_l b_b b_n p2 l_l l_b l_n q_l q_b q_n t_le s_cs s_ps s_ha s_en pk ik s_ro s_me s_be s_se s_co pl pb pn il ib im l_a q_a) H := hP
  subst hr
  exact ret_v hx hb hrt hlocks hP hS dX3_tell_10
theorem hd_X3_othersThan : yX3_othersThan.cls = RX3 ∧ yX3_othersThan.cls ≠ "java/lang/invoke/MethodHandle" ∧ yX3_othersThan.cls ≠ "java/lang/invoke/VarHandle" ∧ (parseMethodDescriptor yX3_othersThan.desc).map (fun d => d.parameters.length) = some 1 := by decide +kernel
def f_X3_othersThan (p1 : Int64) (b_l : Int64) : Int32 := (if (lg_cmp (b_l &&& (p1 ^^^ ((-1)))) 0) = 0 then 0 else 1)
set_option maxHeartbeats 4000000 in
set_option maxRecDepth 100000 in
theorem c_X3_othersThan (l : Launch) (D : va_G) (cI cL cZ : ClassId) (ad : Nat → Nat) (c_sr t_n t_r t_w s_w s_h s_c s_p s_s p_nx p_sz r_k r_r r_p l_z q_z : Int32) (t_t b_l b_b b_n r_t l_l l_b l_n q_l q_b q_n : Int64) (t_le s_cs s_ps s_ha s_en pk ik : Nat → Int32) (s_ro s_me s_be s_se s_co pl pb pn il ib im l_a q_a : Nat → Int64) (hAd : cInj ad) (p1 : Int64) (r : Int32) (hr : f_X3_othersThan p1 b_l = r) : MZ l yX3_othersThan (Cond.code yX3_othersThan cX3_othersThan 3 (some .boolean) :: W0) 0 0 D cI cL cZ (cAd ad) [.ref (ad 25), .long p1] (cw ad cI cL cZ c_sr t_n t_r t_w s_w s_h s_c s_p s_s p_nx p_sz r_k r_r r_p l_z q_z t_t b_l b_b b_n r_t l_l l_b l_n q_l q_b q_n t_le s_cs s_ps s_ha s_en pk ik s_ro s_me s_be s_se s_co pl pb pn il ib im l_a q_a) r (cw ad cI cL cZ c_sr t_n t_r t_w s_w s_h s_c s_p s_s p_nx p_sz r_k r_r r_p l_z q_z t_t b_l b_b b_n r_t l_l l_b l_n q_l q_b q_n t_le s_cs s_ps s_ha s_en pk ik s_ro s_me s_be s_se s_co pl pb pn il ib im l_a q_a) := by
  refine mk_start (cc := cX3_othersThan) (maxL := 3) (ret := (some .boolean)) (by decide) rfl (Nat.le_of_ble_eq_true rfl) ?_
  intro p e s m below meth c ls C hP hS hl
  obtain ⟨hx, hb, hml, hrt, hlocks, hown, hts, hk⟩ := C
  have hown : s.vm.findClass RX3 = some m.cls := hown
  have hl : lv_has ls 3 [(0, .ref (ad 25)), (1, .long p1)] := hl
  rw [f_X3_othersThan] at hr
  refine lv_aload_n hx hb dX3_othersThan_0 rfl (lv_at hl 0 rfl) ?_
  refine va_get (D := D) (ci := 3) (v := .ref (ad 13)) (C := RX3) (T := TX3) (N := 6) hx hb hts u_X3 hown hk.1 hP 25 rfl rfl 1 (by decide) (hts _ q1_180) (fun _ h9 => h9) rfl dX3_othersThan_1 ?_
  refine va_get (D := D) (ci := 0) (v := .long b_l) (C := RX0) (T := TX0) (N := 3) hx hb hts u_X0 hown hk.1 hP 13 rfl rfl 0 (by decide) (hts _ q1_116) (fun _ h9 => h9) rfl dX3_othersThan_4 ?_
  refine lv_lload_n hx hb dX3_othersThan_7 rfl (lv_at hl 1 rfl) ?_
  refine lv_ldc2 hx hb hown (hts _ q3_2) dX3_othersThan_8 ?_
  refine lv_lxor hx hb dX3_othersThan_11 ?_
  refine lv_land hx hb dX3_othersThan_12 ?_
  refine lv_lconst (v := 0) hx hb dX3_othersThan_13 (by decide) ?_
  refine W.lcmp hx hb dX3_othersThan_14 ?_
  refine lv_if_eq (tgt := 22) hx hb dX3_othersThan_15 (by decide) (fun c15 => ?_) (fun c15 => ?_)
  · have hr := (if_pos c15).symm.trans hr
    refine lv_iconst (v := 0) hx hb dX3_othersThan_22 (by decide) ?_
    subst hr
    exact ret_z hx hb hrt hlocks bz_0 hP hS dX3_othersThan_23
  · have hr := (if_neg c15).symm.trans hr
    refine lv_iconst (v := 1) hx hb dX3_othersThan_18 (by decide) ?_
    refine lv_goto (tgt := 23) hx hb dX3_othersThan_19 (by decide) ?_
    subst hr
    exact ret_z hx hb hrt hlocks bz_1 hP hS dX3_othersThan_23
theorem hd_X3_isClosed : yX3_isClosed.cls = RX3 ∧ yX3_isClosed.cls ≠ "java/lang/invoke/MethodHandle" ∧ yX3_isClosed.cls ≠ "java/lang/invoke/VarHandle" ∧ (parseMethodDescriptor yX3_isClosed.desc).map (fun d => d.parameters.length) = some 1 := by decide +kernel
def F_X3_isClosed_2 (y1 : Int64) (s_p : Int32) (b_l : Int64) (s_me : Nat → Int64) {β : Type} (k0 : β) (k1 : β) : Nat → Int32 → β
  | 0, x3 => k0
  | n + 1, x3 => (if s_p ≤ x3 then k0 else (if (lg_cmp ((f_X4_atPoint x3 s_me) &&& y1) 0) = 0 then F_X3_isClosed_2 y1 s_p b_l s_me k0 k1 n (x3 + 1) else (if (f_J13_bitCount_95d88 ((f_X4_atPoint x3 s_me) &&& b_l)) = 2 then F_X3_isClosed_2 y1 s_p b_l s_me k0 k1 n (x3 + 1) else k1)))
def f_X3_isClosed (p1 : Int64) (s_p : Int32) (b_l : Int64) (s_me : Nat → Int64) : Int32 := F_X3_isClosed_2 p1 s_p b_l s_me (1) (0) (fu s_p (0 : Int32)) 0
set_option maxHeartbeats 4000000 in
set_option maxRecDepth 100000 in
theorem lp_X3_isClosed_2 (l : Launch) (D : va_G) (cI cL cZ : ClassId) (ad : Nat → Nat) (c_sr t_n t_r t_w s_w s_h s_c s_p s_s p_nx p_sz r_k r_r r_p l_z q_z : Int32) (t_t b_l b_b b_n r_t l_l l_b l_n q_l q_b q_n : Int64) (t_le s_cs s_ps s_ha s_en pk ik : Nat → Int32) (s_ro s_me s_be s_se s_co pl pb pn il ib im l_a q_a : Nat → Int64) {p : Program} {e : Env} {s : State} {m : MethodId} {args : Array Value} {below : List Frame} {meth : Method} {c : Code} {Q : State → Prop} (C : Cx p s m args meth c cX3_isClosed 6 (some .boolean) W0 RX3 D cI cL cZ) (hAd : cInj ad) (y1 : Int64) {β : Type} (k0 : β) (k1 : β) (r : β)
    (h0 : ∀ (H : Heap) (locs : List Loc) (ls : Array Slot), k0 = r → va_P D vwCl (cw ad cI cL cZ c_sr t_n t_r t_w s_w s_h s_c s_p s_s p_nx p_sz r_k r_r r_p l_z q_z t_t b_l b_b b_n r_t l_l l_b l_n q_l q_b q_n t_le s_cs s_ps s_ha s_en pk ik s_ro s_me s_be s_se s_co pl pb pn il ib im l_a q_a) H → va_S (cAd ad) s.heap H locs → lv_has ls 6 [] → W p l e (rmS 1 21) s m args below meth c H locs 0 0 Q (F0 m 57 ls []))
    (h1 : ∀ (H : Heap) (locs : List Loc) (ls : Array Slot), k1 = r → va_P D vwCl (cw ad cI cL cZ c_sr t_n t_r t_w s_w s_h s_c s_p s_s p_nx p_sz r_k r_r r_p l_z q_z t_t b_l b_b b_n r_t l_l l_b l_n q_l q_b q_n t_le s_cs s_ps s_ha s_en pk ik s_ro s_me s_be s_se s_co pl pb pn il ib im l_a q_a) H → va_S (cAd ad) s.heap H locs → lv_has ls 6 [] → W p l e (rmS 1 21) s m args below meth c H locs 0 0 Q (F0 m 49 ls [])) :
    ∀ (n : Nat) (x3 : Int32) (H : Heap) (locs : List Loc) (ls : Array Slot), fuU n s_p x3 → F_X3_isClosed_2 y1 s_p b_l s_me k0 k1 n x3 = r → va_P D vwCl (cw ad cI cL cZ c_sr t_n t_r t_w s_w s_h s_c s_p s_s p_nx p_sz r_k r_r r_p l_z q_z t_t b_l b_b b_n r_t l_l l_b l_n q_l q_b q_n t_le s_cs s_ps s_ha s_en pk ik s_ro s_me s_be s_se s_co pl pb pn il ib im l_a q_a) H → va_S (cAd ad) s.heap H locs → lv_has ls 6 [(0, .ref (ad 25)), (1, .long y1), (3, .int x3)] → W p l e (rmS 1 21) s m args below meth c H locs 0 0 Q (F0 m 2 ls []) := by
  obtain ⟨hx, hb, hml, hrt, hlocks, hown, hts, hk⟩ := C
  intro n
  induction n with
  | zero =>
    intro x3 H locs ls hf
    exact absurd hf.1 (Nat.lt_irrefl 0)
  | succ n ih =>
    intro x3 H locs ls hf hr hP hS hl
    rw [F_X3_isClosed_2] at hr
    refine lv_iload_n hx hb dX3_isClosed_2 rfl (lv_at hl 2 rfl) ?_
    refine lv_aload_n hx hb dX3_isClosed_3 rfl (lv_at hl 0 rfl) ?_
    refine va_get (D := D) (ci := 3) (v := .ref (ad 3)) (C := RX3) (T := TX3) (N := 6) hx hb hts u_X3 hown hk.1 hP 25 rfl rfl 0 (by decide) (hts _ q1_179) (fun _ h9 => h9) rfl dX3_isClosed_4 ?_
    refine va_get (D := D) (ci := 4) (v := .int s_p) (C := RX4) (T := TX4) (N := 14) hx hb hts u_X4 hown hk.1 hP 3 rfl rfl 3 (by decide) (hts _ q1_65) (fun _ h9 => h9) rfl dX3_isClosed_7 ?_
    refine lv_icmp_ge (tgt := 57) hx hb dX3_isClosed_10 (by decide) (fun c10 => ?_) (fun c10 => ?_)
    · have hr := (if_pos c10).symm.trans hr
      exact h0 _ _ _ hr hP hS (lv_sub hl [] rfl)
    · have hr := (if_neg c10).symm.trans hr
      refine lv_aload_n hx hb dX3_isClosed_13 rfl (lv_at hl 0 rfl) ?_
      refine va_get (D := D) (ci := 3) (v := .ref (ad 3)) (C := RX3) (T := TX3) (N := 6) hx hb hts u_X3 hown hk.1 hP 25 rfl rfl 0 (by decide) (hts _ q1_179) (fun _ h9 => h9) rfl dX3_isClosed_14 ?_
      refine lv_iload_n hx hb dX3_isClosed_17 rfl (lv_at hl 2 rfl) ?_
      refine go_l (ru_V (n := 1) ⟨hx, hb, hml, hown, hts⟩ hk hP (c_X4_atPoint l D cI cL cZ ad c_sr t_n t_r t_w s_w s_h s_c s_p s_s p_nx p_sz r_k r_r r_p l_z q_z t_t b_l b_b b_n r_t l_l l_b l_n q_l q_b q_n t_le s_cs s_ps s_ha s_en pk ik s_ro s_me s_be s_se s_co pl pb pn il ib im l_a q_a hAd x3 _ rfl) (cwV 1 hts (gV q3_13 q2_47 q2_48 q1_3 q2_49) rfl rfl rfl hd_X4_atPoint ⟨Nat.le_of_ble_eq_true rfl, Nat.le_of_ble_eq_true rfl⟩) (va_recv hk.1 hP (ci := 4) (q0 := 3) rfl rfl) rfl hl.1 rfl (Nat.le_of_ble_eq_true rfl) dX3_isClosed_18 ⟨Nat.zero_le _, Nat.zero_le _⟩) hS (fun _ h => h) (fun H locs hP hS => ?_)
      have hP : va_P D vwCl (cw ad cI cL cZ c_sr t_n t_r t_w s_w s_h s_c s_p s_s p_nx p_sz r_k r_r r_p l_z q_z t_t b_l b_b b_n r_t l_l l_b l_n q_l q_b q_n t_le s_cs s_ps s_ha s_en pk ik s_ro s_me s_be s_se s_co pl pb pn il ib im l_a q_a) H := hP
      refine lv_lstore (lv' := [(4, .long (f_X4_atPoint x3 s_me)), (0, .ref (ad 25)), (1, .long y1), (3, .int x3)]) hx hb dX3_isClosed_21 hl (by decide) rfl (fun ls hl => ?_)
      refine lv_lload hx hb dX3_isClosed_23 (lv_at hl 0 rfl) ?_
      refine lv_lload_n hx hb dX3_isClosed_25 rfl (lv_at hl 2 rfl) ?_
      refine lv_land hx hb dX3_isClosed_26 ?_
      refine lv_lconst (v := 0) hx hb dX3_isClosed_27 (by decide) ?_
      refine W.lcmp hx hb dX3_isClosed_28 ?_
      refine lv_if_eq (tgt := 51) hx hb dX3_isClosed_29 (by decide) (fun c29 => ?_) (fun c29 => ?_)
      · have hr := (if_pos c29).symm.trans hr
        refine lv_iinc (v := x3 + 1) (lv' := [(3, .int (x3 + 1)), (4, .long (f_X4_atPoint x3 s_me)), (0, .ref (ad 25)), (1, .long y1)]) hx hb dX3_isClosed_51 hl (k := 3) rfl rfl (by decide) rfl (fun ls hl => ?_)
        refine lv_goto (tgt := 2) hx hb dX3_isClosed_54 (by decide) ?_
        exact ih (x3 + 1) _ _ _ (fuU_s hf c10) hr hP hS (lv_sub hl [2, 3, 0] rfl)
      · have hr := (if_neg c29).symm.trans hr
        refine lv_lload hx hb dX3_isClosed_32 (lv_at hl 0 rfl) ?_
        refine lv_aload_n hx hb dX3_isClosed_34 rfl (lv_at hl 1 rfl) ?_
        refine va_get (D := D) (ci := 3) (v := .ref (ad 13)) (C := RX3) (T := TX3) (N := 6) hx hb hts u_X3 hown hk.1 hP 25 rfl rfl 1 (by decide) (hts _ q1_180) (fun _ h9 => h9) rfl dX3_isClosed_35 ?_
        refine va_get (D := D) (ci := 0) (v := .long b_l) (C := RX0) (T := TX0) (N := 3) hx hb hts u_X0 hown hk.1 hP 13 rfl rfl 0 (by decide) (hts _ q1_116) (fun _ h9 => h9) rfl dX3_isClosed_38 ?_
        refine lv_land hx hb dX3_isClosed_41 ?_
        refine go_i (ru_S (n := 1) ⟨hx, hb, hml, hown, hts⟩ hk hP (c_J13_bitCount_95d88 l D cI cL cZ (cAd ad) (cw ad cI cL cZ c_sr t_n t_r t_w s_w s_h s_c s_p s_s p_nx p_sz r_k r_r r_p l_z q_z t_t b_l b_b b_n r_t l_l l_b l_n q_l q_b q_n t_le s_cs s_ps s_ha s_en pk ik s_ro s_me s_be s_se s_co pl pb pn il ib im l_a q_a) ((f_X4_atPoint x3 s_me) &&& b_l) _ rfl) (va_cwS 1 hts (gS q3_3 q3_4 q1_13 q3_5) rfl rfl rfl hd_J13_bitCount_95d88 ⟨Nat.le_of_ble_eq_true rfl, Nat.le_of_ble_eq_true rfl⟩) rfl hl.1 rfl (Nat.le_of_ble_eq_true rfl) dX3_isClosed_42 ⟨Nat.zero_le _, Nat.zero_le _⟩) hS (fun _ h => h) (fun H locs hP hS => ?_)
        have hP : va_P D vwCl (cw ad cI cL cZ c_sr t_n t_r t_w s_w s_h s_c s_p s_s p_nx p_sz r_k r_r r_p l_z q_z t_t b_l b_b b_n r_t l_l l_b l_n q_l q_b q_n t_le s_cs s_ps s_ha s_en pk ik s_ro s_me s_be s_se s_co pl pb pn il ib im l_a q_a) H := hP
        refine lv_iconst (v := 2) hx hb dX3_isClosed_45 (by decide) ?_
        refine lv_icmp_eq (tgt := 51) hx hb dX3_isClosed_46 (by decide) (fun c46 => ?_) (fun c46 => ?_)
        · have hr := (if_pos c46).symm.trans hr
          refine lv_iinc (v := x3 + 1) (lv' := [(3, .int (x3 + 1)), (4, .long (f_X4_atPoint x3 s_me)), (0, .ref (ad 25)), (1, .long y1)]) hx hb dX3_isClosed_51 hl (k := 3) rfl rfl (by decide) rfl (fun ls hl => ?_)
          refine lv_goto (tgt := 2) hx hb dX3_isClosed_54 (by decide) ?_
          exact ih (x3 + 1) _ _ _ (fuU_s hf c10) hr hP hS (lv_sub hl [2, 3, 0] rfl)
        · have hr := (if_neg c46).symm.trans hr
          exact h1 _ _ _ hr hP hS (lv_sub hl [] rfl)
set_option maxHeartbeats 4000000 in
set_option maxRecDepth 100000 in
theorem c_X3_isClosed (l : Launch) (D : va_G) (cI cL cZ : ClassId) (ad : Nat → Nat) (c_sr t_n t_r t_w s_w s_h s_c s_p s_s p_nx p_sz r_k r_r r_p l_z q_z : Int32) (t_t b_l b_b b_n r_t l_l l_b l_n q_l q_b q_n : Int64) (t_le s_cs s_ps s_ha s_en pk ik : Nat → Int32) (s_ro s_me s_be s_se s_co pl pb pn il ib im l_a q_a : Nat → Int64) (hAd : cInj ad) (p1 : Int64) (r : Int32) (hr : f_X3_isClosed p1 s_p b_l s_me = r) : MZ l yX3_isClosed (Cond.code yX3_isClosed cX3_isClosed 6 (some .boolean) :: W0) 1 21 D cI cL cZ (cAd ad) [.ref (ad 25), .long p1] (cw ad cI cL cZ c_sr t_n t_r t_w s_w s_h s_c s_p s_s p_nx p_sz r_k r_r r_p l_z q_z t_t b_l b_b b_n r_t l_l l_b l_n q_l q_b q_n t_le s_cs s_ps s_ha s_en pk ik s_ro s_me s_be s_se s_co pl pb pn il ib im l_a q_a) r (cw ad cI cL cZ c_sr t_n t_r t_w s_w s_h s_c s_p s_s p_nx p_sz r_k r_r r_p l_z q_z t_t b_l b_b b_n r_t l_l l_b l_n q_l q_b q_n t_le s_cs s_ps s_ha s_en pk ik s_ro s_me s_be s_se s_co pl pb pn il ib im l_a q_a) := by
  refine mk_start (cc := cX3_isClosed) (maxL := 6) (ret := (some .boolean)) (by decide) rfl (Nat.le_of_ble_eq_true rfl) ?_
  intro p e s m below meth c ls C hP hS hl
  obtain ⟨hx, hb, hml, hrt, hlocks, hown, hts, hk⟩ := C
  have hown : s.vm.findClass RX3 = some m.cls := hown
  have hl : lv_has ls 6 [(0, .ref (ad 25)), (1, .long p1)] := hl
  rw [f_X3_isClosed] at hr
  refine lv_iconst (v := 0) hx hb dX3_isClosed_0 (by decide) ?_
  refine lv_istore_n (lv' := [(3, .int 0), (0, .ref (ad 25)), (1, .long p1)]) hx hb dX3_isClosed_1 rfl hl (by decide) rfl (fun ls hl => ?_)
  refine lp_X3_isClosed_2 l D cI cL cZ ad c_sr t_n t_r t_w s_w s_h s_c s_p s_s p_nx p_sz r_k r_r r_p l_z q_z t_t b_l b_b b_n r_t l_l l_b l_n q_l q_b q_n t_le s_cs s_ps s_ha s_en pk ik s_ro s_me s_be s_se s_co pl pb pn il ib im l_a q_a ⟨hx, hb, hml, hrt, hlocks, hown, hts, hk⟩ hAd p1 _ _ _ (fun H locs ls hr hP hS hl => ?_) (fun H locs ls hr hP hS hl => ?_) (fu s_p (0 : Int32)) 0 _ _ _ (fuU_0 (by decide)) hr hP hS (lv_sub hl [1, 2, 0] rfl)
  · refine lv_iconst (v := 1) hx hb dX3_isClosed_57 (by decide) ?_
    subst hr
    exact ret_z hx hb hrt hlocks bz_1 hP hS dX3_isClosed_58
  · refine lv_iconst (v := 0) hx hb dX3_isClosed_49 (by decide) ?_
    subst hr
    exact ret_z hx hb hrt hlocks bz_0 hP hS dX3_isClosed_50
theorem hd_X3_missesNumber : yX3_missesNumber.cls = RX3 ∧ yX3_missesNumber.cls ≠ "java/lang/invoke/MethodHandle" ∧ yX3_missesNumber.cls ≠ "java/lang/invoke/VarHandle" ∧ (parseMethodDescriptor yX3_missesNumber.desc).map (fun d => d.parameters.length) = some 1 := by decide +kernel
def F_X3_missesNumber_2 (y1 : Int64) (s_c : Int32) (b_n : Int64) (s_ro : Nat → Int64) {β : Type} (k0 : β) (k1 : β) : Nat → Int32 → β
  | 0, x3 => k0
  | n + 1, x3 => (if s_c ≤ x3 then k0 else (if (f_X0_numberOf x3 b_n) < 0 then F_X3_missesNumber_2 y1 s_c b_n s_ro k0 k1 n (x3 + 1) else (if (f_J13_bitCount_95d88 ((f_X4_roundCell x3 s_ro) &&& y1)) = (f_X0_numberOf x3 b_n) then F_X3_missesNumber_2 y1 s_c b_n s_ro k0 k1 n (x3 + 1) else k1)))
def f_X3_missesNumber (p1 : Int64) (s_c : Int32) (b_n : Int64) (s_ro : Nat → Int64) : Int32 := F_X3_missesNumber_2 p1 s_c b_n s_ro (0) (1) (fu s_c (0 : Int32)) 0
set_option maxHeartbeats 4000000 in
set_option maxRecDepth 100000 in
theorem lp_X3_missesNumber_2 (l : Launch) (D : va_G) (cI cL cZ : ClassId) (ad : Nat → Nat) (c_sr t_n t_r t_w s_w s_h s_c s_p s_s p_nx p_sz r_k r_r r_p l_z q_z : Int32) (t_t b_l b_b b_n r_t l_l l_b l_n q_l q_b q_n : Int64) (t_le s_cs s_ps s_ha s_en pk ik : Nat → Int32) (s_ro s_me s_be s_se s_co pl pb pn il ib im l_a q_a : Nat → Int64) {p : Program} {e : Env} {s : State} {m : MethodId} {args : Array Value} {below : List Frame} {meth : Method} {c : Code} {Q : State → Prop} (C : Cx p s m args meth c cX3_missesNumber 5 (some .boolean) W0 RX3 D cI cL cZ) (hAd : cInj ad) (y1 : Int64) {β : Type} (k0 : β) (k1 : β) (r : β)
    (h0 : ∀ (H : Heap) (locs : List Loc) (ls : Array Slot), k0 = r → va_P D vwCl (cw ad cI cL cZ c_sr t_n t_r t_w s_w s_h s_c s_p s_s p_nx p_sz r_k r_r r_p l_z q_z t_t b_l b_b b_n r_t l_l l_b l_n q_l q_b q_n t_le s_cs s_ps s_ha s_en pk ik s_ro s_me s_be s_se s_co pl pb pn il ib im l_a q_a) H → va_S (cAd ad) s.heap H locs → lv_has ls 5 [] → W p l e (rmS 2 43) s m args below meth c H locs 0 0 Q (F0 m 54 ls []))
    (h1 : ∀ (H : Heap) (locs : List Loc) (ls : Array Slot), k1 = r → va_P D vwCl (cw ad cI cL cZ c_sr t_n t_r t_w s_w s_h s_c s_p s_s p_nx p_sz r_k r_r r_p l_z q_z t_t b_l b_b b_n r_t l_l l_b l_n q_l q_b q_n t_le s_cs s_ps s_ha s_en pk ik s_ro s_me s_be s_se s_co pl pb pn il ib im l_a q_a) H → va_S (cAd ad) s.heap H locs → lv_has ls 5 [] → W p l e (rmS 2 43) s m args below meth c H locs 0 0 Q (F0 m 46 ls [])) :
    ∀ (n : Nat) (x3 : Int32) (H : Heap) (locs : List Loc) (ls : Array Slot), fuU n s_c x3 → F_X3_missesNumber_2 y1 s_c b_n s_ro k0 k1 n x3 = r → va_P D vwCl (cw ad cI cL cZ c_sr t_n t_r t_w s_w s_h s_c s_p s_s p_nx p_sz r_k r_r r_p l_z q_z t_t b_l b_b b_n r_t l_l l_b l_n q_l q_b q_n t_le s_cs s_ps s_ha s_en pk ik s_ro s_me s_be s_se s_co pl pb pn il ib im l_a q_a) H → va_S (cAd ad) s.heap H locs → lv_has ls 5 [(0, .ref (ad 25)), (1, .long y1), (3, .int x3)] → W p l e (rmS 2 43) s m args below meth c H locs 0 0 Q (F0 m 2 ls []) := by
  obtain ⟨hx, hb, hml, hrt, hlocks, hown, hts, hk⟩ := C
  intro n
  induction n with
  | zero =>
    intro x3 H locs ls hf
    exact absurd hf.1 (Nat.lt_irrefl 0)
  | succ n ih =>
    intro x3 H locs ls hf hr hP hS hl
    rw [F_X3_missesNumber_2] at hr
    refine lv_iload_n hx hb dX3_missesNumber_2 rfl (lv_at hl 2 rfl) ?_
    refine lv_aload_n hx hb dX3_missesNumber_3 rfl (lv_at hl 0 rfl) ?_
    refine va_get (D := D) (ci := 3) (v := .ref (ad 3)) (C := RX3) (T := TX3) (N := 6) hx hb hts u_X3 hown hk.1 hP 25 rfl rfl 0 (by decide) (hts _ q1_179) (fun _ h9 => h9) rfl dX3_missesNumber_4 ?_
    refine va_get (D := D) (ci := 4) (v := .int s_c) (C := RX4) (T := TX4) (N := 14) hx hb hts u_X4 hown hk.1 hP 3 rfl rfl 2 (by decide) (hts _ q1_62) (fun _ h9 => h9) rfl dX3_missesNumber_7 ?_
    refine lv_icmp_ge (tgt := 54) hx hb dX3_missesNumber_10 (by decide) (fun c10 => ?_) (fun c10 => ?_)
    · have hr := (if_pos c10).symm.trans hr
      exact h0 _ _ _ hr hP hS (lv_sub hl [] rfl)
    · have hr := (if_neg c10).symm.trans hr
      refine lv_aload_n hx hb dX3_missesNumber_13 rfl (lv_at hl 0 rfl) ?_
      refine va_get (D := D) (ci := 3) (v := .ref (ad 13)) (C := RX3) (T := TX3) (N := 6) hx hb hts u_X3 hown hk.1 hP 25 rfl rfl 1 (by decide) (hts _ q1_180) (fun _ h9 => h9) rfl dX3_missesNumber_14 ?_
      refine lv_iload_n hx hb dX3_missesNumber_17 rfl (lv_at hl 2 rfl) ?_
      refine go_i (ru_V (n := 1) ⟨hx, hb, hml, hown, hts⟩ hk hP (c_X0_numberOf l D cI cL cZ ad c_sr t_n t_r t_w s_w s_h s_c s_p s_s p_nx p_sz r_k r_r r_p l_z q_z t_t b_l b_b b_n r_t l_l l_b l_n q_l q_b q_n t_le s_cs s_ps s_ha s_en pk ik s_ro s_me s_be s_se s_co pl pb pn il ib im l_a q_a hAd x3 _ rfl) (cwV 1 hts (gV q2_232 q2_164 q2_165 q1_4 q2_166) rfl rfl rfl hd_X0_numberOf ⟨Nat.le_of_ble_eq_true rfl, Nat.le_of_ble_eq_true rfl⟩) (va_recv hk.1 hP (ci := 0) (q0 := 13) rfl rfl) rfl hl.1 rfl (Nat.le_of_ble_eq_true rfl) dX3_missesNumber_18 ⟨Nat.zero_le _, Nat.zero_le _⟩) hS (fun _ h => h) (fun H locs hP hS => ?_)
      have hP : va_P D vwCl (cw ad cI cL cZ c_sr t_n t_r t_w s_w s_h s_c s_p s_s p_nx p_sz r_k r_r r_p l_z q_z t_t b_l b_b b_n r_t l_l l_b l_n q_l q_b q_n t_le s_cs s_ps s_ha s_en pk ik s_ro s_me s_be s_se s_co pl pb pn il ib im l_a q_a) H := hP
      refine lv_istore (lv' := [(4, .int (f_X0_numberOf x3 b_n)), (0, .ref (ad 25)), (1, .long y1), (3, .int x3)]) hx hb dX3_missesNumber_21 hl (by decide) rfl (fun ls hl => ?_)
      refine lv_iload hx hb dX3_missesNumber_23 (lv_at hl 0 rfl) ?_
      refine lv_if_lt (tgt := 48) hx hb dX3_missesNumber_25 (by decide) (fun c25 => ?_) (fun c25 => ?_)
      · have hr := (if_pos c25).symm.trans hr
        refine lv_iinc (v := x3 + 1) (lv' := [(3, .int (x3 + 1)), (4, .int (f_X0_numberOf x3 b_n)), (0, .ref (ad 25)), (1, .long y1)]) hx hb dX3_missesNumber_48 hl (k := 3) rfl rfl (by decide) rfl (fun ls hl => ?_)
        refine lv_goto (tgt := 2) hx hb dX3_missesNumber_51 (by decide) ?_
        exact ih (x3 + 1) _ _ _ (fuU_s hf c10) hr hP hS (lv_sub hl [2, 3, 0] rfl)
      · have hr := (if_neg c25).symm.trans hr
        refine lv_aload_n hx hb dX3_missesNumber_28 rfl (lv_at hl 1 rfl) ?_
        refine va_get (D := D) (ci := 3) (v := .ref (ad 3)) (C := RX3) (T := TX3) (N := 6) hx hb hts u_X3 hown hk.1 hP 25 rfl rfl 0 (by decide) (hts _ q1_179) (fun _ h9 => h9) rfl dX3_missesNumber_29 ?_
        refine lv_iload_n hx hb dX3_missesNumber_32 rfl (lv_at hl 3 rfl) ?_
        refine go_l (ru_V (n := 1) ⟨hx, hb, hml, hown, hts⟩ hk hP (c_X4_roundCell l D cI cL cZ ad c_sr t_n t_r t_w s_w s_h s_c s_p s_s p_nx p_sz r_k r_r r_p l_z q_z t_t b_l b_b b_n r_t l_l l_b l_n q_l q_b q_n t_le s_cs s_ps s_ha s_en pk ik s_ro s_me s_be s_se s_co pl pb pn il ib im l_a q_a hAd x3 _ rfl) (cwV 1 hts (gV q2_233 q2_15 q2_16 q1_3 q2_17) rfl rfl rfl hd_X4_roundCell ⟨Nat.le_of_ble_eq_true rfl, Nat.le_of_ble_eq_true rfl⟩) (va_recv hk.1 hP (ci := 4) (q0 := 3) rfl rfl) rfl hl.1 rfl (Nat.le_of_ble_eq_true rfl) dX3_missesNumber_33 ⟨Nat.zero_le _, Nat.zero_le _⟩) hS (fun _ h => h) (fun H locs hP hS => ?_)
        have hP : va_P D vwCl (cw ad cI cL cZ c_sr t_n t_r t_w s_w s_h s_c s_p s_s p_nx p_sz r_k r_r r_p l_z q_z t_t b_l b_b b_n r_t l_l l_b l_n q_l q_b q_n t_le s_cs s_ps s_ha s_en pk ik s_ro s_me s_be s_se s_co pl pb pn il ib im l_a q_a) H := hP
        refine lv_lload_n hx hb dX3_missesNumber_36 rfl (lv_at hl 2 rfl) ?_
        refine lv_land hx hb dX3_missesNumber_37 ?_
        refine go_i (ru_S (n := 1) ⟨hx, hb, hml, hown, hts⟩ hk hP (c_J13_bitCount_95d88 l D cI cL cZ (cAd ad) (cw ad cI cL cZ c_sr t_n t_r t_w s_w s_h s_c s_p s_s p_nx p_sz r_k r_r r_p l_z q_z t_t b_l b_b b_n r_t l_l l_b l_n q_l q_b q_n t_le s_cs s_ps s_ha s_en pk ik s_ro s_me s_be s_se s_co pl pb pn il ib im l_a q_a) ((f_X4_roundCell x3 s_ro) &&& y1) _ rfl) (va_cwS 1 hts (gS q3_3 q3_4 q1_13 q3_5) rfl rfl rfl hd_J13_bitCount_95d88 ⟨Nat.le_of_ble_eq_true rfl, Nat.le_of_ble_eq_true rfl⟩) rfl hl.1 rfl (Nat.le_of_ble_eq_true rfl) dX3_missesNumber_38 ⟨Nat.zero_le _, Nat.zero_le _⟩) hS (fun _ h => h) (fun H locs hP hS => ?_)
        have hP : va_P D vwCl (cw ad cI cL cZ c_sr t_n t_r t_w s_w s_h s_c s_p s_s p_nx p_sz r_k r_r r_p l_z q_z t_t b_l b_b b_n r_t l_l l_b l_n q_l q_b q_n t_le s_cs s_ps s_ha s_en pk ik s_ro s_me s_be s_se s_co pl pb pn il ib im l_a q_a) H := hP
        refine lv_iload hx hb dX3_missesNumber_41 (lv_at hl 0 rfl) ?_
        refine lv_icmp_eq (tgt := 48) hx hb dX3_missesNumber_43 (by decide) (fun c43 => ?_) (fun c43 => ?_)
        · have hr := (if_pos c43).symm.trans hr
          refine lv_iinc (v := x3 + 1) (lv' := [(3, .int (x3 + 1)), (4, .int (f_X0_numberOf x3 b_n)), (0, .ref (ad 25)), (1, .long y1)]) hx hb dX3_missesNumber_48 hl (k := 3) rfl rfl (by decide) rfl (fun ls hl => ?_)
          refine lv_goto (tgt := 2) hx hb dX3_missesNumber_51 (by decide) ?_
          exact ih (x3 + 1) _ _ _ (fuU_s hf c10) hr hP hS (lv_sub hl [2, 3, 0] rfl)
        · have hr := (if_neg c43).symm.trans hr
          exact h1 _ _ _ hr hP hS (lv_sub hl [] rfl)
set_option maxHeartbeats 4000000 in
set_option maxRecDepth 100000 in
theorem c_X3_missesNumber (l : Launch) (D : va_G) (cI cL cZ : ClassId) (ad : Nat → Nat) (c_sr t_n t_r t_w s_w s_h s_c s_p s_s p_nx p_sz r_k r_r r_p l_z q_z : Int32) (t_t b_l b_b b_n r_t l_l l_b l_n q_l q_b q_n : Int64) (t_le s_cs s_ps s_ha s_en pk ik : Nat → Int32) (s_ro s_me s_be s_se s_co pl pb pn il ib im l_a q_a : Nat → Int64) (hAd : cInj ad) (p1 : Int64) (r : Int32) (hr : f_X3_missesNumber p1 s_c b_n s_ro = r) : MZ l yX3_missesNumber (Cond.code yX3_missesNumber cX3_missesNumber 5 (some .boolean) :: W0) 2 43 D cI cL cZ (cAd ad) [.ref (ad 25), .long p1] (cw ad cI cL cZ c_sr t_n t_r t_w s_w s_h s_c s_p s_s p_nx p_sz r_k r_r r_p l_z q_z t_t b_l b_b b_n r_t l_l l_b l_n q_l q_b q_n t_le s_cs s_ps s_ha s_en pk ik s_ro s_me s_be s_se s_co pl pb pn il ib im l_a q_a) r (cw ad cI cL cZ c_sr t_n t_r t_w s_w s_h s_c s_p s_s p_nx p_sz r_k r_r r_p l_z q_z t_t b_l b_b b_n r_t l_l l_b l_n q_l q_b q_n t_le s_cs s_ps s_ha s_en pk ik s_ro s_me s_be s_se s_co pl pb pn il ib im l_a q_a) := by
  refine mk_start (cc := cX3_missesNumber) (maxL := 5) (ret := (some .boolean)) (by decide) rfl (Nat.le_of_ble_eq_true rfl) ?_
  intro p e s m below meth c ls C hP hS hl
  obtain ⟨hx, hb, hml, hrt, hlocks, hown, hts, hk⟩ := C
  have hown : s.vm.findClass RX3 = some m.cls := hown
  have hl : lv_has ls 5 [(0, .ref (ad 25)), (1, .long p1)] := hl
  rw [f_X3_missesNumber] at hr
  refine lv_iconst (v := 0) hx hb dX3_missesNumber_0 (by decide) ?_
  refine lv_istore_n (lv' := [(3, .int 0), (0, .ref (ad 25)), (1, .long p1)]) hx hb dX3_missesNumber_1 rfl hl (by decide) rfl (fun ls hl => ?_)
  refine lp_X3_missesNumber_2 l D cI cL cZ ad c_sr t_n t_r t_w s_w s_h s_c s_p s_s p_nx p_sz r_k r_r r_p l_z q_z t_t b_l b_b b_n r_t l_l l_b l_n q_l q_b q_n t_le s_cs s_ps s_ha s_en pk ik s_ro s_me s_be s_se s_co pl pb pn il ib im l_a q_a ⟨hx, hb, hml, hrt, hlocks, hown, hts, hk⟩ hAd p1 _ _ _ (fun H locs ls hr hP hS hl => ?_) (fun H locs ls hr hP hS hl => ?_) (fu s_c (0 : Int32)) 0 _ _ _ (fuU_0 (by decide)) hr hP hS (lv_sub hl [1, 2, 0] rfl)
  · refine lv_iconst (v := 0) hx hb dX3_missesNumber_54 (by decide) ?_
    subst hr
    exact ret_z hx hb hrt hlocks bz_0 hP hS dX3_missesNumber_55
  · refine lv_iconst (v := 1) hx hb dX3_missesNumber_46 (by decide) ?_
    subst hr
    exact ret_z hx hb hrt hlocks bz_1 hP hS dX3_missesNumber_47
theorem hd_X3_chainThatWouldClose : yX3_chainThatWouldClose.cls = RX3 ∧ yX3_chainThatWouldClose.cls ≠ "java/lang/invoke/MethodHandle" ∧ yX3_chainThatWouldClose.cls ≠ "java/lang/invoke/VarHandle" ∧ (parseMethodDescriptor yX3_chainThatWouldClose.desc).map (fun d => d.parameters.length) = some 1 := by decide +kernel
def f_X3_chainThatWouldClose (p1 : Int32) (b_l : Int64) (s_en : Nat → Int32) (s_me : Nat → Int64) (s_be : Nat → Int64) : Int64 := (if (lg_cmp ((f_X4_atPoint (f_X4_end p1 0 s_en) s_me) &&& b_l) 0) = 0 then 0 else (if (lg_cmp ((f_X4_atPoint (f_X4_end p1 1 s_en) s_me) &&& b_l) 0) = 0 then 0 else (bd (f_X4_chainOf b_l (f_J13_numberOfTrailingZeros_95d88 ((f_X4_atPoint (f_X4_end p1 0 s_en) s_me) &&& b_l)) s_be) (fun v1 => (if (lg_cmp (v1 &&& ((f_X4_atPoint (f_X4_end p1 1 s_en) s_me) &&& b_l)) 0) = 0 then 0 else v1)))))
set_option maxHeartbeats 4000000 in
set_option maxRecDepth 100000 in
theorem c_X3_chainThatWouldClose (l : Launch) (D : va_G) (cI cL cZ : ClassId) (ad : Nat → Nat) (c_sr t_n t_r t_w s_w s_h s_c s_p s_s p_nx p_sz r_k r_r r_p l_z q_z : Int32) (t_t b_l b_b b_n r_t l_l l_b l_n q_l q_b q_n : Int64) (t_le s_cs s_ps s_ha s_en pk ik : Nat → Int32) (s_ro s_me s_be s_se s_co pl pb pn il ib im l_a q_a : Nat → Int64) (hAd : cInj ad) (p1 : Int32) (r : Int64) (hr : f_X3_chainThatWouldClose p1 b_l s_en s_me s_be = r) : ML l yX3_chainThatWouldClose (Cond.code yX3_chainThatWouldClose cX3_chainThatWouldClose 8 (some .long) :: W0) 3 74 D cI cL cZ (cAd ad) [.ref (ad 25), .int p1] (cw ad cI cL cZ c_sr t_n t_r t_w s_w s_h s_c s_p s_s p_nx p_sz r_k r_r r_p l_z q_z t_t b_l b_b b_n r_t l_l l_b l_n q_l q_b q_n t_le s_cs s_ps s_ha s_en pk ik s_ro s_me s_be s_se s_co pl pb pn il ib im l_a q_a) r (cw ad cI cL cZ c_sr t_n t_r t_w s_w s_h s_c s_p s_s p_nx p_sz r_k r_r r_p l_z q_z t_t b_l b_b b_n r_t l_l l_b l_n q_l q_b q_n t_le s_cs s_ps s_ha s_en pk ik s_ro s_me s_be s_se s_co pl pb pn il ib im l_a q_a) := by
  refine mk_start (cc := cX3_chainThatWouldClose) (maxL := 8) (ret := (some .long)) (by decide) rfl (Nat.le_of_ble_eq_true rfl) ?_
  intro p e s m below meth c ls C hP hS hl
  obtain ⟨hx, hb, hml, hrt, hlocks, hown, hts, hk⟩ := C
  have hown : s.vm.findClass RX3 = some m.cls := hown
  have hl : lv_has ls 8 [(0, .ref (ad 25)), (1, .int p1)] := hl
  rw [f_X3_chainThatWouldClose] at hr
  refine lv_aload_n hx hb dX3_chainThatWouldClose_0 rfl (lv_at hl 0 rfl) ?_
  refine va_get (D := D) (ci := 3) (v := .ref (ad 3)) (C := RX3) (T := TX3) (N := 6) hx hb hts u_X3 hown hk.1 hP 25 rfl rfl 0 (by decide) (hts _ q1_179) (fun _ h9 => h9) rfl dX3_chainThatWouldClose_1 ?_
  refine lv_aload_n hx hb dX3_chainThatWouldClose_4 rfl (lv_at hl 0 rfl) ?_
  refine va_get (D := D) (ci := 3) (v := .ref (ad 3)) (C := RX3) (T := TX3) (N := 6) hx hb hts u_X3 hown hk.1 hP 25 rfl rfl 0 (by decide) (hts _ q1_179) (fun _ h9 => h9) rfl dX3_chainThatWouldClose_5 ?_
  refine lv_iload_n hx hb dX3_chainThatWouldClose_8 rfl (lv_at hl 1 rfl) ?_
  refine lv_iconst (v := 0) hx hb dX3_chainThatWouldClose_9 (by decide) ?_
  refine go_i (ru_V (n := 2) ⟨hx, hb, hml, hown, hts⟩ hk hP (c_X4_end l D cI cL cZ ad c_sr t_n t_r t_w s_w s_h s_c s_p s_s p_nx p_sz r_k r_r r_p l_z q_z t_t b_l b_b b_n r_t l_l l_b l_n q_l q_b q_n t_le s_cs s_ps s_ha s_en pk ik s_ro s_me s_be s_se s_co pl pb pn il ib im l_a q_a hAd p1 0 _ rfl) (cwV 2 hts (gV q3_47 q2_55 q2_56 q1_3 q2_57) rfl rfl rfl hd_X4_end ⟨Nat.le_of_ble_eq_true rfl, Nat.le_of_ble_eq_true rfl⟩) (va_recv hk.1 hP (ci := 4) (q0 := 3) rfl rfl) rfl hl.1 rfl (Nat.le_of_ble_eq_true rfl) dX3_chainThatWouldClose_10 ⟨Nat.zero_le _, Nat.zero_le _⟩) hS (fun _ h => h) (fun H locs hP hS => ?_)
  have hP : va_P D vwCl (cw ad cI cL cZ c_sr t_n t_r t_w s_w s_h s_c s_p s_s p_nx p_sz r_k r_r r_p l_z q_z t_t b_l b_b b_n r_t l_l l_b l_n q_l q_b q_n t_le s_cs s_ps s_ha s_en pk ik s_ro s_me s_be s_se s_co pl pb pn il ib im l_a q_a) H := hP
  refine go_l (ru_V (n := 1) ⟨hx, hb, hml, hown, hts⟩ hk hP (c_X4_atPoint l D cI cL cZ ad c_sr t_n t_r t_w s_w s_h s_c s_p s_s p_nx p_sz r_k r_r r_p l_z q_z t_t b_l b_b b_n r_t l_l l_b l_n q_l q_b q_n t_le s_cs s_ps s_ha s_en pk ik s_ro s_me s_be s_se s_co pl pb pn il ib im l_a q_a hAd (f_X4_end p1 0 s_en) _ rfl) (cwV 1 hts (gV q3_13 q2_47 q2_48 q1_3 q2_49) rfl rfl rfl hd_X4_atPoint ⟨Nat.le_of_ble_eq_true rfl, Nat.le_of_ble_eq_true rfl⟩) (va_recv hk.1 hP (ci := 4) (q0 := 3) rfl rfl) rfl hl.1 rfl (Nat.le_of_ble_eq_true rfl) dX3_chainThatWouldClose_13 ⟨Nat.zero_le _, Nat.zero_le _⟩) hS (fun _ h => h) (fun H locs hP hS => ?_)
  have hP : va_P D vwCl (cw ad cI cL cZ c_sr t_n t_r t_w s_w s_h s_c s_p s_s p_nx p_sz r_k r_r r_p l_z q_z t_t b_l b_b b_n r_t l_l l_b l_n q_l q_b q_n t_le s_cs s_ps s_ha s_en pk ik s_ro s_me s_be s_se s_co pl pb pn il ib im l_a q_a) H := hP
  refine lv_aload_n hx hb dX3_chainThatWouldClose_16 rfl (lv_at hl 0 rfl) ?_
  refine va_get (D := D) (ci := 3) (v := .ref (ad 13)) (C := RX3) (T := TX3) (N := 6) hx hb hts u_X3 hown hk.1 hP 25 rfl rfl 1 (by decide) (hts _ q1_180) (fun _ h9 => h9) rfl dX3_chainThatWouldClose_17 ?_
  refine va_get (D := D) (ci := 0) (v := .long b_l) (C := RX0) (T := TX0) (N := 3) hx hb hts u_X0 hown hk.1 hP 13 rfl rfl 0 (by decide) (hts _ q1_116) (fun _ h9 => h9) rfl dX3_chainThatWouldClose_20 ?_
  refine lv_land hx hb dX3_chainThatWouldClose_23 ?_
  refine lv_lstore_n (lv' := [(2, .long ((f_X4_atPoint (f_X4_end p1 0 s_en) s_me) &&& b_l)), (0, .ref (ad 25)), (1, .int p1)]) hx hb dX3_chainThatWouldClose_24 rfl hl (by decide) rfl (fun ls hl => ?_)
  refine lv_aload_n hx hb dX3_chainThatWouldClose_25 rfl (lv_at hl 1 rfl) ?_
  refine va_get (D := D) (ci := 3) (v := .ref (ad 3)) (C := RX3) (T := TX3) (N := 6) hx hb hts u_X3 hown hk.1 hP 25 rfl rfl 0 (by decide) (hts _ q1_179) (fun _ h9 => h9) rfl dX3_chainThatWouldClose_26 ?_
  refine lv_aload_n hx hb dX3_chainThatWouldClose_29 rfl (lv_at hl 1 rfl) ?_
  refine va_get (D := D) (ci := 3) (v := .ref (ad 3)) (C := RX3) (T := TX3) (N := 6) hx hb hts u_X3 hown hk.1 hP 25 rfl rfl 0 (by decide) (hts _ q1_179) (fun _ h9 => h9) rfl dX3_chainThatWouldClose_30 ?_
  refine lv_iload_n hx hb dX3_chainThatWouldClose_33 rfl (lv_at hl 2 rfl) ?_
  refine lv_iconst (v := 1) hx hb dX3_chainThatWouldClose_34 (by decide) ?_
  refine go_i (ru_V (n := 2) ⟨hx, hb, hml, hown, hts⟩ hk hP (c_X4_end l D cI cL cZ ad c_sr t_n t_r t_w s_w s_h s_c s_p s_s p_nx p_sz r_k r_r r_p l_z q_z t_t b_l b_b b_n r_t l_l l_b l_n q_l q_b q_n t_le s_cs s_ps s_ha s_en pk ik s_ro s_me s_be s_se s_co pl pb pn il ib im l_a q_a hAd p1 1 _ rfl) (cwV 2 hts (gV q3_47 q2_55 q2_56 q1_3 q2_57) rfl rfl rfl hd_X4_end ⟨Nat.le_of_ble_eq_true rfl, Nat.le_of_ble_eq_true rfl⟩) (va_recv hk.1 hP (ci := 4) (q0 := 3) rfl rfl) rfl hl.1 rfl (Nat.le_of_ble_eq_true rfl) dX3_chainThatWouldClose_35 ⟨Nat.zero_le _, Nat.zero_le _⟩) hS (fun _ h => h) (fun H locs hP hS => ?_)
  have hP : va_P D vwCl (cw ad cI cL cZ c_sr t_n t_r t_w s_w s_h s_c s_p s_s p_nx p_sz r_k r_r r_p l_z q_z t_t b_l b_b b_n r_t l_l l_b l_n q_l q_b q_n t_le s_cs s_ps s_ha s_en pk ik s_ro s_me s_be s_se s_co pl pb pn il ib im l_a q_a) H := hP
  refine go_l (ru_V (n := 1) ⟨hx, hb, hml, hown, hts⟩ hk hP (c_X4_atPoint l D cI cL cZ ad c_sr t_n t_r t_w s_w s_h s_c s_p s_s p_nx p_sz r_k r_r r_p l_z q_z t_t b_l b_b b_n r_t l_l l_b l_n q_l q_b q_n t_le s_cs s_ps s_ha s_en pk ik s_ro s_me s_be s_se s_co pl pb pn il ib im l_a q_a hAd (f_X4_end p1 1 s_en) _ rfl) (cwV 1 hts (gV q3_13 q2_47 q2_48 q1_3 q2_49) rfl rfl rfl hd_X4_atPoint ⟨Nat.le_of_ble_eq_true rfl, Nat.le_of_ble_eq_true rfl⟩) (va_recv hk.1 hP (ci := 4) (q0 := 3) rfl rfl) rfl hl.1 rfl (Nat.le_of_ble_eq_true rfl) dX3_chainThatWouldClose_38 ⟨Nat.zero_le _, Nat.zero_le _⟩) hS (fun _ h => h) (fun H locs hP hS => ?_)
  have hP : va_P D vwCl (cw ad cI cL cZ c_sr t_n t_r t_w s_w s_h s_c s_p s_s p_nx p_sz r_k r_r r_p l_z q_z t_t b_l b_b b_n r_t l_l l_b l_n q_l q_b q_n t_le s_cs s_ps s_ha s_en pk ik s_ro s_me s_be s_se s_co pl pb pn il ib im l_a q_a) H := hP
  refine lv_aload_n hx hb dX3_chainThatWouldClose_41 rfl (lv_at hl 1 rfl) ?_
  refine va_get (D := D) (ci := 3) (v := .ref (ad 13)) (C := RX3) (T := TX3) (N := 6) hx hb hts u_X3 hown hk.1 hP 25 rfl rfl 1 (by decide) (hts _ q1_180) (fun _ h9 => h9) rfl dX3_chainThatWouldClose_42 ?_
  refine va_get (D := D) (ci := 0) (v := .long b_l) (C := RX0) (T := TX0) (N := 3) hx hb hts u_X0 hown hk.1 hP 13 rfl rfl 0 (by decide) (hts _ q1_116) (fun _ h9 => h9) rfl dX3_chainThatWouldClose_45 ?_
  refine lv_land hx hb dX3_chainThatWouldClose_48 ?_
  refine lv_lstore (lv' := [(4, .long ((f_X4_atPoint (f_X4_end p1 1 s_en) s_me) &&& b_l)), (2, .long ((f_X4_atPoint (f_X4_end p1 0 s_en) s_me) &&& b_l)), (0, .ref (ad 25)), (1, .int p1)]) hx hb dX3_chainThatWouldClose_49 hl (by decide) rfl (fun ls hl => ?_)
  refine lv_lload_n hx hb dX3_chainThatWouldClose_51 rfl (lv_at hl 1 rfl) ?_
  refine lv_lconst (v := 0) hx hb dX3_chainThatWouldClose_52 (by decide) ?_
  refine W.lcmp hx hb dX3_chainThatWouldClose_53 ?_
  refine lv_if_eq (tgt := 64) hx hb dX3_chainThatWouldClose_54 (by decide) (fun c54 => ?_) (fun c54 => ?_)
  · have hr := (if_pos c54).symm.trans hr
    refine lv_lconst (v := 0) hx hb dX3_chainThatWouldClose_64 (by decide) ?_
    subst hr
    exact ret_l hx hb hrt hlocks hP hS dX3_chainThatWouldClose_65
  · have hr := (if_neg c54).symm.trans hr
    refine lv_lload hx hb dX3_chainThatWouldClose_57 (lv_at hl 0 rfl) ?_
    refine lv_lconst (v := 0) hx hb dX3_chainThatWouldClose_59 (by decide) ?_
    refine W.lcmp hx hb dX3_chainThatWouldClose_60 ?_
    refine lv_if_ne (tgt := 66) hx hb dX3_chainThatWouldClose_61 (by decide) (fun c61 => ?_) (fun c61 => ?_)
    · have hr := (if_neg c61).symm.trans hr
      refine lv_aload_n hx hb dX3_chainThatWouldClose_66 rfl (lv_at hl 2 rfl) ?_
      refine va_get (D := D) (ci := 3) (v := .ref (ad 3)) (C := RX3) (T := TX3) (N := 6) hx hb hts u_X3 hown hk.1 hP 25 rfl rfl 0 (by decide) (hts _ q1_179) (fun _ h9 => h9) rfl dX3_chainThatWouldClose_67 ?_
      refine lv_aload_n hx hb dX3_chainThatWouldClose_70 rfl (lv_at hl 2 rfl) ?_
      refine va_get (D := D) (ci := 3) (v := .ref (ad 13)) (C := RX3) (T := TX3) (N := 6) hx hb hts u_X3 hown hk.1 hP 25 rfl rfl 1 (by decide) (hts _ q1_180) (fun _ h9 => h9) rfl dX3_chainThatWouldClose_71 ?_
      refine va_get (D := D) (ci := 0) (v := .long b_l) (C := RX0) (T := TX0) (N := 3) hx hb hts u_X0 hown hk.1 hP 13 rfl rfl 0 (by decide) (hts _ q1_116) (fun _ h9 => h9) rfl dX3_chainThatWouldClose_74 ?_
      refine lv_lload_n hx hb dX3_chainThatWouldClose_77 rfl (lv_at hl 1 rfl) ?_
      refine go_i (ru_S (n := 1) ⟨hx, hb, hml, hown, hts⟩ hk hP (c_J13_numberOfTrailingZeros_95d88 l D cI cL cZ (cAd ad) (cw ad cI cL cZ c_sr t_n t_r t_w s_w s_h s_c s_p s_s p_nx p_sz r_k r_r r_p l_z q_z t_t b_l b_b b_n r_t l_l l_b l_n q_l q_b q_n t_le s_cs s_ps s_ha s_en pk ik s_ro s_me s_be s_se s_co pl pb pn il ib im l_a q_a) ((f_X4_atPoint (f_X4_end p1 0 s_en) s_me) &&& b_l) _ rfl) (va_cwS 1 hts (gS q3_48 q3_28 q1_13 q3_29) rfl rfl rfl hd_J13_numberOfTrailingZeros_95d88 ⟨Nat.le_of_ble_eq_true rfl, Nat.le_of_ble_eq_true rfl⟩) rfl hl.1 rfl (Nat.le_of_ble_eq_true rfl) dX3_chainThatWouldClose_78 ⟨Nat.zero_le _, Nat.zero_le _⟩) hS (fun _ h => h) (fun H locs hP hS => ?_)
      have hP : va_P D vwCl (cw ad cI cL cZ c_sr t_n t_r t_w s_w s_h s_c s_p s_s p_nx p_sz r_k r_r r_p l_z q_z t_t b_l b_b b_n r_t l_l l_b l_n q_l q_b q_n t_le s_cs s_ps s_ha s_en pk ik s_ro s_me s_be s_se s_co pl pb pn il ib im l_a q_a) H := hP
      refine go_l (ru_V (n := 2) ⟨hx, hb, hml, hown, hts⟩ hk hP (c_X4_chainOf l D cI cL cZ ad c_sr t_n t_r t_w s_w s_h s_c s_p s_s p_nx p_sz r_k r_r r_p l_z q_z t_t b_l b_b b_n r_t l_l l_b l_n q_l q_b q_n t_le s_cs s_ps s_ha s_en pk ik s_ro s_me s_be s_se s_co pl pb pn il ib im l_a q_a hAd b_l (f_J13_numberOfTrailingZeros_95d88 ((f_X4_atPoint (f_X4_end p1 0 s_en) s_me) &&& b_l)) _ rfl) (cwV 2 hts (gV q3_23 q3_24 q3_25 q1_3 q3_26) rfl rfl rfl hd_X4_chainOf ⟨Nat.le_of_ble_eq_true rfl, Nat.le_of_ble_eq_true rfl⟩) (va_recv hk.1 hP (ci := 4) (q0 := 3) rfl rfl) rfl hl.1 rfl (Nat.le_of_ble_eq_true rfl) dX3_chainThatWouldClose_81 ⟨Nat.zero_le _, Nat.zero_le _⟩) hS (fun _ h => h) (fun H locs hP hS => ?_)
      have hP : va_P D vwCl (cw ad cI cL cZ c_sr t_n t_r t_w s_w s_h s_c s_p s_s p_nx p_sz r_k r_r r_p l_z q_z t_t b_l b_b b_n r_t l_l l_b l_n q_l q_b q_n t_le s_cs s_ps s_ha s_en pk ik s_ro s_me s_be s_se s_co pl pb pn il ib im l_a q_a) H := hP
      refine lv_topl (fun v1 ev1 => ?_)
      have hr := (bd_eq ev1.symm).symm.trans hr
      refine lv_lstore (lv' := [(6, .long v1), (4, .long ((f_X4_atPoint (f_X4_end p1 1 s_en) s_me) &&& b_l)), (2, .long ((f_X4_atPoint (f_X4_end p1 0 s_en) s_me) &&& b_l)), (0, .ref (ad 25)), (1, .int p1)]) hx hb dX3_chainThatWouldClose_84 hl (by decide) rfl (fun ls hl => ?_)
      refine lv_lload hx hb dX3_chainThatWouldClose_86 (lv_at hl 0 rfl) ?_
      refine lv_lload hx hb dX3_chainThatWouldClose_88 (lv_at hl 1 rfl) ?_
      refine lv_land hx hb dX3_chainThatWouldClose_90 ?_
      refine lv_lconst (v := 0) hx hb dX3_chainThatWouldClose_91 (by decide) ?_
      refine W.lcmp hx hb dX3_chainThatWouldClose_92 ?_
      refine lv_if_eq (tgt := 101) hx hb dX3_chainThatWouldClose_93 (by decide) (fun c93 => ?_) (fun c93 => ?_)
      · have hr := (if_pos c93).symm.trans hr
        refine lv_lconst (v := 0) hx hb dX3_chainThatWouldClose_101 (by decide) ?_
        subst hr
        exact ret_l hx hb hrt hlocks hP hS dX3_chainThatWouldClose_102
      · have hr := (if_neg c93).symm.trans hr
        refine lv_lload hx hb dX3_chainThatWouldClose_96 (lv_at hl 0 rfl) ?_
        refine lv_goto (tgt := 102) hx hb dX3_chainThatWouldClose_98 (by decide) ?_
        subst hr
        exact ret_l hx hb hrt hlocks hP hS dX3_chainThatWouldClose_102
    · have hr := (if_pos c61).symm.trans hr
      refine lv_lconst (v := 0) hx hb dX3_chainThatWouldClose_64 (by decide) ?_
      subst hr
      exact ret_l hx hb hrt hlocks hP hS dX3_chainThatWouldClose_65
theorem hd_X3_lookAtCell : yX3_lookAtCell.cls = RX3 ∧ yX3_lookAtCell.cls ≠ "java/lang/invoke/MethodHandle" ∧ yX3_lookAtCell.cls ≠ "java/lang/invoke/VarHandle" ∧ (parseMethodDescriptor yX3_lookAtCell.desc).map (fun d => d.parameters.length) = some 2 := by decide +kernel
def f_X3_lookAtCell (p1 : Int32) (p2 : Int64) (r_k : Int32) (b_l : Int64) (b_b : Int64) (r_t : Int64) : Int32 × Int64 := (if 0 ≤ p1 then (if p1 < (f_J13_bitCount_95d88 (p2 &&& b_l)) then (3, r_t) else (if p1 ≤ ((f_J13_bitCount_95d88 (p2 &&& b_l)) + (f_J13_bitCount_95d88 (f_X3_openOf p2 b_l b_b))) then (if (f_J13_bitCount_95d88 (f_X3_openOf p2 b_l b_b)) ≤ 0 then (if (f_J13_bitCount_95d88 (f_X3_openOf p2 b_l b_b)) ≤ 0 then (r_k, r_t) else (if ((f_J13_bitCount_95d88 (p2 &&& b_l)) + (f_J13_bitCount_95d88 (f_X3_openOf p2 b_l b_b))) = p1 then (bd (f_X3_tell 2 (f_X3_openOf p2 b_l b_b)) (fun u1 => (u1.1, u1.2))) else (r_k, r_t))) else (if (f_J13_bitCount_95d88 (p2 &&& b_l)) = p1 then (bd (f_X3_tell 1 (f_X3_openOf p2 b_l b_b)) (fun u3 => (u3.1, u3.2))) else (if (f_J13_bitCount_95d88 (f_X3_openOf p2 b_l b_b)) ≤ 0 then (r_k, r_t) else (if ((f_J13_bitCount_95d88 (p2 &&& b_l)) + (f_J13_bitCount_95d88 (f_X3_openOf p2 b_l b_b))) = p1 then (bd (f_X3_tell 2 (f_X3_openOf p2 b_l b_b)) (fun u2 => (u2.1, u2.2))) else (r_k, r_t))))) else (3, r_t))) else (r_k, r_t))
set_option maxHeartbeats 4000000 in
set_option maxRecDepth 100000 in
theorem c_X3_lookAtCell (l : Launch) (D : va_G) (cI cL cZ : ClassId) (ad : Nat → Nat) (c_sr t_n t_r t_w s_w s_h s_c s_p s_s p_nx p_sz r_k r_r r_p l_z q_z : Int32) (t_t b_l b_b b_n r_t l_l l_b l_n q_l q_b q_n : Int64) (t_le s_cs s_ps s_ha s_en pk ik : Nat → Int32) (s_ro s_me s_be s_se s_co pl pb pn il ib im l_a q_a : Nat → Int64) (hAd : cInj ad) (p1 : Int32) (p2 : Int64) (r : Int32 × Int64) (hr : f_X3_lookAtCell p1 p2 r_k b_l b_b r_t = r) : MV l yX3_lookAtCell (Cond.code yX3_lookAtCell cX3_lookAtCell 8 none :: W0) 1 23 D cI cL cZ (cAd ad) [.ref (ad 25), .int p1, .long p2] (cw ad cI cL cZ c_sr t_n t_r t_w s_w s_h s_c s_p s_s p_nx p_sz r_k r_r r_p l_z q_z t_t b_l b_b b_n r_t l_l l_b l_n q_l q_b q_n t_le s_cs s_ps s_ha s_en pk ik s_ro s_me s_be s_se s_co pl pb pn il ib im l_a q_a) (cw ad cI cL cZ c_sr t_n t_r t_w s_w s_h s_c s_p s_s p_nx p_sz r.1 r_r r_p l_z q_z t_t b_l b_b b_n r.2 l_l l_b l_n q_l q_b q_n t_le s_cs s_ps s_ha s_en pk ik s_ro s_me s_be s_se s_co pl pb pn il ib im l_a q_a) := by
  refine mk_start (cc := cX3_lookAtCell) (maxL := 8) (ret := none) (by decide) rfl (Nat.le_of_ble_eq_true rfl) ?_
  intro p e s m below meth c ls C hP hS hl
  obtain ⟨hx, hb, hml, hrt, hlocks, hown, hts, hk⟩ := C
  have hown : s.vm.findClass RX3 = some m.cls := hown
  have hl : lv_has ls 8 [(0, .ref (ad 25)), (1, .int p1), (2, .long p2)] := hl
  rw [f_X3_lookAtCell] at hr
  refine lv_iload_n hx hb dX3_lookAtCell_0 rfl (lv_at hl 1 rfl) ?_
  refine lv_if_ge (tgt := 5) hx hb dX3_lookAtCell_1 (by decide) (fun c1 => ?_) (fun c1 => ?_)
  · have hr := (if_pos c1).symm.trans hr
    refine lv_aload_n hx hb dX3_lookAtCell_5 rfl (lv_at hl 0 rfl) ?_
    refine lv_lload_n hx hb dX3_lookAtCell_6 rfl (lv_at hl 2 rfl) ?_
    refine go_l (ru_V (n := 1) ⟨hx, hb, hml, hown, hts⟩ hk hP (c_X3_openOf l D cI cL cZ ad c_sr t_n t_r t_w s_w s_h s_c s_p s_s p_nx p_sz r_k r_r r_p l_z q_z t_t b_l b_b b_n r_t l_l l_b l_n q_l q_b q_n t_le s_cs s_ps s_ha s_en pk ik s_ro s_me s_be s_se s_co pl pb pn il ib im l_a q_a hAd p2 _ rfl) (cwV 1 hts (gV q2_238 q3_0 qs1_13 q1_8 q3_1) rfl rfl rfl hd_X3_openOf ⟨Nat.le_of_ble_eq_true rfl, Nat.le_of_ble_eq_true rfl⟩) (va_recv hk.1 hP (ci := 3) (q0 := 25) rfl rfl) rfl hl.1 rfl (Nat.le_of_ble_eq_true rfl) dX3_lookAtCell_7 ⟨Nat.zero_le _, Nat.zero_le _⟩) hS (fun _ h => h) (fun H locs hP hS => ?_)
    have hP : va_P D vwCl (cw ad cI cL cZ c_sr t_n t_r t_w s_w s_h s_c s_p s_s p_nx p_sz r_k r_r r_p l_z q_z t_t b_l b_b b_n r_t l_l l_b l_n q_l q_b q_n t_le s_cs s_ps s_ha s_en pk ik s_ro s_me s_be s_se s_co pl pb pn il ib im l_a q_a) H := hP
    refine lv_lstore (lv' := [(4, .long (f_X3_openOf p2 b_l b_b)), (0, .ref (ad 25)), (1, .int p1), (2, .long p2)]) hx hb dX3_lookAtCell_10 hl (by decide) rfl (fun ls hl => ?_)
    refine lv_lload_n hx hb dX3_lookAtCell_12 rfl (lv_at hl 3 rfl) ?_
    refine lv_aload_n hx hb dX3_lookAtCell_13 rfl (lv_at hl 1 rfl) ?_
    refine va_get (D := D) (ci := 3) (v := .ref (ad 13)) (C := RX3) (T := TX3) (N := 6) hx hb hts u_X3 hown hk.1 hP 25 rfl rfl 1 (by decide) (hts _ q1_180) (fun _ h9 => h9) rfl dX3_lookAtCell_14 ?_
    refine va_get (D := D) (ci := 0) (v := .long b_l) (C := RX0) (T := TX0) (N := 3) hx hb hts u_X0 hown hk.1 hP 13 rfl rfl 0 (by decide) (hts _ q1_116) (fun _ h9 => h9) rfl dX3_lookAtCell_17 ?_
    refine lv_land hx hb dX3_lookAtCell_20 ?_
    refine go_i (ru_S (n := 1) ⟨hx, hb, hml, hown, hts⟩ hk hP (c_J13_bitCount_95d88 l D cI cL cZ (cAd ad) (cw ad cI cL cZ c_sr t_n t_r t_w s_w s_h s_c s_p s_s p_nx p_sz r_k r_r r_p l_z q_z t_t b_l b_b b_n r_t l_l l_b l_n q_l q_b q_n t_le s_cs s_ps s_ha s_en pk ik s_ro s_me s_be s_se s_co pl pb pn il ib im l_a q_a) (p2 &&& b_l) _ rfl) (va_cwS 1 hts (gS q3_3 q3_4 q1_13 q3_5) rfl rfl rfl hd_J13_bitCount_95d88 ⟨Nat.le_of_ble_eq_true rfl, Nat.le_of_ble_eq_true rfl⟩) rfl hl.1 rfl (Nat.le_of_ble_eq_true rfl) dX3_lookAtCell_21 ⟨Nat.zero_le _, Nat.zero_le _⟩) hS (fun _ h => h) (fun H locs hP hS => ?_)
    have hP : va_P D vwCl (cw ad cI cL cZ c_sr t_n t_r t_w s_w s_h s_c s_p s_s p_nx p_sz r_k r_r r_p l_z q_z t_t b_l b_b b_n r_t l_l l_b l_n q_l q_b q_n t_le s_cs s_ps s_ha s_en pk ik s_ro s_me s_be s_se s_co pl pb pn il ib im l_a q_a) H := hP
    refine lv_istore (lv' := [(6, .int (f_J13_bitCount_95d88 (p2 &&& b_l))), (4, .long (f_X3_openOf p2 b_l b_b)), (0, .ref (ad 25)), (1, .int p1), (2, .long p2)]) hx hb dX3_lookAtCell_24 hl (by decide) rfl (fun ls hl => ?_)
    refine lv_lload hx hb dX3_lookAtCell_26 (lv_at hl 1 rfl) ?_
    refine go_i (ru_S (n := 1) ⟨hx, hb, hml, hown, hts⟩ hk hP (c_J13_bitCount_95d88 l D cI cL cZ (cAd ad) (cw ad cI cL cZ c_sr t_n t_r t_w s_w s_h s_c s_p s_s p_nx p_sz r_k r_r r_p l_z q_z t_t b_l b_b b_n r_t l_l l_b l_n q_l q_b q_n t_le s_cs s_ps s_ha s_en pk ik s_ro s_me s_be s_se s_co pl pb pn il ib im l_a q_a) (f_X3_openOf p2 b_l b_b) _ rfl) (va_cwS 1 hts (gS q3_3 q3_4 q1_13 q3_5) rfl rfl rfl hd_J13_bitCount_95d88 ⟨Nat.le_of_ble_eq_true rfl, Nat.le_of_ble_eq_true rfl⟩) rfl hl.1 rfl (Nat.le_of_ble_eq_true rfl) dX3_lookAtCell_28 ⟨Nat.zero_le _, Nat.zero_le _⟩) hS (fun _ h => h) (fun H locs hP hS => ?_)
    have hP : va_P D vwCl (cw ad cI cL cZ c_sr t_n t_r t_w s_w s_h s_c s_p s_s p_nx p_sz r_k r_r r_p l_z q_z t_t b_l b_b b_n r_t l_l l_b l_n q_l q_b q_n t_le s_cs s_ps s_ha s_en pk ik s_ro s_me s_be s_se s_co pl pb pn il ib im l_a q_a) H := hP
    refine lv_istore (lv' := [(7, .int (f_J13_bitCount_95d88 (f_X3_openOf p2 b_l b_b))), (6, .int (f_J13_bitCount_95d88 (p2 &&& b_l))), (4, .long (f_X3_openOf p2 b_l b_b)), (0, .ref (ad 25)), (1, .int p1), (2, .long p2)]) hx hb dX3_lookAtCell_31 hl (by decide) rfl (fun ls hl => ?_)
    refine lv_iload hx hb dX3_lookAtCell_33 (lv_at hl 1 rfl) ?_
    refine lv_iload_n hx hb dX3_lookAtCell_35 rfl (lv_at hl 4 rfl) ?_
    refine lv_icmp_gt (tgt := 48) hx hb dX3_lookAtCell_36 (by decide) (fun c36 => ?_) (fun c36 => ?_)
    · have hr := (if_pos c36).symm.trans hr
      refine lv_aload_n hx hb dX3_lookAtCell_48 rfl (lv_at hl 3 rfl) ?_
      refine lv_iconst (v := 3) hx hb dX3_lookAtCell_49 (by decide) ?_
      refine va_put (D := D) (ci := 3) (v := .int 3) (ty := .int) (C := RX3) (T := TX3) (N := 6) hx hb hts u_X3 tyX3 tyX3_ok nmX3 hown hk.1 hP (cw_D hAd) hS 25 rfl rfl 2 (by decide) (hts _ q1_181) (fun _ h9 => h9) rfl (tyX3_ok 2 (by decide)) rfl rfl (Nat.le_of_ble_eq_true rfl) dX3_lookAtCell_50 (fun H locs hP _ hS => ?_)
      have hP : va_P D vwCl (cw ad cI cL cZ c_sr t_n t_r t_w s_w s_h s_c s_p s_s p_nx p_sz 3 r_r r_p l_z q_z t_t b_l b_b b_n r_t l_l l_b l_n q_l q_b q_n t_le s_cs s_ps s_ha s_en pk ik s_ro s_me s_be s_se s_co pl pb pn il ib im l_a q_a) H := hP
      refine lv_goto (tgt := 98) hx hb dX3_lookAtCell_53 (by decide) ?_
      subst hr
      exact ret_v hx hb hrt hlocks hP hS dX3_lookAtCell_98
    · have hr := (if_neg c36).symm.trans hr
      refine lv_iload hx hb dX3_lookAtCell_39 (lv_at hl 1 rfl) ?_
      refine lv_iload hx hb dX3_lookAtCell_41 (lv_at hl 0 rfl) ?_
      refine lv_iadd hx hb dX3_lookAtCell_43 ?_
      refine lv_iload_n hx hb dX3_lookAtCell_44 rfl (lv_at hl 4 rfl) ?_
      refine lv_icmp_ge (tgt := 56) hx hb dX3_lookAtCell_45 (by decide) (fun c45 => ?_) (fun c45 => ?_)
      · have hr := (if_pos c45).symm.trans hr
        refine lv_iload hx hb dX3_lookAtCell_56 (lv_at hl 0 rfl) ?_
        refine lv_if_le (tgt := 77) hx hb dX3_lookAtCell_58 (by decide) (fun c58 => ?_) (fun c58 => ?_)
        · have hr := (if_pos c58).symm.trans hr
          refine lv_iload hx hb dX3_lookAtCell_77 (lv_at hl 0 rfl) ?_
          refine lv_if_le (tgt := 98) hx hb dX3_lookAtCell_79 (by decide) (fun c79 => ?_) (fun c79 => ?_)
          · have hr := (if_pos c79).symm.trans hr
            subst hr
            exact ret_v hx hb hrt hlocks hP hS dX3_lookAtCell_98
          · have hr := (if_neg c79).symm.trans hr
            refine lv_iload hx hb dX3_lookAtCell_82 (lv_at hl 1 rfl) ?_
            refine lv_iload hx hb dX3_lookAtCell_84 (lv_at hl 0 rfl) ?_
            refine lv_iadd hx hb dX3_lookAtCell_86 ?_
            refine lv_iload_n hx hb dX3_lookAtCell_87 rfl (lv_at hl 4 rfl) ?_
            refine lv_icmp_ne (tgt := 98) hx hb dX3_lookAtCell_88 (by decide) (fun c88 => ?_) (fun c88 => ?_)
            · have hr := (if_neg c88).symm.trans hr
              subst hr
              exact ret_v hx hb hrt hlocks hP hS dX3_lookAtCell_98
            · have hr := (if_pos c88).symm.trans hr
              refine lv_aload_n hx hb dX3_lookAtCell_91 rfl (lv_at hl 3 rfl) ?_
              refine lv_iconst (v := 2) hx hb dX3_lookAtCell_92 (by decide) ?_
              refine lv_lload hx hb dX3_lookAtCell_93 (lv_at hl 2 rfl) ?_
              obtain ⟨u1, hu1⟩ : ∃ z, f_X3_tell 2 (f_X3_openOf p2 b_l b_b) = z := ⟨_, rfl⟩
              have hr := (bd_eq hu1).symm.trans hr
              refine go_v (ru_V (n := 2) ⟨hx, hb, hml, hown, hts⟩ hk hP (c_X3_tell l D cI cL cZ ad c_sr t_n t_r t_w s_w s_h s_c s_p s_s p_nx p_sz r_k r_r r_p l_z q_z t_t b_l b_b b_n r_t l_l l_b l_n q_l q_b q_n t_le s_cs s_ps s_ha s_en pk ik s_ro s_me s_be s_se s_co pl pb pn il ib im l_a q_a hAd 2 (f_X3_openOf p2 b_l b_b) _ hu1) (cwV 2 hts (gV q3_9 q3_11 qs1_14 q1_8 q3_12) rfl rfl rfl hd_X3_tell ⟨Nat.le_of_ble_eq_true rfl, Nat.le_of_ble_eq_true rfl⟩) (va_recv hk.1 hP (ci := 3) (q0 := 25) rfl rfl) rfl hl.1 rfl (Nat.le_of_ble_eq_true rfl) dX3_lookAtCell_95 ⟨Nat.zero_le _, Nat.zero_le _⟩) hS (fun _ h => h) (fun H locs hP hS => ?_)
              have hP : va_P D vwCl (cw ad cI cL cZ c_sr t_n t_r t_w s_w s_h s_c s_p s_s p_nx p_sz u1.1 r_r r_p l_z q_z t_t b_l b_b b_n u1.2 l_l l_b l_n q_l q_b q_n t_le s_cs s_ps s_ha s_en pk ik s_ro s_me s_be s_se s_co pl pb pn il ib im l_a q_a) H := hP
              subst hr
              exact ret_v hx hb hrt hlocks hP hS dX3_lookAtCell_98
        · have hr := (if_neg c58).symm.trans hr
          refine lv_iload hx hb dX3_lookAtCell_61 (lv_at hl 1 rfl) ?_
          refine lv_iload_n hx hb dX3_lookAtCell_63 rfl (lv_at hl 4 rfl) ?_
          refine lv_icmp_ne (tgt := 77) hx hb dX3_lookAtCell_64 (by decide) (fun c64 => ?_) (fun c64 => ?_)
          · have hr := (if_neg c64).symm.trans hr
            refine lv_iload hx hb dX3_lookAtCell_77 (lv_at hl 0 rfl) ?_
            refine lv_if_le (tgt := 98) hx hb dX3_lookAtCell_79 (by decide) (fun c79 => ?_) (fun c79 => ?_)
            · have hr := (if_pos c79).symm.trans hr
              subst hr
              exact ret_v hx hb hrt hlocks hP hS dX3_lookAtCell_98
            · have hr := (if_neg c79).symm.trans hr
              refine lv_iload hx hb dX3_lookAtCell_82 (lv_at hl 1 rfl) ?_
              refine lv_iload hx hb dX3_lookAtCell_84 (lv_at hl 0 rfl) ?_
              refine lv_iadd hx hb dX3_lookAtCell_86 ?_
              refine lv_iload_n hx hb dX3_lookAtCell_87 rfl (lv_at hl 4 rfl) ?_
              refine lv_icmp_ne (tgt := 98) hx hb dX3_lookAtCell_88 (by decide) (fun c88 => ?_) (fun c88 => ?_)
              · have hr := (if_neg c88).symm.trans hr
                subst hr
                exact ret_v hx hb hrt hlocks hP hS dX3_lookAtCell_98
              · have hr := (if_pos c88).symm.trans hr
                refine lv_aload_n hx hb dX3_lookAtCell_91 rfl (lv_at hl 3 rfl) ?_
                refine lv_iconst (v := 2) hx hb dX3_lookAtCell_92 (by decide) ?_
                refine lv_lload hx hb dX3_lookAtCell_93 (lv_at hl 2 rfl) ?_
                obtain ⟨u2, hu2⟩ : ∃ z, f_X3_tell 2 (f_X3_openOf p2 b_l b_b) = z := ⟨_, rfl⟩
                have hr := (bd_eq hu2).symm.trans hr
                refine go_v (ru_V (n := 2) ⟨hx, hb, hml, hown, hts⟩ hk hP (c_X3_tell l D cI cL cZ ad c_sr t_n t_r t_w s_w s_h s_c s_p s_s p_nx p_sz r_k r_r r_p l_z q_z t_t b_l b_b b_n r_t l_l l_b l_n q_l q_b q_n t_le s_cs s_ps s_ha s_en pk ik s_ro s_me s_be s_se s_co pl pb pn il ib im l_a q_a hAd 2 (f_X3_openOf p2 b_l b_b) _ hu2) (cwV 2 hts (gV q3_9 q3_11 qs1_14 q1_8 q3_12) rfl rfl rfl hd_X3_tell ⟨Nat.le_of_ble_eq_true rfl, Nat.le_of_ble_eq_true rfl⟩) (va_recv hk.1 hP (ci := 3) (q0 := 25) rfl rfl) rfl hl.1 rfl (Nat.le_of_ble_eq_true rfl) dX3_lookAtCell_95 ⟨Nat.zero_le _, Nat.zero_le _⟩) hS (fun _ h => h) (fun H locs hP hS => ?_)
                have hP : va_P D vwCl (cw ad cI cL cZ c_sr t_n t_r t_w s_w s_h s_c s_p s_s p_nx p_sz u2.1 r_r r_p l_z q_z t_t b_l b_b b_n u2.2 l_l l_b l_n q_l q_b q_n t_le s_cs s_ps s_ha s_en pk ik s_ro s_me s_be s_se s_co pl pb pn il ib im l_a q_a) H := hP
                subst hr
                exact ret_v hx hb hrt hlocks hP hS dX3_lookAtCell_98
          · have hr := (if_pos c64).symm.trans hr
            refine lv_aload_n hx hb dX3_lookAtCell_67 rfl (lv_at hl 3 rfl) ?_
            refine lv_iconst (v := 1) hx hb dX3_lookAtCell_68 (by decide) ?_
            refine lv_lload hx hb dX3_lookAtCell_69 (lv_at hl 2 rfl) ?_
            obtain ⟨u3, hu3⟩ : ∃ z, f_X3_tell 1 (f_X3_openOf p2 b_l b_b) = z := ⟨_, rfl⟩
            have hr := (bd_eq hu3).symm.trans hr
            refine go_v (ru_V (n := 2) ⟨hx, hb, hml, hown, hts⟩ hk hP (c_X3_tell l D cI cL cZ ad c_sr t_n t_r t_w s_w s_h s_c s_p s_s p_nx p_sz r_k r_r r_p l_z q_z t_t b_l b_b b_n r_t l_l l_b l_n q_l q_b q_n t_le s_cs s_ps s_ha s_en pk ik s_ro s_me s_be s_se s_co pl pb pn il ib im l_a q_a hAd 1 (f_X3_openOf p2 b_l b_b) _ hu3) (cwV 2 hts (gV q3_9 q3_11 qs1_14 q1_8 q3_12) rfl rfl rfl hd_X3_tell ⟨Nat.le_of_ble_eq_true rfl, Nat.le_of_ble_eq_true rfl⟩) (va_recv hk.1 hP (ci := 3) (q0 := 25) rfl rfl) rfl hl.1 rfl (Nat.le_of_ble_eq_true rfl) dX3_lookAtCell_71 ⟨Nat.zero_le _, Nat.zero_le _⟩) hS (fun _ h => h) (fun H locs hP hS => ?_)
            have hP : va_P D vwCl (cw ad cI cL cZ c_sr t_n t_r t_w s_w s_h s_c s_p s_s p_nx p_sz u3.1 r_r r_p l_z q_z t_t b_l b_b b_n u3.2 l_l l_b l_n q_l q_b q_n t_le s_cs s_ps s_ha s_en pk ik s_ro s_me s_be s_se s_co pl pb pn il ib im l_a q_a) H := hP
            refine lv_goto (tgt := 98) hx hb dX3_lookAtCell_74 (by decide) ?_
            subst hr
            exact ret_v hx hb hrt hlocks hP hS dX3_lookAtCell_98
      · have hr := (if_neg c45).symm.trans hr
        refine lv_aload_n hx hb dX3_lookAtCell_48 rfl (lv_at hl 3 rfl) ?_
        refine lv_iconst (v := 3) hx hb dX3_lookAtCell_49 (by decide) ?_
        refine va_put (D := D) (ci := 3) (v := .int 3) (ty := .int) (C := RX3) (T := TX3) (N := 6) hx hb hts u_X3 tyX3 tyX3_ok nmX3 hown hk.1 hP (cw_D hAd) hS 25 rfl rfl 2 (by decide) (hts _ q1_181) (fun _ h9 => h9) rfl (tyX3_ok 2 (by decide)) rfl rfl (Nat.le_of_ble_eq_true rfl) dX3_lookAtCell_50 (fun H locs hP _ hS => ?_)
        have hP : va_P D vwCl (cw ad cI cL cZ c_sr t_n t_r t_w s_w s_h s_c s_p s_s p_nx p_sz 3 r_r r_p l_z q_z t_t b_l b_b b_n r_t l_l l_b l_n q_l q_b q_n t_le s_cs s_ps s_ha s_en pk ik s_ro s_me s_be s_se s_co pl pb pn il ib im l_a q_a) H := hP
        refine lv_goto (tgt := 98) hx hb dX3_lookAtCell_53 (by decide) ?_
        subst hr
        exact ret_v hx hb hrt hlocks hP hS dX3_lookAtCell_98
  · have hr := (if_neg c1).symm.trans hr
    subst hr
    exact ret_v hx hb hrt hlocks hP hS dX3_lookAtCell_4
theorem hd_X3_lookAtPoint : yX3_lookAtPoint.cls = RX3 ∧ yX3_lookAtPoint.cls ≠ "java/lang/invoke/MethodHandle" ∧ yX3_lookAtPoint.cls ≠ "java/lang/invoke/VarHandle" ∧ (parseMethodDescriptor yX3_lookAtPoint.desc).map (fun d => d.parameters.length) = some 1 := by decide +kernel
def f_X3_lookAtPoint (p1 : Int64) (r_k : Int32) (b_l : Int64) (b_b : Int64) (r_t : Int64) : Int32 × Int64 := (if 2 < (f_J13_bitCount_95d88 (p1 &&& b_l)) then (3, r_t) else (if (f_J13_bitCount_95d88 (p1 &&& b_l)) = 1 then (if (f_J13_bitCount_95d88 (f_X3_openOf p1 b_l b_b)) = 0 then (3, r_t) else (if (f_J13_bitCount_95d88 (p1 &&& b_l)) = 2 then (if 0 < (f_J13_bitCount_95d88 (f_X3_openOf p1 b_l b_b)) then (bd (f_X3_tell 1 (f_X3_openOf p1 b_l b_b)) (fun u11 => (u11.1, u11.2))) else (if (f_J13_bitCount_95d88 (p1 &&& b_l)) = 0 then (if (f_J13_bitCount_95d88 (f_X3_openOf p1 b_l b_b)) = 1 then (bd (f_X3_tell 1 (f_X3_openOf p1 b_l b_b)) (fun u14 => (u14.1, u14.2))) else (if (f_J13_bitCount_95d88 (p1 &&& b_l)) = 1 then (if (f_J13_bitCount_95d88 (f_X3_openOf p1 b_l b_b)) = 1 then (bd (f_X3_tell 2 (f_X3_openOf p1 b_l b_b)) (fun u13 => (u13.1, u13.2))) else (r_k, r_t)) else (r_k, r_t))) else (if (f_J13_bitCount_95d88 (p1 &&& b_l)) = 1 then (if (f_J13_bitCount_95d88 (f_X3_openOf p1 b_l b_b)) = 1 then (bd (f_X3_tell 2 (f_X3_openOf p1 b_l b_b)) (fun u12 => (u12.1, u12.2))) else (r_k, r_t)) else (r_k, r_t)))) else (if (f_J13_bitCount_95d88 (p1 &&& b_l)) = 0 then (if (f_J13_bitCount_95d88 (f_X3_openOf p1 b_l b_b)) = 1 then (bd (f_X3_tell 1 (f_X3_openOf p1 b_l b_b)) (fun u10 => (u10.1, u10.2))) else (if (f_J13_bitCount_95d88 (p1 &&& b_l)) = 1 then (if (f_J13_bitCount_95d88 (f_X3_openOf p1 b_l b_b)) = 1 then (bd (f_X3_tell 2 (f_X3_openOf p1 b_l b_b)) (fun u9 => (u9.1, u9.2))) else (r_k, r_t)) else (r_k, r_t))) else (if (f_J13_bitCount_95d88 (p1 &&& b_l)) = 1 then (if (f_J13_bitCount_95d88 (f_X3_openOf p1 b_l b_b)) = 1 then (bd (f_X3_tell 2 (f_X3_openOf p1 b_l b_b)) (fun u8 => (u8.1, u8.2))) else (r_k, r_t)) else (r_k, r_t))))) else (if (f_J13_bitCount_95d88 (p1 &&& b_l)) = 2 then (if 0 < (f_J13_bitCount_95d88 (f_X3_openOf p1 b_l b_b)) then (bd (f_X3_tell 1 (f_X3_openOf p1 b_l b_b)) (fun u4 => (u4.1, u4.2))) else (if (f_J13_bitCount_95d88 (p1 &&& b_l)) = 0 then (if (f_J13_bitCount_95d88 (f_X3_openOf p1 b_l b_b)) = 1 then (bd (f_X3_tell 1 (f_X3_openOf p1 b_l b_b)) (fun u7 => (u7.1, u7.2))) else (if (f_J13_bitCount_95d88 (p1 &&& b_l)) = 1 then (if (f_J13_bitCount_95d88 (f_X3_openOf p1 b_l b_b)) = 1 then (bd (f_X3_tell 2 (f_X3_openOf p1 b_l b_b)) (fun u6 => (u6.1, u6.2))) else (r_k, r_t)) else (r_k, r_t))) else (if (f_J13_bitCount_95d88 (p1 &&& b_l)) = 1 then (if (f_J13_bitCount_95d88 (f_X3_openOf p1 b_l b_b)) = 1 then (bd (f_X3_tell 2 (f_X3_openOf p1 b_l b_b)) (fun u5 => (u5.1, u5.2))) else (r_k, r_t)) else (r_k, r_t)))) else (if (f_J13_bitCount_95d88 (p1 &&& b_l)) = 0 then (if (f_J13_bitCount_95d88 (f_X3_openOf p1 b_l b_b)) = 1 then (bd (f_X3_tell 1 (f_X3_openOf p1 b_l b_b)) (fun u3 => (u3.1, u3.2))) else (if (f_J13_bitCount_95d88 (p1 &&& b_l)) = 1 then (if (f_J13_bitCount_95d88 (f_X3_openOf p1 b_l b_b)) = 1 then (bd (f_X3_tell 2 (f_X3_openOf p1 b_l b_b)) (fun u2 => (u2.1, u2.2))) else (r_k, r_t)) else (r_k, r_t))) else (if (f_J13_bitCount_95d88 (p1 &&& b_l)) = 1 then (if (f_J13_bitCount_95d88 (f_X3_openOf p1 b_l b_b)) = 1 then (bd (f_X3_tell 2 (f_X3_openOf p1 b_l b_b)) (fun u1 => (u1.1, u1.2))) else (r_k, r_t)) else (r_k, r_t))))))
set_option maxHeartbeats 4000000 in
set_option maxRecDepth 100000 in
theorem c_X3_lookAtPoint (l : Launch) (D : va_G) (cI cL cZ : ClassId) (ad : Nat → Nat) (c_sr t_n t_r t_w s_w s_h s_c s_p s_s p_nx p_sz r_k r_r r_p l_z q_z : Int32) (t_t b_l b_b b_n r_t l_l l_b l_n q_l q_b q_n : Int64) (t_le s_cs s_ps s_ha s_en pk ik : Nat → Int32) (s_ro s_me s_be s_se s_co pl pb pn il ib im l_a q_a : Nat → Int64) (hAd : cInj ad) (p1 : Int64) (r : Int32 × Int64) (hr : f_X3_lookAtPoint p1 r_k b_l b_b r_t = r) : MV l yX3_lookAtPoint (Cond.code yX3_lookAtPoint cX3_lookAtPoint 7 none :: W0) 1 23 D cI cL cZ (cAd ad) [.ref (ad 25), .long p1] (cw ad cI cL cZ c_sr t_n t_r t_w s_w s_h s_c s_p s_s p_nx p_sz r_k r_r r_p l_z q_z t_t b_l b_b b_n r_t l_l l_b l_n q_l q_b q_n t_le s_cs s_ps s_ha s_en pk ik s_ro s_me s_be s_se s_co pl pb pn il ib im l_a q_a) (cw ad cI cL cZ c_sr t_n t_r t_w s_w s_h s_c s_p s_s p_nx p_sz r.1 r_r r_p l_z q_z t_t b_l b_b b_n r.2 l_l l_b l_n q_l q_b q_n t_le s_cs s_ps s_ha s_en pk ik s_ro s_me s_be s_se s_co pl pb pn il ib im l_a q_a) := by
  refine mk_start (cc := cX3_lookAtPoint) (maxL := 7) (ret := none) (by decide) rfl (Nat.le_of_ble_eq_true rfl) ?_
  intro p e s m below meth c ls C hP hS hl
  obtain ⟨hx, hb, hml, hrt, hlocks, hown, hts, hk⟩ := C
  have hown : s.vm.findClass RX3 = some m.cls := hown
  have hl : lv_has ls 7 [(0, .ref (ad 25)), (1, .long p1)] := hl
  rw [f_X3_lookAtPoint] at hr
  refine lv_aload_n hx hb dX3_lookAtPoint_0 rfl (lv_at hl 0 rfl) ?_
  refine lv_lload_n hx hb dX3_lookAtPoint_1 rfl (lv_at hl 1 rfl) ?_
  refine go_l (ru_V (n := 1) ⟨hx, hb, hml, hown, hts⟩ hk hP (c_X3_openOf l D cI cL cZ ad c_sr t_n t_r t_w s_w s_h s_c s_p s_s p_nx p_sz r_k r_r r_p l_z q_z t_t b_l b_b b_n r_t l_l l_b l_n q_l q_b q_n t_le s_cs s_ps s_ha s_en pk ik s_ro s_me s_be s_se s_co pl pb pn il ib im l_a q_a hAd p1 _ rfl) (cwV 1 hts (gV q2_238 q3_0 qs1_13 q1_8 q3_1) rfl rfl rfl hd_X3_openOf ⟨Nat.le_of_ble_eq_true rfl, Nat.le_of_ble_eq_true rfl⟩) (va_recv hk.1 hP (ci := 3) (q0 := 25) rfl rfl) rfl hl.1 rfl (Nat.le_of_ble_eq_true rfl) dX3_lookAtPoint_2 ⟨Nat.zero_le _, Nat.zero_le _⟩) hS (fun _ h => h) (fun H locs hP hS => ?_)
  have hP : va_P D vwCl (cw ad cI cL cZ c_sr t_n t_r t_w s_w s_h s_c s_p s_s p_nx p_sz r_k r_r r_p l_z q_z t_t b_l b_b b_n r_t l_l l_b l_n q_l q_b q_n t_le s_cs s_ps s_ha s_en pk ik s_ro s_me s_be s_se s_co pl pb pn il ib im l_a q_a) H := hP
  refine lv_lstore_n (lv' := [(3, .long (f_X3_openOf p1 b_l b_b)), (0, .ref (ad 25)), (1, .long p1)]) hx hb dX3_lookAtPoint_5 rfl hl (by decide) rfl (fun ls hl => ?_)
  refine lv_lload_n hx hb dX3_lookAtPoint_6 rfl (lv_at hl 2 rfl) ?_
  refine lv_aload_n hx hb dX3_lookAtPoint_7 rfl (lv_at hl 1 rfl) ?_
  refine va_get (D := D) (ci := 3) (v := .ref (ad 13)) (C := RX3) (T := TX3) (N := 6) hx hb hts u_X3 hown hk.1 hP 25 rfl rfl 1 (by decide) (hts _ q1_180) (fun _ h9 => h9) rfl dX3_lookAtPoint_8 ?_
  refine va_get (D := D) (ci := 0) (v := .long b_l) (C := RX0) (T := TX0) (N := 3) hx hb hts u_X0 hown hk.1 hP 13 rfl rfl 0 (by decide) (hts _ q1_116) (fun _ h9 => h9) rfl dX3_lookAtPoint_11 ?_
  refine lv_land hx hb dX3_lookAtPoint_14 ?_
  refine go_i (ru_S (n := 1) ⟨hx, hb, hml, hown, hts⟩ hk hP (c_J13_bitCount_95d88 l D cI cL cZ (cAd ad) (cw ad cI cL cZ c_sr t_n t_r t_w s_w s_h s_c s_p s_s p_nx p_sz r_k r_r r_p l_z q_z t_t b_l b_b b_n r_t l_l l_b l_n q_l q_b q_n t_le s_cs s_ps s_ha s_en pk ik s_ro s_me s_be s_se s_co pl pb pn il ib im l_a q_a) (p1 &&& b_l) _ rfl) (va_cwS 1 hts (gS q3_3 q3_4 q1_13 q3_5) rfl rfl rfl hd_J13_bitCount_95d88 ⟨Nat.le_of_ble_eq_true rfl, Nat.le_of_ble_eq_true rfl⟩) rfl hl.1 rfl (Nat.le_of_ble_eq_true rfl) dX3_lookAtPoint_15 ⟨Nat.zero_le _, Nat.zero_le _⟩) hS (fun _ h => h) (fun H locs hP hS => ?_)
  have hP : va_P D vwCl (cw ad cI cL cZ c_sr t_n t_r t_w s_w s_h s_c s_p s_s p_nx p_sz r_k r_r r_p l_z q_z t_t b_l b_b b_n r_t l_l l_b l_n q_l q_b q_n t_le s_cs s_ps s_ha s_en pk ik s_ro s_me s_be s_se s_co pl pb pn il ib im l_a q_a) H := hP
  refine lv_istore (lv' := [(5, .int (f_J13_bitCount_95d88 (p1 &&& b_l))), (3, .long (f_X3_openOf p1 b_l b_b)), (0, .ref (ad 25)), (1, .long p1)]) hx hb dX3_lookAtPoint_18 hl (by decide) rfl (fun ls hl => ?_)
  refine lv_lload_n hx hb dX3_lookAtPoint_20 rfl (lv_at hl 1 rfl) ?_
  refine go_i (ru_S (n := 1) ⟨hx, hb, hml, hown, hts⟩ hk hP (c_J13_bitCount_95d88 l D cI cL cZ (cAd ad) (cw ad cI cL cZ c_sr t_n t_r t_w s_w s_h s_c s_p s_s p_nx p_sz r_k r_r r_p l_z q_z t_t b_l b_b b_n r_t l_l l_b l_n q_l q_b q_n t_le s_cs s_ps s_ha s_en pk ik s_ro s_me s_be s_se s_co pl pb pn il ib im l_a q_a) (f_X3_openOf p1 b_l b_b) _ rfl) (va_cwS 1 hts (gS q3_3 q3_4 q1_13 q3_5) rfl rfl rfl hd_J13_bitCount_95d88 ⟨Nat.le_of_ble_eq_true rfl, Nat.le_of_ble_eq_true rfl⟩) rfl hl.1 rfl (Nat.le_of_ble_eq_true rfl) dX3_lookAtPoint_21 ⟨Nat.zero_le _, Nat.zero_le _⟩) hS (fun _ h => h) (fun H locs hP hS => ?_)
  have hP : va_P D vwCl (cw ad cI cL cZ c_sr t_n t_r t_w s_w s_h s_c s_p s_s p_nx p_sz r_k r_r r_p l_z q_z t_t b_l b_b b_n r_t l_l l_b l_n q_l q_b q_n t_le s_cs s_ps s_ha s_en pk ik s_ro s_me s_be s_se s_co pl pb pn il ib im l_a q_a) H := hP
  refine lv_istore (lv' := [(6, .int (f_J13_bitCount_95d88 (f_X3_openOf p1 b_l b_b))), (5, .int (f_J13_bitCount_95d88 (p1 &&& b_l))), (3, .long (f_X3_openOf p1 b_l b_b)), (0, .ref (ad 25)), (1, .long p1)]) hx hb dX3_lookAtPoint_24 hl (by decide) rfl (fun ls hl => ?_)
  refine lv_iload hx hb dX3_lookAtPoint_26 (lv_at hl 1 rfl) ?_
  refine lv_iconst (v := 2) hx hb dX3_lookAtPoint_28 (by decide) ?_
  refine lv_icmp_gt (tgt := 43) hx hb dX3_lookAtPoint_29 (by decide) (fun c29 => ?_) (fun c29 => ?_)
  · have hr := (if_pos c29).symm.trans hr
    refine lv_aload_n hx hb dX3_lookAtPoint_43 rfl (lv_at hl 3 rfl) ?_
    refine lv_iconst (v := 3) hx hb dX3_lookAtPoint_44 (by decide) ?_
    refine va_put (D := D) (ci := 3) (v := .int 3) (ty := .int) (C := RX3) (T := TX3) (N := 6) hx hb hts u_X3 tyX3 tyX3_ok nmX3 hown hk.1 hP (cw_D hAd) hS 25 rfl rfl 2 (by decide) (hts _ q1_181) (fun _ h9 => h9) rfl (tyX3_ok 2 (by decide)) rfl rfl (Nat.le_of_ble_eq_true rfl) dX3_lookAtPoint_45 (fun H locs hP _ hS => ?_)
    have hP : va_P D vwCl (cw ad cI cL cZ c_sr t_n t_r t_w s_w s_h s_c s_p s_s p_nx p_sz 3 r_r r_p l_z q_z t_t b_l b_b b_n r_t l_l l_b l_n q_l q_b q_n t_le s_cs s_ps s_ha s_en pk ik s_ro s_me s_be s_se s_co pl pb pn il ib im l_a q_a) H := hP
    refine lv_goto (tgt := 100) hx hb dX3_lookAtPoint_48 (by decide) ?_
    subst hr
    exact ret_v hx hb hrt hlocks hP hS dX3_lookAtPoint_100
  · have hr := (if_neg c29).symm.trans hr
    refine lv_iload hx hb dX3_lookAtPoint_32 (lv_at hl 1 rfl) ?_
    refine lv_iconst (v := 1) hx hb dX3_lookAtPoint_34 (by decide) ?_
    refine lv_icmp_ne (tgt := 51) hx hb dX3_lookAtPoint_35 (by decide) (fun c35 => ?_) (fun c35 => ?_)
    · have hr := (if_neg c35).symm.trans hr
      refine lv_iload hx hb dX3_lookAtPoint_51 (lv_at hl 1 rfl) ?_
      refine lv_iconst (v := 2) hx hb dX3_lookAtPoint_53 (by decide) ?_
      refine lv_icmp_ne (tgt := 62) hx hb dX3_lookAtPoint_54 (by decide) (fun c54 => ?_) (fun c54 => ?_)
      · have hr := (if_neg c54).symm.trans hr
        refine lv_iload hx hb dX3_lookAtPoint_62 (lv_at hl 1 rfl) ?_
        refine lv_if_ne (tgt := 82) hx hb dX3_lookAtPoint_64 (by decide) (fun c64 => ?_) (fun c64 => ?_)
        · have hr := (if_neg c64).symm.trans hr
          refine lv_iload hx hb dX3_lookAtPoint_82 (lv_at hl 1 rfl) ?_
          refine lv_iconst (v := 1) hx hb dX3_lookAtPoint_84 (by decide) ?_
          refine lv_icmp_ne (tgt := 100) hx hb dX3_lookAtPoint_85 (by decide) (fun c85 => ?_) (fun c85 => ?_)
          · have hr := (if_neg c85).symm.trans hr
            subst hr
            exact ret_v hx hb hrt hlocks hP hS dX3_lookAtPoint_100
          · have hr := (if_pos c85).symm.trans hr
            refine lv_iload hx hb dX3_lookAtPoint_88 (lv_at hl 0 rfl) ?_
            refine lv_iconst (v := 1) hx hb dX3_lookAtPoint_90 (by decide) ?_
            refine lv_icmp_ne (tgt := 100) hx hb dX3_lookAtPoint_91 (by decide) (fun c91 => ?_) (fun c91 => ?_)
            · have hr := (if_neg c91).symm.trans hr
              subst hr
              exact ret_v hx hb hrt hlocks hP hS dX3_lookAtPoint_100
            · have hr := (if_pos c91).symm.trans hr
              refine lv_aload_n hx hb dX3_lookAtPoint_94 rfl (lv_at hl 3 rfl) ?_
              refine lv_iconst (v := 2) hx hb dX3_lookAtPoint_95 (by decide) ?_
              refine lv_lload_n hx hb dX3_lookAtPoint_96 rfl (lv_at hl 2 rfl) ?_
              obtain ⟨u1, hu1⟩ : ∃ z, f_X3_tell 2 (f_X3_openOf p1 b_l b_b) = z := ⟨_, rfl⟩
              have hr := (bd_eq hu1).symm.trans hr
              refine go_v (ru_V (n := 2) ⟨hx, hb, hml, hown, hts⟩ hk hP (c_X3_tell l D cI cL cZ ad c_sr t_n t_r t_w s_w s_h s_c s_p s_s p_nx p_sz r_k r_r r_p l_z q_z t_t b_l b_b b_n r_t l_l l_b l_n q_l q_b q_n t_le s_cs s_ps s_ha s_en pk ik s_ro s_me s_be s_se s_co pl pb pn il ib im l_a q_a hAd 2 (f_X3_openOf p1 b_l b_b) _ hu1) (cwV 2 hts (gV q3_9 q3_11 qs1_14 q1_8 q3_12) rfl rfl rfl hd_X3_tell ⟨Nat.le_of_ble_eq_true rfl, Nat.le_of_ble_eq_true rfl⟩) (va_recv hk.1 hP (ci := 3) (q0 := 25) rfl rfl) rfl hl.1 rfl (Nat.le_of_ble_eq_true rfl) dX3_lookAtPoint_97 ⟨Nat.zero_le _, Nat.zero_le _⟩) hS (fun _ h => h) (fun H locs hP hS => ?_)
              have hP : va_P D vwCl (cw ad cI cL cZ c_sr t_n t_r t_w s_w s_h s_c s_p s_s p_nx p_sz u1.1 r_r r_p l_z q_z t_t b_l b_b b_n u1.2 l_l l_b l_n q_l q_b q_n t_le s_cs s_ps s_ha s_en pk ik s_ro s_me s_be s_se s_co pl pb pn il ib im l_a q_a) H := hP
              subst hr
              exact ret_v hx hb hrt hlocks hP hS dX3_lookAtPoint_100
        · have hr := (if_pos c64).symm.trans hr
          refine lv_iload hx hb dX3_lookAtPoint_67 (lv_at hl 0 rfl) ?_
          refine lv_iconst (v := 1) hx hb dX3_lookAtPoint_69 (by decide) ?_
          refine lv_icmp_ne (tgt := 82) hx hb dX3_lookAtPoint_70 (by decide) (fun c70 => ?_) (fun c70 => ?_)
          · have hr := (if_neg c70).symm.trans hr
            refine lv_iload hx hb dX3_lookAtPoint_82 (lv_at hl 1 rfl) ?_
            refine lv_iconst (v := 1) hx hb dX3_lookAtPoint_84 (by decide) ?_
            refine lv_icmp_ne (tgt := 100) hx hb dX3_lookAtPoint_85 (by decide) (fun c85 => ?_) (fun c85 => ?_)
            · have hr := (if_neg c85).symm.trans hr
              subst hr
              exact ret_v hx hb hrt hlocks hP hS dX3_lookAtPoint_100
            · have hr := (if_pos c85).symm.trans hr
              refine lv_iload hx hb dX3_lookAtPoint_88 (lv_at hl 0 rfl) ?_
              refine lv_iconst (v := 1) hx hb dX3_lookAtPoint_90 (by decide) ?_
              refine lv_icmp_ne (tgt := 100) hx hb dX3_lookAtPoint_91 (by decide) (fun c91 => ?_) (fun c91 => ?_)
              · have hr := (if_neg c91).symm.trans hr
                subst hr
                exact ret_v hx hb hrt hlocks hP hS dX3_lookAtPoint_100
              · have hr := (if_pos c91).symm.trans hr
                refine lv_aload_n hx hb dX3_lookAtPoint_94 rfl (lv_at hl 3 rfl) ?_
                refine lv_iconst (v := 2) hx hb dX3_lookAtPoint_95 (by decide) ?_
                refine lv_lload_n hx hb dX3_lookAtPoint_96 rfl (lv_at hl 2 rfl) ?_
                obtain ⟨u2, hu2⟩ : ∃ z, f_X3_tell 2 (f_X3_openOf p1 b_l b_b) = z := ⟨_, rfl⟩
                have hr := (bd_eq hu2).symm.trans hr
                refine go_v (ru_V (n := 2) ⟨hx, hb, hml, hown, hts⟩ hk hP (c_X3_tell l D cI cL cZ ad c_sr t_n t_r t_w s_w s_h s_c s_p s_s p_nx p_sz r_k r_r r_p l_z q_z t_t b_l b_b b_n r_t l_l l_b l_n q_l q_b q_n t_le s_cs s_ps s_ha s_en pk ik s_ro s_me s_be s_se s_co pl pb pn il ib im l_a q_a hAd 2 (f_X3_openOf p1 b_l b_b) _ hu2) (cwV 2 hts (gV q3_9 q3_11 qs1_14 q1_8 q3_12) rfl rfl rfl hd_X3_tell ⟨Nat.le_of_ble_eq_true rfl, Nat.le_of_ble_eq_true rfl⟩) (va_recv hk.1 hP (ci := 3) (q0 := 25) rfl rfl) rfl hl.1 rfl (Nat.le_of_ble_eq_true rfl) dX3_lookAtPoint_97 ⟨Nat.zero_le _, Nat.zero_le _⟩) hS (fun _ h => h) (fun H locs hP hS => ?_)
                have hP : va_P D vwCl (cw ad cI cL cZ c_sr t_n t_r t_w s_w s_h s_c s_p s_s p_nx p_sz u2.1 r_r r_p l_z q_z t_t b_l b_b b_n u2.2 l_l l_b l_n q_l q_b q_n t_le s_cs s_ps s_ha s_en pk ik s_ro s_me s_be s_se s_co pl pb pn il ib im l_a q_a) H := hP
                subst hr
                exact ret_v hx hb hrt hlocks hP hS dX3_lookAtPoint_100
          · have hr := (if_pos c70).symm.trans hr
            refine lv_aload_n hx hb dX3_lookAtPoint_73 rfl (lv_at hl 3 rfl) ?_
            refine lv_iconst (v := 1) hx hb dX3_lookAtPoint_74 (by decide) ?_
            refine lv_lload_n hx hb dX3_lookAtPoint_75 rfl (lv_at hl 2 rfl) ?_
            obtain ⟨u3, hu3⟩ : ∃ z, f_X3_tell 1 (f_X3_openOf p1 b_l b_b) = z := ⟨_, rfl⟩
            have hr := (bd_eq hu3).symm.trans hr
            refine go_v (ru_V (n := 2) ⟨hx, hb, hml, hown, hts⟩ hk hP (c_X3_tell l D cI cL cZ ad c_sr t_n t_r t_w s_w s_h s_c s_p s_s p_nx p_sz r_k r_r r_p l_z q_z t_t b_l b_b b_n r_t l_l l_b l_n q_l q_b q_n t_le s_cs s_ps s_ha s_en pk ik s_ro s_me s_be s_se s_co pl pb pn il ib im l_a q_a hAd 1 (f_X3_openOf p1 b_l b_b) _ hu3) (cwV 2 hts (gV q3_9 q3_11 qs1_14 q1_8 q3_12) rfl rfl rfl hd_X3_tell ⟨Nat.le_of_ble_eq_true rfl, Nat.le_of_ble_eq_true rfl⟩) (va_recv hk.1 hP (ci := 3) (q0 := 25) rfl rfl) rfl hl.1 rfl (Nat.le_of_ble_eq_true rfl) dX3_lookAtPoint_76 ⟨Nat.zero_le _, Nat.zero_le _⟩) hS (fun _ h => h) (fun H locs hP hS => ?_)
            have hP : va_P D vwCl (cw ad cI cL cZ c_sr t_n t_r t_w s_w s_h s_c s_p s_s p_nx p_sz u3.1 r_r r_p l_z q_z t_t b_l b_b b_n u3.2 l_l l_b l_n q_l q_b q_n t_le s_cs s_ps s_ha s_en pk ik s_ro s_me s_be s_se s_co pl pb pn il ib im l_a q_a) H := hP
            refine lv_goto (tgt := 100) hx hb dX3_lookAtPoint_79 (by decide) ?_
            subst hr
            exact ret_v hx hb hrt hlocks hP hS dX3_lookAtPoint_100
      · have hr := (if_pos c54).symm.trans hr
        refine lv_iload hx hb dX3_lookAtPoint_57 (lv_at hl 0 rfl) ?_
        refine lv_if_gt (tgt := 73) hx hb dX3_lookAtPoint_59 (by decide) (fun c59 => ?_) (fun c59 => ?_)
        · have hr := (if_pos c59).symm.trans hr
          refine lv_aload_n hx hb dX3_lookAtPoint_73 rfl (lv_at hl 3 rfl) ?_
          refine lv_iconst (v := 1) hx hb dX3_lookAtPoint_74 (by decide) ?_
          refine lv_lload_n hx hb dX3_lookAtPoint_75 rfl (lv_at hl 2 rfl) ?_
          obtain ⟨u4, hu4⟩ : ∃ z, f_X3_tell 1 (f_X3_openOf p1 b_l b_b) = z := ⟨_, rfl⟩
          have hr := (bd_eq hu4).symm.trans hr
          refine go_v (ru_V (n := 2) ⟨hx, hb, hml, hown, hts⟩ hk hP (c_X3_tell l D cI cL cZ ad c_sr t_n t_r t_w s_w s_h s_c s_p s_s p_nx p_sz r_k r_r r_p l_z q_z t_t b_l b_b b_n r_t l_l l_b l_n q_l q_b q_n t_le s_cs s_ps s_ha s_en pk ik s_ro s_me s_be s_se s_co pl pb pn il ib im l_a q_a hAd 1 (f_X3_openOf p1 b_l b_b) _ hu4) (cwV 2 hts (gV q3_9 q3_11 qs1_14 q1_8 q3_12) rfl rfl rfl hd_X3_tell ⟨Nat.le_of_ble_eq_true rfl, Nat.le_of_ble_eq_true rfl⟩) (va_recv hk.1 hP (ci := 3) (q0 := 25) rfl rfl) rfl hl.1 rfl (Nat.le_of_ble_eq_true rfl) dX3_lookAtPoint_76 ⟨Nat.zero_le _, Nat.zero_le _⟩) hS (fun _ h => h) (fun H locs hP hS => ?_)
          have hP : va_P D vwCl (cw ad cI cL cZ c_sr t_n t_r t_w s_w s_h s_c s_p s_s p_nx p_sz u4.1 r_r r_p l_z q_z t_t b_l b_b b_n u4.2 l_l l_b l_n q_l q_b q_n t_le s_cs s_ps s_ha s_en pk ik s_ro s_me s_be s_se s_co pl pb pn il ib im l_a q_a) H := hP
          refine lv_goto (tgt := 100) hx hb dX3_lookAtPoint_79 (by decide) ?_
          subst hr
          exact ret_v hx hb hrt hlocks hP hS dX3_lookAtPoint_100
        · have hr := (if_neg c59).symm.trans hr
          refine lv_iload hx hb dX3_lookAtPoint_62 (lv_at hl 1 rfl) ?_
          refine lv_if_ne (tgt := 82) hx hb dX3_lookAtPoint_64 (by decide) (fun c64 => ?_) (fun c64 => ?_)
          · have hr := (if_neg c64).symm.trans hr
            refine lv_iload hx hb dX3_lookAtPoint_82 (lv_at hl 1 rfl) ?_
            refine lv_iconst (v := 1) hx hb dX3_lookAtPoint_84 (by decide) ?_
            refine lv_icmp_ne (tgt := 100) hx hb dX3_lookAtPoint_85 (by decide) (fun c85 => ?_) (fun c85 => ?_)
            · have hr := (if_neg c85).symm.trans hr
              subst hr
              exact ret_v hx hb hrt hlocks hP hS dX3_lookAtPoint_100
            · have hr := (if_pos c85).symm.trans hr
              refine lv_iload hx hb dX3_lookAtPoint_88 (lv_at hl 0 rfl) ?_
              refine lv_iconst (v := 1) hx hb dX3_lookAtPoint_90 (by decide) ?_
              refine lv_icmp_ne (tgt := 100) hx hb dX3_lookAtPoint_91 (by decide) (fun c91 => ?_) (fun c91 => ?_)
              · have hr := (if_neg c91).symm.trans hr
                subst hr
                exact ret_v hx hb hrt hlocks hP hS dX3_lookAtPoint_100
              · have hr := (if_pos c91).symm.trans hr
                refine lv_aload_n hx hb dX3_lookAtPoint_94 rfl (lv_at hl 3 rfl) ?_
                refine lv_iconst (v := 2) hx hb dX3_lookAtPoint_95 (by decide) ?_
                refine lv_lload_n hx hb dX3_lookAtPoint_96 rfl (lv_at hl 2 rfl) ?_
                obtain ⟨u5, hu5⟩ : ∃ z, f_X3_tell 2 (f_X3_openOf p1 b_l b_b) = z := ⟨_, rfl⟩
                have hr := (bd_eq hu5).symm.trans hr
                refine go_v (ru_V (n := 2) ⟨hx, hb, hml, hown, hts⟩ hk hP (c_X3_tell l D cI cL cZ ad c_sr t_n t_r t_w s_w s_h s_c s_p s_s p_nx p_sz r_k r_r r_p l_z q_z t_t b_l b_b b_n r_t l_l l_b l_n q_l q_b q_n t_le s_cs s_ps s_ha s_en pk ik s_ro s_me s_be s_se s_co pl pb pn il ib im l_a q_a hAd 2 (f_X3_openOf p1 b_l b_b) _ hu5) (cwV 2 hts (gV q3_9 q3_11 qs1_14 q1_8 q3_12) rfl rfl rfl hd_X3_tell ⟨Nat.le_of_ble_eq_true rfl, Nat.le_of_ble_eq_true rfl⟩) (va_recv hk.1 hP (ci := 3) (q0 := 25) rfl rfl) rfl hl.1 rfl (Nat.le_of_ble_eq_true rfl) dX3_lookAtPoint_97 ⟨Nat.zero_le _, Nat.zero_le _⟩) hS (fun _ h => h) (fun H locs hP hS => ?_)
                have hP : va_P D vwCl (cw ad cI cL cZ c_sr t_n t_r t_w s_w s_h s_c s_p s_s p_nx p_sz u5.1 r_r r_p l_z q_z t_t b_l b_b b_n u5.2 l_l l_b l_n q_l q_b q_n t_le s_cs s_ps s_ha s_en pk ik s_ro s_me s_be s_se s_co pl pb pn il ib im l_a q_a) H := hP
                subst hr
                exact ret_v hx hb hrt hlocks hP hS dX3_lookAtPoint_100
          · have hr := (if_pos c64).symm.trans hr
            refine lv_iload hx hb dX3_lookAtPoint_67 (lv_at hl 0 rfl) ?_
            refine lv_iconst (v := 1) hx hb dX3_lookAtPoint_69 (by decide) ?_
            refine lv_icmp_ne (tgt := 82) hx hb dX3_lookAtPoint_70 (by decide) (fun c70 => ?_) (fun c70 => ?_)
            · have hr := (if_neg c70).symm.trans hr
              refine lv_iload hx hb dX3_lookAtPoint_82 (lv_at hl 1 rfl) ?_
              refine lv_iconst (v := 1) hx hb dX3_lookAtPoint_84 (by decide) ?_
              refine lv_icmp_ne (tgt := 100) hx hb dX3_lookAtPoint_85 (by decide) (fun c85 => ?_) (fun c85 => ?_)
              · have hr := (if_neg c85).symm.trans hr
                subst hr
                exact ret_v hx hb hrt hlocks hP hS dX3_lookAtPoint_100
              · have hr := (if_pos c85).symm.trans hr
                refine lv_iload hx hb dX3_lookAtPoint_88 (lv_at hl 0 rfl) ?_
                refine lv_iconst (v := 1) hx hb dX3_lookAtPoint_90 (by decide) ?_
                refine lv_icmp_ne (tgt := 100) hx hb dX3_lookAtPoint_91 (by decide) (fun c91 => ?_) (fun c91 => ?_)
                · have hr := (if_neg c91).symm.trans hr
                  subst hr
                  exact ret_v hx hb hrt hlocks hP hS dX3_lookAtPoint_100
                · have hr := (if_pos c91).symm.trans hr
                  refine lv_aload_n hx hb dX3_lookAtPoint_94 rfl (lv_at hl 3 rfl) ?_
                  refine lv_iconst (v := 2) hx hb dX3_lookAtPoint_95 (by decide) ?_
                  refine lv_lload_n hx hb dX3_lookAtPoint_96 rfl (lv_at hl 2 rfl) ?_
                  obtain ⟨u6, hu6⟩ : ∃ z, f_X3_tell 2 (f_X3_openOf p1 b_l b_b) = z := ⟨_, rfl⟩
                  have hr := (bd_eq hu6).symm.trans hr
                  refine go_v (ru_V (n := 2) ⟨hx, hb, hml, hown, hts⟩ hk hP (c_X3_tell l D cI cL cZ ad c_sr t_n t_r t_w s_w s_h s_c s_p s_s p_nx p_sz r_k r_r r_p l_z q_z t_t b_l b_b b_n r_t l_l l_b l_n q_l q_b q_n t_le s_cs s_ps s_ha s_en pk ik s_ro s_me s_be s_se s_co pl pb pn il ib im l_a q_a hAd 2 (f_X3_openOf p1 b_l b_b) _ hu6) (cwV 2 hts (gV q3_9 q3_11 qs1_14 q1_8 q3_12) rfl rfl rfl hd_X3_tell ⟨Nat.le_of_ble_eq_true rfl, Nat.le_of_ble_eq_true rfl⟩) (va_recv hk.1 hP (ci := 3) (q0 := 25) rfl rfl) rfl hl.1 rfl (Nat.le_of_ble_eq_true rfl) dX3_lookAtPoint_97 ⟨Nat.zero_le _, Nat.zero_le _⟩) hS (fun _ h => h) (fun H locs hP hS => ?_)
                  have hP : va_P D vwCl (cw ad cI cL cZ c_sr t_n t_r t_w s_w s_h s_c s_p s_s p_nx p_sz u6.1 r_r r_p l_z q_z t_t b_l b_b b_n u6.2 l_l l_b l_n q_l q_b q_n t_le s_cs s_ps s_ha s_en pk ik s_ro s_me s_be s_se s_co pl pb pn il ib im l_a q_a) H := hP
                  subst hr
                  exact ret_v hx hb hrt hlocks hP hS dX3_lookAtPoint_100
            · have hr := (if_pos c70).symm.trans hr
              refine lv_aload_n hx hb dX3_lookAtPoint_73 rfl (lv_at hl 3 rfl) ?_
              refine lv_iconst (v := 1) hx hb dX3_lookAtPoint_74 (by decide) ?_
              refine lv_lload_n hx hb dX3_lookAtPoint_75 rfl (lv_at hl 2 rfl) ?_
              obtain ⟨u7, hu7⟩ : ∃ z, f_X3_tell 1 (f_X3_openOf p1 b_l b_b) = z := ⟨_, rfl⟩
              have hr := (bd_eq hu7).symm.trans hr
              refine go_v (ru_V (n := 2) ⟨hx, hb, hml, hown, hts⟩ hk hP (c_X3_tell l D cI cL cZ ad c_sr t_n t_r t_w s_w s_h s_c s_p s_s p_nx p_sz r_k r_r r_p l_z q_z t_t b_l b_b b_n r_t l_l l_b l_n q_l q_b q_n t_le s_cs s_ps s_ha s_en pk ik s_ro s_me s_be s_se s_co pl pb pn il ib im l_a q_a hAd 1 (f_X3_openOf p1 b_l b_b) _ hu7) (cwV 2 hts (gV q3_9 q3_11 qs1_14 q1_8 q3_12) rfl rfl rfl hd_X3_tell ⟨Nat.le_of_ble_eq_true rfl, Nat.le_of_ble_eq_true rfl⟩) (va_recv hk.1 hP (ci := 3) (q0 := 25) rfl rfl) rfl hl.1 rfl (Nat.le_of_ble_eq_true rfl) dX3_lookAtPoint_76 ⟨Nat.zero_le _, Nat.zero_le _⟩) hS (fun _ h => h) (fun H locs hP hS => ?_)
              have hP : va_P D vwCl (cw ad cI cL cZ c_sr t_n t_r t_w s_w s_h s_c s_p s_s p_nx p_sz u7.1 r_r r_p l_z q_z t_t b_l b_b b_n u7.2 l_l l_b l_n q_l q_b q_n t_le s_cs s_ps s_ha s_en pk ik s_ro s_me s_be s_se s_co pl pb pn il ib im l_a q_a) H := hP
              refine lv_goto (tgt := 100) hx hb dX3_lookAtPoint_79 (by decide) ?_
              subst hr
              exact ret_v hx hb hrt hlocks hP hS dX3_lookAtPoint_100
    · have hr := (if_pos c35).symm.trans hr
      refine lv_iload hx hb dX3_lookAtPoint_38 (lv_at hl 0 rfl) ?_
      refine lv_if_ne (tgt := 51) hx hb dX3_lookAtPoint_40 (by decide) (fun c40 => ?_) (fun c40 => ?_)
      · have hr := (if_neg c40).symm.trans hr
        refine lv_iload hx hb dX3_lookAtPoint_51 (lv_at hl 1 rfl) ?_
        refine lv_iconst (v := 2) hx hb dX3_lookAtPoint_53 (by decide) ?_
        refine lv_icmp_ne (tgt := 62) hx hb dX3_lookAtPoint_54 (by decide) (fun c54 => ?_) (fun c54 => ?_)
        · have hr := (if_neg c54).symm.trans hr
          refine lv_iload hx hb dX3_lookAtPoint_62 (lv_at hl 1 rfl) ?_
          refine lv_if_ne (tgt := 82) hx hb dX3_lookAtPoint_64 (by decide) (fun c64 => ?_) (fun c64 => ?_)
          · have hr := (if_neg c64).symm.trans hr
            refine lv_iload hx hb dX3_lookAtPoint_82 (lv_at hl 1 rfl) ?_
            refine lv_iconst (v := 1) hx hb dX3_lookAtPoint_84 (by decide) ?_
            refine lv_icmp_ne (tgt := 100) hx hb dX3_lookAtPoint_85 (by decide) (fun c85 => ?_) (fun c85 => ?_)
            · have hr := (if_neg c85).symm.trans hr
              subst hr
              exact ret_v hx hb hrt hlocks hP hS dX3_lookAtPoint_100
            · have hr := (if_pos c85).symm.trans hr
              refine lv_iload hx hb dX3_lookAtPoint_88 (lv_at hl 0 rfl) ?_
              refine lv_iconst (v := 1) hx hb dX3_lookAtPoint_90 (by decide) ?_
              refine lv_icmp_ne (tgt := 100) hx hb dX3_lookAtPoint_91 (by decide) (fun c91 => ?_) (fun c91 => ?_)
              · have hr := (if_neg c91).symm.trans hr
                subst hr
                exact ret_v hx hb hrt hlocks hP hS dX3_lookAtPoint_100
              · have hr := (if_pos c91).symm.trans hr
                refine lv_aload_n hx hb dX3_lookAtPoint_94 rfl (lv_at hl 3 rfl) ?_
                refine lv_iconst (v := 2) hx hb dX3_lookAtPoint_95 (by decide) ?_
                refine lv_lload_n hx hb dX3_lookAtPoint_96 rfl (lv_at hl 2 rfl) ?_
                obtain ⟨u8, hu8⟩ : ∃ z, f_X3_tell 2 (f_X3_openOf p1 b_l b_b) = z := ⟨_, rfl⟩
                have hr := (bd_eq hu8).symm.trans hr
                refine go_v (ru_V (n := 2) ⟨hx, hb, hml, hown, hts⟩ hk hP (c_X3_tell l D cI cL cZ ad c_sr t_n t_r t_w s_w s_h s_c s_p s_s p_nx p_sz r_k r_r r_p l_z q_z t_t b_l b_b b_n r_t l_l l_b l_n q_l q_b q_n t_le s_cs s_ps s_ha s_en pk ik s_ro s_me s_be s_se s_co pl pb pn il ib im l_a q_a hAd 2 (f_X3_openOf p1 b_l b_b) _ hu8) (cwV 2 hts (gV q3_9 q3_11 qs1_14 q1_8 q3_12) rfl rfl rfl hd_X3_tell ⟨Nat.le_of_ble_eq_true rfl, Nat.le_of_ble_eq_true rfl⟩) (va_recv hk.1 hP (ci := 3) (q0 := 25) rfl rfl) rfl hl.1 rfl (Nat.le_of_ble_eq_true rfl) dX3_lookAtPoint_97 ⟨Nat.zero_le _, Nat.zero_le _⟩) hS (fun _ h => h) (fun H locs hP hS => ?_)
                have hP : va_P D vwCl (cw ad cI cL cZ c_sr t_n t_r t_w s_w s_h s_c s_p s_s p_nx p_sz u8.1 r_r r_p l_z q_z t_t b_l b_b b_n u8.2 l_l l_b l_n q_l q_b q_n t_le s_cs s_ps s_ha s_en pk ik s_ro s_me s_be s_se s_co pl pb pn il ib im l_a q_a) H := hP
                subst hr
                exact ret_v hx hb hrt hlocks hP hS dX3_lookAtPoint_100
          · have hr := (if_pos c64).symm.trans hr
            refine lv_iload hx hb dX3_lookAtPoint_67 (lv_at hl 0 rfl) ?_
            refine lv_iconst (v := 1) hx hb dX3_lookAtPoint_69 (by decide) ?_
            refine lv_icmp_ne (tgt := 82) hx hb dX3_lookAtPoint_70 (by decide) (fun c70 => ?_) (fun c70 => ?_)
            · have hr := (if_neg c70).symm.trans hr
              refine lv_iload hx hb dX3_lookAtPoint_82 (lv_at hl 1 rfl) ?_
              refine lv_iconst (v := 1) hx hb dX3_lookAtPoint_84 (by decide) ?_
              refine lv_icmp_ne (tgt := 100) hx hb dX3_lookAtPoint_85 (by decide) (fun c85 => ?_) (fun c85 => ?_)
              · have hr := (if_neg c85).symm.trans hr
                subst hr
                exact ret_v hx hb hrt hlocks hP hS dX3_lookAtPoint_100
              · have hr := (if_pos c85).symm.trans hr
                refine lv_iload hx hb dX3_lookAtPoint_88 (lv_at hl 0 rfl) ?_
                refine lv_iconst (v := 1) hx hb dX3_lookAtPoint_90 (by decide) ?_
                refine lv_icmp_ne (tgt := 100) hx hb dX3_lookAtPoint_91 (by decide) (fun c91 => ?_) (fun c91 => ?_)
                · have hr := (if_neg c91).symm.trans hr
                  subst hr
                  exact ret_v hx hb hrt hlocks hP hS dX3_lookAtPoint_100
                · have hr := (if_pos c91).symm.trans hr
                  refine lv_aload_n hx hb dX3_lookAtPoint_94 rfl (lv_at hl 3 rfl) ?_
                  refine lv_iconst (v := 2) hx hb dX3_lookAtPoint_95 (by decide) ?_
                  refine lv_lload_n hx hb dX3_lookAtPoint_96 rfl (lv_at hl 2 rfl) ?_
                  obtain ⟨u9, hu9⟩ : ∃ z, f_X3_tell 2 (f_X3_openOf p1 b_l b_b) = z := ⟨_, rfl⟩
                  have hr := (bd_eq hu9).symm.trans hr
                  refine go_v (ru_V (n := 2) ⟨hx, hb, hml, hown, hts⟩ hk hP (c_X3_tell l D cI cL cZ ad c_sr t_n t_r t_w s_w s_h s_c s_p s_s p_nx p_sz r_k r_r r_p l_z q_z t_t b_l b_b b_n r_t l_l l_b l_n q_l q_b q_n t_le s_cs s_ps s_ha s_en pk ik s_ro s_me s_be s_se s_co pl pb pn il ib im l_a q_a hAd 2 (f_X3_openOf p1 b_l b_b) _ hu9) (cwV 2 hts (gV q3_9 q3_11 qs1_14 q1_8 q3_12) rfl rfl rfl hd_X3_tell ⟨Nat.le_of_ble_eq_true rfl, Nat.le_of_ble_eq_true rfl⟩) (va_recv hk.1 hP (ci := 3) (q0 := 25) rfl rfl) rfl hl.1 rfl (Nat.le_of_ble_eq_true rfl) dX3_lookAtPoint_97 ⟨Nat.zero_le _, Nat.zero_le _⟩) hS (fun _ h => h) (fun H locs hP hS => ?_)
                  have hP : va_P D vwCl (cw ad cI cL cZ c_sr t_n t_r t_w s_w s_h s_c s_p s_s p_nx p_sz u9.1 r_r r_p l_z q_z t_t b_l b_b b_n u9.2 l_l l_b l_n q_l q_b q_n t_le s_cs s_ps s_ha s_en pk ik s_ro s_me s_be s_se s_co pl pb pn il ib im l_a q_a) H := hP
                  subst hr
                  exact ret_v hx hb hrt hlocks hP hS dX3_lookAtPoint_100
            · have hr := (if_pos c70).symm.trans hr
              refine lv_aload_n hx hb dX3_lookAtPoint_73 rfl (lv_at hl 3 rfl) ?_
              refine lv_iconst (v := 1) hx hb dX3_lookAtPoint_74 (by decide) ?_
              refine lv_lload_n hx hb dX3_lookAtPoint_75 rfl (lv_at hl 2 rfl) ?_
              obtain ⟨u10, hu10⟩ : ∃ z, f_X3_tell 1 (f_X3_openOf p1 b_l b_b) = z := ⟨_, rfl⟩
              have hr := (bd_eq hu10).symm.trans hr
              refine go_v (ru_V (n := 2) ⟨hx, hb, hml, hown, hts⟩ hk hP (c_X3_tell l D cI cL cZ ad c_sr t_n t_r t_w s_w s_h s_c s_p s_s p_nx p_sz r_k r_r r_p l_z q_z t_t b_l b_b b_n r_t l_l l_b l_n q_l q_b q_n t_le s_cs s_ps s_ha s_en pk ik s_ro s_me s_be s_se s_co pl pb pn il ib im l_a q_a hAd 1 (f_X3_openOf p1 b_l b_b) _ hu10) (cwV 2 hts (gV q3_9 q3_11 qs1_14 q1_8 q3_12) rfl rfl rfl hd_X3_tell ⟨Nat.le_of_ble_eq_true rfl, Nat.le_of_ble_eq_true rfl⟩) (va_recv hk.1 hP (ci := 3) (q0 := 25) rfl rfl) rfl hl.1 rfl (Nat.le_of_ble_eq_true rfl) dX3_lookAtPoint_76 ⟨Nat.zero_le _, Nat.zero_le _⟩) hS (fun _ h => h) (fun H locs hP hS => ?_)
              have hP : va_P D vwCl (cw ad cI cL cZ c_sr t_n t_r t_w s_w s_h s_c s_p s_s p_nx p_sz u10.1 r_r r_p l_z q_z t_t b_l b_b b_n u10.2 l_l l_b l_n q_l q_b q_n t_le s_cs s_ps s_ha s_en pk ik s_ro s_me s_be s_se s_co pl pb pn il ib im l_a q_a) H := hP
              refine lv_goto (tgt := 100) hx hb dX3_lookAtPoint_79 (by decide) ?_
              subst hr
              exact ret_v hx hb hrt hlocks hP hS dX3_lookAtPoint_100
        · have hr := (if_pos c54).symm.trans hr
          refine lv_iload hx hb dX3_lookAtPoint_57 (lv_at hl 0 rfl) ?_
          refine lv_if_gt (tgt := 73) hx hb dX3_lookAtPoint_59 (by decide) (fun c59 => ?_) (fun c59 => ?_)
          · have hr := (if_pos c59).symm.trans hr
            refine lv_aload_n hx hb dX3_lookAtPoint_73 rfl (lv_at hl 3 rfl) ?_
            refine lv_iconst (v := 1) hx hb dX3_lookAtPoint_74 (by decide) ?_
            refine lv_lload_n hx hb dX3_lookAtPoint_75 rfl (lv_at hl 2 rfl) ?_
            obtain ⟨u11, hu11⟩ : ∃ z, f_X3_tell 1 (f_X3_openOf p1 b_l b_b) = z := ⟨_, rfl⟩
            have hr := (bd_eq hu11).symm.trans hr
            refine go_v (ru_V (n := 2) ⟨hx, hb, hml, hown, hts⟩ hk hP (c_X3_tell l D cI cL cZ ad c_sr t_n t_r t_w s_w s_h s_c s_p s_s p_nx p_sz r_k r_r r_p l_z q_z t_t b_l b_b b_n r_t l_l l_b l_n q_l q_b q_n t_le s_cs s_ps s_ha s_en pk ik s_ro s_me s_be s_se s_co pl pb pn il ib im l_a q_a hAd 1 (f_X3_openOf p1 b_l b_b) _ hu11) (cwV 2 hts (gV q3_9 q3_11 qs1_14 q1_8 q3_12) rfl rfl rfl hd_X3_tell ⟨Nat.le_of_ble_eq_true rfl, Nat.le_of_ble_eq_true rfl⟩) (va_recv hk.1 hP (ci := 3) (q0 := 25) rfl rfl) rfl hl.1 rfl (Nat.le_of_ble_eq_true rfl) dX3_lookAtPoint_76 ⟨Nat.zero_le _, Nat.zero_le _⟩) hS (fun _ h => h) (fun H locs hP hS => ?_)
            have hP : va_P D vwCl (cw ad cI cL cZ c_sr t_n t_r t_w s_w s_h s_c s_p s_s p_nx p_sz u11.1 r_r r_p l_z q_z t_t b_l b_b b_n u11.2 l_l l_b l_n q_l q_b q_n t_le s_cs s_ps s_ha s_en pk ik s_ro s_me s_be s_se s_co pl pb pn il ib im l_a q_a) H := hP
            refine lv_goto (tgt := 100) hx hb dX3_lookAtPoint_79 (by decide) ?_
            subst hr
            exact ret_v hx hb hrt hlocks hP hS dX3_lookAtPoint_100
          · have hr := (if_neg c59).symm.trans hr
            refine lv_iload hx hb dX3_lookAtPoint_62 (lv_at hl 1 rfl) ?_
            refine lv_if_ne (tgt := 82) hx hb dX3_lookAtPoint_64 (by decide) (fun c64 => ?_) (fun c64 => ?_)
            · have hr := (if_neg c64).symm.trans hr
              refine lv_iload hx hb dX3_lookAtPoint_82 (lv_at hl 1 rfl) ?_
              refine lv_iconst (v := 1) hx hb dX3_lookAtPoint_84 (by decide) ?_
              refine lv_icmp_ne (tgt := 100) hx hb dX3_lookAtPoint_85 (by decide) (fun c85 => ?_) (fun c85 => ?_)
              · have hr := (if_neg c85).symm.trans hr
                subst hr
                exact ret_v hx hb hrt hlocks hP hS dX3_lookAtPoint_100
              · have hr := (if_pos c85).symm.trans hr
                refine lv_iload hx hb dX3_lookAtPoint_88 (lv_at hl 0 rfl) ?_
                refine lv_iconst (v := 1) hx hb dX3_lookAtPoint_90 (by decide) ?_
                refine lv_icmp_ne (tgt := 100) hx hb dX3_lookAtPoint_91 (by decide) (fun c91 => ?_) (fun c91 => ?_)
                · have hr := (if_neg c91).symm.trans hr
                  subst hr
                  exact ret_v hx hb hrt hlocks hP hS dX3_lookAtPoint_100
                · have hr := (if_pos c91).symm.trans hr
                  refine lv_aload_n hx hb dX3_lookAtPoint_94 rfl (lv_at hl 3 rfl) ?_
                  refine lv_iconst (v := 2) hx hb dX3_lookAtPoint_95 (by decide) ?_
                  refine lv_lload_n hx hb dX3_lookAtPoint_96 rfl (lv_at hl 2 rfl) ?_
                  obtain ⟨u12, hu12⟩ : ∃ z, f_X3_tell 2 (f_X3_openOf p1 b_l b_b) = z := ⟨_, rfl⟩
                  have hr := (bd_eq hu12).symm.trans hr
                  refine go_v (ru_V (n := 2) ⟨hx, hb, hml, hown, hts⟩ hk hP (c_X3_tell l D cI cL cZ ad c_sr t_n t_r t_w s_w s_h s_c s_p s_s p_nx p_sz r_k r_r r_p l_z q_z t_t b_l b_b b_n r_t l_l l_b l_n q_l q_b q_n t_le s_cs s_ps s_ha s_en pk ik s_ro s_me s_be s_se s_co pl pb pn il ib im l_a q_a hAd 2 (f_X3_openOf p1 b_l b_b) _ hu12) (cwV 2 hts (gV q3_9 q3_11 qs1_14 q1_8 q3_12) rfl rfl rfl hd_X3_tell ⟨Nat.le_of_ble_eq_true rfl, Nat.le_of_ble_eq_true rfl⟩) (va_recv hk.1 hP (ci := 3) (q0 := 25) rfl rfl) rfl hl.1 rfl (Nat.le_of_ble_eq_true rfl) dX3_lookAtPoint_97 ⟨Nat.zero_le _, Nat.zero_le _⟩) hS (fun _ h => h) (fun H locs hP hS => ?_)
                  have hP : va_P D vwCl (cw ad cI cL cZ c_sr t_n t_r t_w s_w s_h s_c s_p s_s p_nx p_sz u12.1 r_r r_p l_z q_z t_t b_l b_b b_n u12.2 l_l l_b l_n q_l q_b q_n t_le s_cs s_ps s_ha s_en pk ik s_ro s_me s_be s_se s_co pl pb pn il ib im l_a q_a) H := hP
                  subst hr
                  exact ret_v hx hb hrt hlocks hP hS dX3_lookAtPoint_100
            · have hr := (if_pos c64).symm.trans hr
              refine lv_iload hx hb dX3_lookAtPoint_67 (lv_at hl 0 rfl) ?_
              refine lv_iconst (v := 1) hx hb dX3_lookAtPoint_69 (by decide) ?_
              refine lv_icmp_ne (tgt := 82) hx hb dX3_lookAtPoint_70 (by decide) (fun c70 => ?_) (fun c70 => ?_)
              · have hr := (if_neg c70).symm.trans hr
                refine lv_iload hx hb dX3_lookAtPoint_82 (lv_at hl 1 rfl) ?_
                refine lv_iconst (v := 1) hx hb dX3_lookAtPoint_84 (by decide) ?_
                refine lv_icmp_ne (tgt := 100) hx hb dX3_lookAtPoint_85 (by decide) (fun c85 => ?_) (fun c85 => ?_)
                · have hr := (if_neg c85).symm.trans hr
                  subst hr
                  exact ret_v hx hb hrt hlocks hP hS dX3_lookAtPoint_100
                · have hr := (if_pos c85).symm.trans hr
                  refine lv_iload hx hb dX3_lookAtPoint_88 (lv_at hl 0 rfl) ?_
                  refine lv_iconst (v := 1) hx hb dX3_lookAtPoint_90 (by decide) ?_
                  refine lv_icmp_ne (tgt := 100) hx hb dX3_lookAtPoint_91 (by decide) (fun c91 => ?_) (fun c91 => ?_)
                  · have hr := (if_neg c91).symm.trans hr
                    subst hr
                    exact ret_v hx hb hrt hlocks hP hS dX3_lookAtPoint_100
                  · have hr := (if_pos c91).symm.trans hr
                    refine lv_aload_n hx hb dX3_lookAtPoint_94 rfl (lv_at hl 3 rfl) ?_
                    refine lv_iconst (v := 2) hx hb dX3_lookAtPoint_95 (by decide) ?_
                    refine lv_lload_n hx hb dX3_lookAtPoint_96 rfl (lv_at hl 2 rfl) ?_
                    obtain ⟨u13, hu13⟩ : ∃ z, f_X3_tell 2 (f_X3_openOf p1 b_l b_b) = z := ⟨_, rfl⟩
                    have hr := (bd_eq hu13).symm.trans hr
                    refine go_v (ru_V (n := 2) ⟨hx, hb, hml, hown, hts⟩ hk hP (c_X3_tell l D cI cL cZ ad c_sr t_n t_r t_w s_w s_h s_c s_p s_s p_nx p_sz r_k r_r r_p l_z q_z t_t b_l b_b b_n r_t l_l l_b l_n q_l q_b q_n t_le s_cs s_ps s_ha s_en pk ik s_ro s_me s_be s_se s_co pl pb pn il ib im l_a q_a hAd 2 (f_X3_openOf p1 b_l b_b) _ hu13) (cwV 2 hts (gV q3_9 q3_11 qs1_14 q1_8 q3_12) rfl rfl rfl hd_X3_tell ⟨Nat.le_of_ble_eq_true rfl, Nat.le_of_ble_eq_true rfl⟩) (va_recv hk.1 hP (ci := 3) (q0 := 25) rfl rfl) rfl hl.1 rfl (Nat.le_of_ble_eq_true rfl) dX3_lookAtPoint_97 ⟨Nat.zero_le _, Nat.zero_le _⟩) hS (fun _ h => h) (fun H locs hP hS => ?_)
                    have hP : va_P D vwCl (cw ad cI cL cZ c_sr t_n t_r t_w s_w s_h s_c s_p s_s p_nx p_sz u13.1 r_r r_p l_z q_z t_t b_l b_b b_n u13.2 l_l l_b l_n q_l q_b q_n t_le s_cs s_ps s_ha s_en pk ik s_ro s_me s_be s_se s_co pl pb pn il ib im l_a q_a) H := hP
                    subst hr
                    exact ret_v hx hb hrt hlocks hP hS dX3_lookAtPoint_100
              · have hr := (if_pos c70).symm.trans hr
                refine lv_aload_n hx hb dX3_lookAtPoint_73 rfl (lv_at hl 3 rfl) ?_
                refine lv_iconst (v := 1) hx hb dX3_lookAtPoint_74 (by decide) ?_
                refine lv_lload_n hx hb dX3_lookAtPoint_75 rfl (lv_at hl 2 rfl) ?_
                obtain ⟨u14, hu14⟩ : ∃ z, f_X3_tell 1 (f_X3_openOf p1 b_l b_b) = z := ⟨_, rfl⟩
                have hr := (bd_eq hu14).symm.trans hr
                refine go_v (ru_V (n := 2) ⟨hx, hb, hml, hown, hts⟩ hk hP (c_X3_tell l D cI cL cZ ad c_sr t_n t_r t_w s_w s_h s_c s_p s_s p_nx p_sz r_k r_r r_p l_z q_z t_t b_l b_b b_n r_t l_l l_b l_n q_l q_b q_n t_le s_cs s_ps s_ha s_en pk ik s_ro s_me s_be s_se s_co pl pb pn il ib im l_a q_a hAd 1 (f_X3_openOf p1 b_l b_b) _ hu14) (cwV 2 hts (gV q3_9 q3_11 qs1_14 q1_8 q3_12) rfl rfl rfl hd_X3_tell ⟨Nat.le_of_ble_eq_true rfl, Nat.le_of_ble_eq_true rfl⟩) (va_recv hk.1 hP (ci := 3) (q0 := 25) rfl rfl) rfl hl.1 rfl (Nat.le_of_ble_eq_true rfl) dX3_lookAtPoint_76 ⟨Nat.zero_le _, Nat.zero_le _⟩) hS (fun _ h => h) (fun H locs hP hS => ?_)
                have hP : va_P D vwCl (cw ad cI cL cZ c_sr t_n t_r t_w s_w s_h s_c s_p s_s p_nx p_sz u14.1 r_r r_p l_z q_z t_t b_l b_b b_n u14.2 l_l l_b l_n q_l q_b q_n t_le s_cs s_ps s_ha s_en pk ik s_ro s_me s_be s_se s_co pl pb pn il ib im l_a q_a) H := hP
                refine lv_goto (tgt := 100) hx hb dX3_lookAtPoint_79 (by decide) ?_
                subst hr
                exact ret_v hx hb hrt hlocks hP hS dX3_lookAtPoint_100
      · have hr := (if_pos c40).symm.trans hr
        refine lv_aload_n hx hb dX3_lookAtPoint_43 rfl (lv_at hl 3 rfl) ?_
        refine lv_iconst (v := 3) hx hb dX3_lookAtPoint_44 (by decide) ?_
        refine va_put (D := D) (ci := 3) (v := .int 3) (ty := .int) (C := RX3) (T := TX3) (N := 6) hx hb hts u_X3 tyX3 tyX3_ok nmX3 hown hk.1 hP (cw_D hAd) hS 25 rfl rfl 2 (by decide) (hts _ q1_181) (fun _ h9 => h9) rfl (tyX3_ok 2 (by decide)) rfl rfl (Nat.le_of_ble_eq_true rfl) dX3_lookAtPoint_45 (fun H locs hP _ hS => ?_)
        have hP : va_P D vwCl (cw ad cI cL cZ c_sr t_n t_r t_w s_w s_h s_c s_p s_s p_nx p_sz 3 r_r r_p l_z q_z t_t b_l b_b b_n r_t l_l l_b l_n q_l q_b q_n t_le s_cs s_ps s_ha s_en pk ik s_ro s_me s_be s_se s_co pl pb pn il ib im l_a q_a) H := hP
        refine lv_goto (tgt := 100) hx hb dX3_lookAtPoint_48 (by decide) ?_
        subst hr
        exact ret_v hx hb hrt hlocks hP hS dX3_lookAtPoint_100
theorem hd_X3_lookAtChain : yX3_lookAtChain.cls = RX3 ∧ yX3_lookAtChain.cls ≠ "java/lang/invoke/MethodHandle" ∧ yX3_lookAtChain.cls ≠ "java/lang/invoke/VarHandle" ∧ (parseMethodDescriptor yX3_lookAtChain.desc).map (fun d => d.parameters.length) = some 2 := by decide +kernel
def f_X3_lookAtChain (p1 : Int32) (p2 : Int32) (s_c : Int32) (s_p : Int32) (r_k : Int32) (b_l : Int64) (b_n : Int64) (r_t : Int64) (s_en : Nat → Int32) (s_ro : Nat → Int64) (s_me : Nat → Int64) (s_be : Nat → Int64) : Int32 × Int64 := (if p2 = 1 then (if (f_X3_othersThan (f_X4_chainOf b_l p1 s_be) b_l) = 0 then (r_k, r_t) else (if (f_X3_isClosed (f_X4_chainOf b_l p1 s_be) s_p b_l s_me) = 0 then (r_k, r_t) else (3, r_t))) else (if p2 = 0 then (if (lg_cmp (f_X3_chainThatWouldClose p1 b_l s_en s_me s_be) 0) = 0 then (r_k, r_t) else (if (f_X3_othersThan (f_X3_chainThatWouldClose p1 b_l s_en s_me s_be) b_l) = 0 then (if (f_X3_missesNumber (b_l ||| (f_X7_bit p1)) s_c b_n s_ro) = 0 then (r_k, r_t) else (bd (f_X3_tell 1 (f_X7_bit p1)) (fun u2 => (u2.1, u2.2)))) else (bd (f_X3_tell 1 (f_X7_bit p1)) (fun u1 => (u1.1, u1.2))))) else (r_k, r_t)))
set_option maxHeartbeats 4000000 in
set_option maxRecDepth 100000 in
theorem c_X3_lookAtChain (l : Launch) (D : va_G) (cI cL cZ : ClassId) (ad : Nat → Nat) (c_sr t_n t_r t_w s_w s_h s_c s_p s_s p_nx p_sz r_k r_r r_p l_z q_z : Int32) (t_t b_l b_b b_n r_t l_l l_b l_n q_l q_b q_n : Int64) (t_le s_cs s_ps s_ha s_en pk ik : Nat → Int32) (s_ro s_me s_be s_se s_co pl pb pn il ib im l_a q_a : Nat → Int64) (hAd : cInj ad) (p1 p2 : Int32) (r : Int32 × Int64) (hr : f_X3_lookAtChain p1 p2 s_c s_p r_k b_l b_n r_t s_en s_ro s_me s_be = r) : MV l yX3_lookAtChain (Cond.code yX3_lookAtChain cX3_lookAtChain 5 none :: W0) 4 101 D cI cL cZ (cAd ad) [.ref (ad 25), .int p1, .int p2] (cw ad cI cL cZ c_sr t_n t_r t_w s_w s_h s_c s_p s_s p_nx p_sz r_k r_r r_p l_z q_z t_t b_l b_b b_n r_t l_l l_b l_n q_l q_b q_n t_le s_cs s_ps s_ha s_en pk ik s_ro s_me s_be s_se s_co pl pb pn il ib im l_a q_a) (cw ad cI cL cZ c_sr t_n t_r t_w s_w s_h s_c s_p s_s p_nx p_sz r.1 r_r r_p l_z q_z t_t b_l b_b b_n r.2 l_l l_b l_n q_l q_b q_n t_le s_cs s_ps s_ha s_en pk ik s_ro s_me s_be s_se s_co pl pb pn il ib im l_a q_a) := by
  refine mk_start (cc := cX3_lookAtChain) (maxL := 5) (ret := none) (by decide) rfl (Nat.le_of_ble_eq_true rfl) ?_
  intro p e s m below meth c ls C hP hS hl
  obtain ⟨hx, hb, hml, hrt, hlocks, hown, hts, hk⟩ := C
  have hown : s.vm.findClass RX3 = some m.cls := hown
  have hl : lv_has ls 5 [(0, .ref (ad 25)), (1, .int p1), (2, .int p2)] := hl
  rw [f_X3_lookAtChain] at hr
  refine lv_iload_n hx hb dX3_lookAtChain_0 rfl (lv_at hl 2 rfl) ?_
  refine lv_iconst (v := 1) hx hb dX3_lookAtChain_1 (by decide) ?_
  refine lv_icmp_ne (tgt := 45) hx hb dX3_lookAtChain_2 (by decide) (fun c2 => ?_) (fun c2 => ?_)
  · have hr := (if_neg c2).symm.trans hr
    refine lv_iload_n hx hb dX3_lookAtChain_45 rfl (lv_at hl 2 rfl) ?_
    refine lv_if_ne (tgt := 97) hx hb dX3_lookAtChain_46 (by decide) (fun c46 => ?_) (fun c46 => ?_)
    · have hr := (if_neg c46).symm.trans hr
      subst hr
      exact ret_v hx hb hrt hlocks hP hS dX3_lookAtChain_97
    · have hr := (if_pos c46).symm.trans hr
      refine lv_aload_n hx hb dX3_lookAtChain_49 rfl (lv_at hl 0 rfl) ?_
      refine lv_iload_n hx hb dX3_lookAtChain_50 rfl (lv_at hl 1 rfl) ?_
      refine go_l (ru_V (n := 1) ⟨hx, hb, hml, hown, hts⟩ hk hP (c_X3_chainThatWouldClose l D cI cL cZ ad c_sr t_n t_r t_w s_w s_h s_c s_p s_s p_nx p_sz r_k r_r r_p l_z q_z t_t b_l b_b b_n r_t l_l l_b l_n q_l q_b q_n t_le s_cs s_ps s_ha s_en pk ik s_ro s_me s_be s_se s_co pl pb pn il ib im l_a q_a hAd p1 _ rfl) (cwV 1 hts (gV q3_43 q3_45 qs2_3 q1_8 q3_46) rfl rfl rfl hd_X3_chainThatWouldClose ⟨Nat.le_of_ble_eq_true rfl, Nat.le_of_ble_eq_true rfl⟩) (va_recv hk.1 hP (ci := 3) (q0 := 25) rfl rfl) rfl hl.1 rfl (Nat.le_of_ble_eq_true rfl) dX3_lookAtChain_51 ⟨Nat.zero_le _, Nat.zero_le _⟩) hS (fun _ h => h) (fun H locs hP hS => ?_)
      have hP : va_P D vwCl (cw ad cI cL cZ c_sr t_n t_r t_w s_w s_h s_c s_p s_s p_nx p_sz r_k r_r r_p l_z q_z t_t b_l b_b b_n r_t l_l l_b l_n q_l q_b q_n t_le s_cs s_ps s_ha s_en pk ik s_ro s_me s_be s_se s_co pl pb pn il ib im l_a q_a) H := hP
      refine lv_lstore_n (lv' := [(3, .long (f_X3_chainThatWouldClose p1 b_l s_en s_me s_be)), (0, .ref (ad 25)), (1, .int p1), (2, .int p2)]) hx hb dX3_lookAtChain_54 rfl hl (by decide) rfl (fun ls hl => ?_)
      refine lv_lload_n hx hb dX3_lookAtChain_55 rfl (lv_at hl 0 rfl) ?_
      refine lv_lconst (v := 0) hx hb dX3_lookAtChain_56 (by decide) ?_
      refine W.lcmp hx hb dX3_lookAtChain_57 ?_
      refine lv_if_eq (tgt := 97) hx hb dX3_lookAtChain_58 (by decide) (fun c58 => ?_) (fun c58 => ?_)
      · have hr := (if_pos c58).symm.trans hr
        subst hr
        exact ret_v hx hb hrt hlocks hP hS dX3_lookAtChain_97
      · have hr := (if_neg c58).symm.trans hr
        refine lv_aload_n hx hb dX3_lookAtChain_61 rfl (lv_at hl 1 rfl) ?_
        refine lv_lload_n hx hb dX3_lookAtChain_62 rfl (lv_at hl 0 rfl) ?_
        refine go_z (ru_V (n := 1) ⟨hx, hb, hml, hown, hts⟩ hk hP (c_X3_othersThan l D cI cL cZ ad c_sr t_n t_r t_w s_w s_h s_c s_p s_s p_nx p_sz r_k r_r r_p l_z q_z t_t b_l b_b b_n r_t l_l l_b l_n q_l q_b q_n t_le s_cs s_ps s_ha s_en pk ik s_ro s_me s_be s_se s_co pl pb pn il ib im l_a q_a hAd (f_X3_chainThatWouldClose p1 b_l s_en s_me s_be) _ rfl) (cwV 1 hts (gV q3_35 q3_37 qs2_1 q1_8 q3_38) rfl rfl rfl hd_X3_othersThan ⟨Nat.le_of_ble_eq_true rfl, Nat.le_of_ble_eq_true rfl⟩) (va_recv hk.1 hP (ci := 3) (q0 := 25) rfl rfl) rfl hl.1 rfl (Nat.le_of_ble_eq_true rfl) dX3_lookAtChain_63 ⟨Nat.zero_le _, Nat.zero_le _⟩) hS (fun _ h => h) (fun H locs hz63 hP hS => ?_)
        have hP : va_P D vwCl (cw ad cI cL cZ c_sr t_n t_r t_w s_w s_h s_c s_p s_s p_nx p_sz r_k r_r r_p l_z q_z t_t b_l b_b b_n r_t l_l l_b l_n q_l q_b q_n t_le s_cs s_ps s_ha s_en pk ik s_ro s_me s_be s_se s_co pl pb pn il ib im l_a q_a) H := hP
        refine lv_if_ne (tgt := 88) hx hb dX3_lookAtChain_66 (by decide) (fun c66 => ?_) (fun c66 => ?_)
        · have hr := (if_neg c66).symm.trans hr
          refine lv_aload_n hx hb dX3_lookAtChain_88 rfl (lv_at hl 1 rfl) ?_
          refine lv_iconst (v := 1) hx hb dX3_lookAtChain_89 (by decide) ?_
          refine lv_iload_n hx hb dX3_lookAtChain_90 rfl (lv_at hl 2 rfl) ?_
          refine go_l (ru_N (n := 1) ⟨hx, hb, hml, hown, hts⟩ hk hP (c_X7_bit l D cI cL cZ (cAd ad) (cw ad cI cL cZ c_sr t_n t_r t_w s_w s_h s_c s_p s_s p_nx p_sz r_k r_r r_p l_z q_z t_t b_l b_b b_n r_t l_l l_b l_n q_l q_b q_n t_le s_cs s_ps s_ha s_en pk ik s_ro s_me s_be s_se s_co pl pb pn il ib im l_a q_a) p1 _ rfl) ⟨va_cnB 1 hts (gN q2_20) rfl rfl rfl (hk.2 _ nwm_X3_105) (hts _ q1_1) hd_X7_bit ⟨Nat.le_of_ble_eq_true rfl, Nat.le_of_ble_eq_true rfl⟩, hts _ q2_19, trivial⟩ rfl hl.1 rfl (Nat.le_of_ble_eq_true rfl) dX3_lookAtChain_91 ⟨Nat.zero_le _, Nat.zero_le _⟩) hS (fun _ h => h) (fun H locs hP hS => ?_)
          have hP : va_P D vwCl (cw ad cI cL cZ c_sr t_n t_r t_w s_w s_h s_c s_p s_s p_nx p_sz r_k r_r r_p l_z q_z t_t b_l b_b b_n r_t l_l l_b l_n q_l q_b q_n t_le s_cs s_ps s_ha s_en pk ik s_ro s_me s_be s_se s_co pl pb pn il ib im l_a q_a) H := hP
          obtain ⟨u1, hu1⟩ : ∃ z, f_X3_tell 1 (f_X7_bit p1) = z := ⟨_, rfl⟩
          have hr := (bd_eq hu1).symm.trans hr
          refine go_v (ru_V (n := 2) ⟨hx, hb, hml, hown, hts⟩ hk hP (c_X3_tell l D cI cL cZ ad c_sr t_n t_r t_w s_w s_h s_c s_p s_s p_nx p_sz r_k r_r r_p l_z q_z t_t b_l b_b b_n r_t l_l l_b l_n q_l q_b q_n t_le s_cs s_ps s_ha s_en pk ik s_ro s_me s_be s_se s_co pl pb pn il ib im l_a q_a hAd 1 (f_X7_bit p1) _ hu1) (cwV 2 hts (gV q3_9 q3_11 qs1_14 q1_8 q3_12) rfl rfl rfl hd_X3_tell ⟨Nat.le_of_ble_eq_true rfl, Nat.le_of_ble_eq_true rfl⟩) (va_recv hk.1 hP (ci := 3) (q0 := 25) rfl rfl) rfl hl.1 rfl (Nat.le_of_ble_eq_true rfl) dX3_lookAtChain_94 ⟨Nat.zero_le _, Nat.zero_le _⟩) hS (fun _ h => h) (fun H locs hP hS => ?_)
          have hP : va_P D vwCl (cw ad cI cL cZ c_sr t_n t_r t_w s_w s_h s_c s_p s_s p_nx p_sz u1.1 r_r r_p l_z q_z t_t b_l b_b b_n u1.2 l_l l_b l_n q_l q_b q_n t_le s_cs s_ps s_ha s_en pk ik s_ro s_me s_be s_se s_co pl pb pn il ib im l_a q_a) H := hP
          subst hr
          exact ret_v hx hb hrt hlocks hP hS dX3_lookAtChain_97
        · have hr := (if_pos c66).symm.trans hr
          refine lv_aload_n hx hb dX3_lookAtChain_69 rfl (lv_at hl 1 rfl) ?_
          refine lv_aload_n hx hb dX3_lookAtChain_70 rfl (lv_at hl 1 rfl) ?_
          refine va_get (D := D) (ci := 3) (v := .ref (ad 13)) (C := RX3) (T := TX3) (N := 6) hx hb hts u_X3 hown hk.1 hP 25 rfl rfl 1 (by decide) (hts _ q1_180) (fun _ h9 => h9) rfl dX3_lookAtChain_71 ?_
          refine va_get (D := D) (ci := 0) (v := .long b_l) (C := RX0) (T := TX0) (N := 3) hx hb hts u_X0 hown hk.1 hP 13 rfl rfl 0 (by decide) (hts _ q1_116) (fun _ h9 => h9) rfl dX3_lookAtChain_74 ?_
          refine lv_iload_n hx hb dX3_lookAtChain_77 rfl (lv_at hl 2 rfl) ?_
          refine go_l (ru_N (n := 1) ⟨hx, hb, hml, hown, hts⟩ hk hP (c_X7_bit l D cI cL cZ (cAd ad) (cw ad cI cL cZ c_sr t_n t_r t_w s_w s_h s_c s_p s_s p_nx p_sz r_k r_r r_p l_z q_z t_t b_l b_b b_n r_t l_l l_b l_n q_l q_b q_n t_le s_cs s_ps s_ha s_en pk ik s_ro s_me s_be s_se s_co pl pb pn il ib im l_a q_a) p1 _ rfl) ⟨va_cnB 1 hts (gN q2_20) rfl rfl rfl (hk.2 _ nwm_X3_105) (hts _ q1_1) hd_X7_bit ⟨Nat.le_of_ble_eq_true rfl, Nat.le_of_ble_eq_true rfl⟩, hts _ q2_19, trivial⟩ rfl hl.1 rfl (Nat.le_of_ble_eq_true rfl) dX3_lookAtChain_78 ⟨Nat.zero_le _, Nat.zero_le _⟩) hS (fun _ h => h) (fun H locs hP hS => ?_)
          have hP : va_P D vwCl (cw ad cI cL cZ c_sr t_n t_r t_w s_w s_h s_c s_p s_s p_nx p_sz r_k r_r r_p l_z q_z t_t b_l b_b b_n r_t l_l l_b l_n q_l q_b q_n t_le s_cs s_ps s_ha s_en pk ik s_ro s_me s_be s_se s_co pl pb pn il ib im l_a q_a) H := hP
          refine lv_lor hx hb dX3_lookAtChain_81 ?_
          refine go_z (ru_V (n := 1) ⟨hx, hb, hml, hown, hts⟩ hk hP (c_X3_missesNumber l D cI cL cZ ad c_sr t_n t_r t_w s_w s_h s_c s_p s_s p_nx p_sz r_k r_r r_p l_z q_z t_t b_l b_b b_n r_t l_l l_b l_n q_l q_b q_n t_le s_cs s_ps s_ha s_en pk ik s_ro s_me s_be s_se s_co pl pb pn il ib im l_a q_a hAd (b_l ||| (f_X7_bit p1)) _ rfl) (cwV 1 hts (gV q3_50 q3_52 qs2_4 q1_8 q3_53) rfl rfl rfl hd_X3_missesNumber ⟨Nat.le_of_ble_eq_true rfl, Nat.le_of_ble_eq_true rfl⟩) (va_recv hk.1 hP (ci := 3) (q0 := 25) rfl rfl) rfl hl.1 rfl (Nat.le_of_ble_eq_true rfl) dX3_lookAtChain_82 ⟨Nat.zero_le _, Nat.zero_le _⟩) hS (fun _ h => h) (fun H locs hz82 hP hS => ?_)
          have hP : va_P D vwCl (cw ad cI cL cZ c_sr t_n t_r t_w s_w s_h s_c s_p s_s p_nx p_sz r_k r_r r_p l_z q_z t_t b_l b_b b_n r_t l_l l_b l_n q_l q_b q_n t_le s_cs s_ps s_ha s_en pk ik s_ro s_me s_be s_se s_co pl pb pn il ib im l_a q_a) H := hP
          refine lv_if_eq (tgt := 97) hx hb dX3_lookAtChain_85 (by decide) (fun c85 => ?_) (fun c85 => ?_)
          · have hr := (if_pos c85).symm.trans hr
            subst hr
            exact ret_v hx hb hrt hlocks hP hS dX3_lookAtChain_97
          · have hr := (if_neg c85).symm.trans hr
            refine lv_aload_n hx hb dX3_lookAtChain_88 rfl (lv_at hl 1 rfl) ?_
            refine lv_iconst (v := 1) hx hb dX3_lookAtChain_89 (by decide) ?_
            refine lv_iload_n hx hb dX3_lookAtChain_90 rfl (lv_at hl 2 rfl) ?_
            refine go_l (ru_N (n := 1) ⟨hx, hb, hml, hown, hts⟩ hk hP (c_X7_bit l D cI cL cZ (cAd ad) (cw ad cI cL cZ c_sr t_n t_r t_w s_w s_h s_c s_p s_s p_nx p_sz r_k r_r r_p l_z q_z t_t b_l b_b b_n r_t l_l l_b l_n q_l q_b q_n t_le s_cs s_ps s_ha s_en pk ik s_ro s_me s_be s_se s_co pl pb pn il ib im l_a q_a) p1 _ rfl) ⟨va_cnB 1 hts (gN q2_20) rfl rfl rfl (hk.2 _ nwm_X3_105) (hts _ q1_1) hd_X7_bit ⟨Nat.le_of_ble_eq_true rfl, Nat.le_of_ble_eq_true rfl⟩, hts _ q2_19, trivial⟩ rfl hl.1 rfl (Nat.le_of_ble_eq_true rfl) dX3_lookAtChain_91 ⟨Nat.zero_le _, Nat.zero_le _⟩) hS (fun _ h => h) (fun H locs hP hS => ?_)
            have hP : va_P D vwCl (cw ad cI cL cZ c_sr t_n t_r t_w s_w s_h s_c s_p s_s p_nx p_sz r_k r_r r_p l_z q_z t_t b_l b_b b_n r_t l_l l_b l_n q_l q_b q_n t_le s_cs s_ps s_ha s_en pk ik s_ro s_me s_be s_se s_co pl pb pn il ib im l_a q_a) H := hP
            obtain ⟨u2, hu2⟩ : ∃ z, f_X3_tell 1 (f_X7_bit p1) = z := ⟨_, rfl⟩
            have hr := (bd_eq hu2).symm.trans hr
            refine go_v (ru_V (n := 2) ⟨hx, hb, hml, hown, hts⟩ hk hP (c_X3_tell l D cI cL cZ ad c_sr t_n t_r t_w s_w s_h s_c s_p s_s p_nx p_sz r_k r_r r_p l_z q_z t_t b_l b_b b_n r_t l_l l_b l_n q_l q_b q_n t_le s_cs s_ps s_ha s_en pk ik s_ro s_me s_be s_se s_co pl pb pn il ib im l_a q_a hAd 1 (f_X7_bit p1) _ hu2) (cwV 2 hts (gV q3_9 q3_11 qs1_14 q1_8 q3_12) rfl rfl rfl hd_X3_tell ⟨Nat.le_of_ble_eq_true rfl, Nat.le_of_ble_eq_true rfl⟩) (va_recv hk.1 hP (ci := 3) (q0 := 25) rfl rfl) rfl hl.1 rfl (Nat.le_of_ble_eq_true rfl) dX3_lookAtChain_94 ⟨Nat.zero_le _, Nat.zero_le _⟩) hS (fun _ h => h) (fun H locs hP hS => ?_)
            have hP : va_P D vwCl (cw ad cI cL cZ c_sr t_n t_r t_w s_w s_h s_c s_p s_s p_nx p_sz u2.1 r_r r_p l_z q_z t_t b_l b_b b_n u2.2 l_l l_b l_n q_l q_b q_n t_le s_cs s_ps s_ha s_en pk ik s_ro s_me s_be s_se s_co pl pb pn il ib im l_a q_a) H := hP
            subst hr
            exact ret_v hx hb hrt hlocks hP hS dX3_lookAtChain_97
  · have hr := (if_pos c2).symm.trans hr
    refine lv_aload_n hx hb dX3_lookAtChain_5 rfl (lv_at hl 0 rfl) ?_
    refine va_get (D := D) (ci := 3) (v := .ref (ad 3)) (C := RX3) (T := TX3) (N := 6) hx hb hts u_X3 hown hk.1 hP 25 rfl rfl 0 (by decide) (hts _ q1_179) (fun _ h9 => h9) rfl dX3_lookAtChain_6 ?_
    refine lv_aload_n hx hb dX3_lookAtChain_9 rfl (lv_at hl 0 rfl) ?_
    refine va_get (D := D) (ci := 3) (v := .ref (ad 13)) (C := RX3) (T := TX3) (N := 6) hx hb hts u_X3 hown hk.1 hP 25 rfl rfl 1 (by decide) (hts _ q1_180) (fun _ h9 => h9) rfl dX3_lookAtChain_10 ?_
    refine va_get (D := D) (ci := 0) (v := .long b_l) (C := RX0) (T := TX0) (N := 3) hx hb hts u_X0 hown hk.1 hP 13 rfl rfl 0 (by decide) (hts _ q1_116) (fun _ h9 => h9) rfl dX3_lookAtChain_13 ?_
    refine lv_iload_n hx hb dX3_lookAtChain_16 rfl (lv_at hl 1 rfl) ?_
    refine go_l (ru_V (n := 2) ⟨hx, hb, hml, hown, hts⟩ hk hP (c_X4_chainOf l D cI cL cZ ad c_sr t_n t_r t_w s_w s_h s_c s_p s_s p_nx p_sz r_k r_r r_p l_z q_z t_t b_l b_b b_n r_t l_l l_b l_n q_l q_b q_n t_le s_cs s_ps s_ha s_en pk ik s_ro s_me s_be s_se s_co pl pb pn il ib im l_a q_a hAd b_l p1 _ rfl) (cwV 2 hts (gV q3_23 q3_24 q3_25 q1_3 q3_26) rfl rfl rfl hd_X4_chainOf ⟨Nat.le_of_ble_eq_true rfl, Nat.le_of_ble_eq_true rfl⟩) (va_recv hk.1 hP (ci := 4) (q0 := 3) rfl rfl) rfl hl.1 rfl (Nat.le_of_ble_eq_true rfl) dX3_lookAtChain_17 ⟨Nat.zero_le _, Nat.zero_le _⟩) hS (fun _ h => h) (fun H locs hP hS => ?_)
    have hP : va_P D vwCl (cw ad cI cL cZ c_sr t_n t_r t_w s_w s_h s_c s_p s_s p_nx p_sz r_k r_r r_p l_z q_z t_t b_l b_b b_n r_t l_l l_b l_n q_l q_b q_n t_le s_cs s_ps s_ha s_en pk ik s_ro s_me s_be s_se s_co pl pb pn il ib im l_a q_a) H := hP
    refine lv_lstore_n (lv' := [(3, .long (f_X4_chainOf b_l p1 s_be)), (0, .ref (ad 25)), (1, .int p1), (2, .int p2)]) hx hb dX3_lookAtChain_20 rfl hl (by decide) rfl (fun ls hl => ?_)
    refine lv_aload_n hx hb dX3_lookAtChain_21 rfl (lv_at hl 1 rfl) ?_
    refine lv_lload_n hx hb dX3_lookAtChain_22 rfl (lv_at hl 0 rfl) ?_
    refine go_z (ru_V (n := 1) ⟨hx, hb, hml, hown, hts⟩ hk hP (c_X3_othersThan l D cI cL cZ ad c_sr t_n t_r t_w s_w s_h s_c s_p s_s p_nx p_sz r_k r_r r_p l_z q_z t_t b_l b_b b_n r_t l_l l_b l_n q_l q_b q_n t_le s_cs s_ps s_ha s_en pk ik s_ro s_me s_be s_se s_co pl pb pn il ib im l_a q_a hAd (f_X4_chainOf b_l p1 s_be) _ rfl) (cwV 1 hts (gV q3_35 q3_37 qs2_1 q1_8 q3_38) rfl rfl rfl hd_X3_othersThan ⟨Nat.le_of_ble_eq_true rfl, Nat.le_of_ble_eq_true rfl⟩) (va_recv hk.1 hP (ci := 3) (q0 := 25) rfl rfl) rfl hl.1 rfl (Nat.le_of_ble_eq_true rfl) dX3_lookAtChain_23 ⟨Nat.zero_le _, Nat.zero_le _⟩) hS (fun _ h => h) (fun H locs hz23 hP hS => ?_)
    have hP : va_P D vwCl (cw ad cI cL cZ c_sr t_n t_r t_w s_w s_h s_c s_p s_s p_nx p_sz r_k r_r r_p l_z q_z t_t b_l b_b b_n r_t l_l l_b l_n q_l q_b q_n t_le s_cs s_ps s_ha s_en pk ik s_ro s_me s_be s_se s_co pl pb pn il ib im l_a q_a) H := hP
    refine lv_if_eq (tgt := 42) hx hb dX3_lookAtChain_26 (by decide) (fun c26 => ?_) (fun c26 => ?_)
    · have hr := (if_pos c26).symm.trans hr
      refine lv_goto (tgt := 97) hx hb dX3_lookAtChain_42 (by decide) ?_
      subst hr
      exact ret_v hx hb hrt hlocks hP hS dX3_lookAtChain_97
    · have hr := (if_neg c26).symm.trans hr
      refine lv_aload_n hx hb dX3_lookAtChain_29 rfl (lv_at hl 1 rfl) ?_
      refine lv_lload_n hx hb dX3_lookAtChain_30 rfl (lv_at hl 0 rfl) ?_
      refine go_z (ru_V (n := 1) ⟨hx, hb, hml, hown, hts⟩ hk hP (c_X3_isClosed l D cI cL cZ ad c_sr t_n t_r t_w s_w s_h s_c s_p s_s p_nx p_sz r_k r_r r_p l_z q_z t_t b_l b_b b_n r_t l_l l_b l_n q_l q_b q_n t_le s_cs s_ps s_ha s_en pk ik s_ro s_me s_be s_se s_co pl pb pn il ib im l_a q_a hAd (f_X4_chainOf b_l p1 s_be) _ rfl) (cwV 1 hts (gV q3_39 q3_41 qs2_2 q1_8 q3_42) rfl rfl rfl hd_X3_isClosed ⟨Nat.le_of_ble_eq_true rfl, Nat.le_of_ble_eq_true rfl⟩) (va_recv hk.1 hP (ci := 3) (q0 := 25) rfl rfl) rfl hl.1 rfl (Nat.le_of_ble_eq_true rfl) dX3_lookAtChain_31 ⟨Nat.zero_le _, Nat.zero_le _⟩) hS (fun _ h => h) (fun H locs hz31 hP hS => ?_)
      have hP : va_P D vwCl (cw ad cI cL cZ c_sr t_n t_r t_w s_w s_h s_c s_p s_s p_nx p_sz r_k r_r r_p l_z q_z t_t b_l b_b b_n r_t l_l l_b l_n q_l q_b q_n t_le s_cs s_ps s_ha s_en pk ik s_ro s_me s_be s_se s_co pl pb pn il ib im l_a q_a) H := hP
      refine lv_if_eq (tgt := 42) hx hb dX3_lookAtChain_34 (by decide) (fun c34 => ?_) (fun c34 => ?_)
      · have hr := (if_pos c34).symm.trans hr
        refine lv_goto (tgt := 97) hx hb dX3_lookAtChain_42 (by decide) ?_
        subst hr
        exact ret_v hx hb hrt hlocks hP hS dX3_lookAtChain_97
      · have hr := (if_neg c34).symm.trans hr
        refine lv_aload_n hx hb dX3_lookAtChain_37 rfl (lv_at hl 1 rfl) ?_
        refine lv_iconst (v := 3) hx hb dX3_lookAtChain_38 (by decide) ?_
        refine va_put (D := D) (ci := 3) (v := .int 3) (ty := .int) (C := RX3) (T := TX3) (N := 6) hx hb hts u_X3 tyX3 tyX3_ok nmX3 hown hk.1 hP (cw_D hAd) hS 25 rfl rfl 2 (by decide) (hts _ q1_181) (fun _ h9 => h9) rfl (tyX3_ok 2 (by decide)) rfl rfl (Nat.le_of_ble_eq_true rfl) dX3_lookAtChain_39 (fun H locs hP _ hS => ?_)
        have hP : va_P D vwCl (cw ad cI cL cZ c_sr t_n t_r t_w s_w s_h s_c s_p s_s p_nx p_sz 3 r_r r_p l_z q_z t_t b_l b_b b_n r_t l_l l_b l_n q_l q_b q_n t_le s_cs s_ps s_ha s_en pk ik s_ro s_me s_be s_se s_co pl pb pn il ib im l_a q_a) H := hP
        refine lv_goto (tgt := 97) hx hb dX3_lookAtChain_42 (by decide) ?_
        subst hr
        exact ret_v hx hb hrt hlocks hP hS dX3_lookAtChain_97
theorem hd_X3_nextOnWay : yX3_nextOnWay.cls = RX3 ∧ yX3_nextOnWay.cls ≠ "java/lang/invoke/MethodHandle" ∧ yX3_nextOnWay.cls ≠ "java/lang/invoke/VarHandle" ∧ (parseMethodDescriptor yX3_nextOnWay.desc).map (fun d => d.parameters.length) = some 2 := by decide +kernel
def F_X3_nextOnWay_41 (y4 : Int32) (y5 : Int32) (b_l : Int64) (s_ha : Nat → Int32) {β : Type} (k0 : Int64 → β) : Nat → Int64 → Int64 → Int32 → β
  | 0, x6, x8, x10 => k0 x6
  | n + 1, x6, x8, x10 => (if 40 ≤ x10 then k0 x6 else (if (lg_cmp x8 0) = 0 then k0 x6 else (if (f_X4_hand (f_J13_numberOfTrailingZeros_95d88 x8) 0 s_ha) = y4 then (if (lg_cmp (b_l &&& (f_X7_bit (f_J13_numberOfTrailingZeros_95d88 x8))) 0) = 0 then (bd (x6 ||| (f_X7_bit ((f_X4_hand (f_J13_numberOfTrailingZeros_95d88 x8) 1 s_ha) + y5))) (fun v3 => F_X3_nextOnWay_41 y4 y5 b_l s_ha k0 n v3 (x8 &&& ((f_X7_bit (f_J13_numberOfTrailingZeros_95d88 x8)) ^^^ ((-1)))) (x10 + 1))) else (bd (x6 ||| (f_X7_bit ((f_X4_hand (f_J13_numberOfTrailingZeros_95d88 x8) 1 s_ha) + (32 - y5)))) (fun v4 => F_X3_nextOnWay_41 y4 y5 b_l s_ha k0 n v4 (x8 &&& ((f_X7_bit (f_J13_numberOfTrailingZeros_95d88 x8)) ^^^ ((-1)))) (x10 + 1)))) else (if (lg_cmp (b_l &&& (f_X7_bit (f_J13_numberOfTrailingZeros_95d88 x8))) 0) = 0 then (bd (x6 ||| (f_X7_bit ((f_X4_hand (f_J13_numberOfTrailingZeros_95d88 x8) 0 s_ha) + y5))) (fun v1 => F_X3_nextOnWay_41 y4 y5 b_l s_ha k0 n v1 (x8 &&& ((f_X7_bit (f_J13_numberOfTrailingZeros_95d88 x8)) ^^^ ((-1)))) (x10 + 1))) else (bd (x6 ||| (f_X7_bit ((f_X4_hand (f_J13_numberOfTrailingZeros_95d88 x8) 0 s_ha) + (32 - y5)))) (fun v2 => F_X3_nextOnWay_41 y4 y5 b_l s_ha k0 n v2 (x8 &&& ((f_X7_bit (f_J13_numberOfTrailingZeros_95d88 x8)) ^^^ ((-1)))) (x10 + 1)))))))
def f_X3_nextOnWay (p1 : Int32) (p2 : Int64) (b_l : Int64) (s_ha : Nat → Int32) (s_ro : Nat → Int64) : Int64 := (if 32 ≤ p1 then F_X3_nextOnWay_41 (p1 - 32) (p1 - (p1 - 32)) b_l s_ha (fun z5 => z5) (fu 40 (0 : Int32)) 0 ((f_X4_roundCell (p1 - 32) s_ro) &&& p2) 0 else F_X3_nextOnWay_41 p1 (p1 - p1) b_l s_ha (fun z6 => z6) (fu 40 (0 : Int32)) 0 ((f_X4_roundCell p1 s_ro) &&& p2) 0)
set_option maxHeartbeats 4000000 in
set_option maxRecDepth 100000 in
theorem lp_X3_nextOnWay_41 (l : Launch) (D : va_G) (cI cL cZ : ClassId) (ad : Nat → Nat) (c_sr t_n t_r t_w s_w s_h s_c s_p s_s p_nx p_sz r_k r_r r_p l_z q_z : Int32) (t_t b_l b_b b_n r_t l_l l_b l_n q_l q_b q_n : Int64) (t_le s_cs s_ps s_ha s_en pk ik : Nat → Int32) (s_ro s_me s_be s_se s_co pl pb pn il ib im l_a q_a : Nat → Int64) {p : Program} {e : Env} {s : State} {m : MethodId} {args : Array Value} {below : List Frame} {meth : Method} {c : Code} {Q : State → Prop} (C : Cx p s m args meth c cX3_nextOnWay 14 (some .long) W0 RX3 D cI cL cZ) (hAd : cInj ad) (y4 y5 : Int32) {β : Type} (k0 : Int64 → β) (r : β)
    (h0 : ∀ (e6 : Int64) (H : Heap) (locs : List Loc) (ls : Array Slot), k0 e6 = r → va_P D vwCl (cw ad cI cL cZ c_sr t_n t_r t_w s_w s_h s_c s_p s_s p_nx p_sz r_k r_r r_p l_z q_z t_t b_l b_b b_n r_t l_l l_b l_n q_l q_b q_n t_le s_cs s_ps s_ha s_en pk ik s_ro s_me s_be s_se s_co pl pb pn il ib im l_a q_a) H → va_S (cAd ad) s.heap H locs → lv_has ls 14 [(6, .long e6)] → W p l e (rmS 2 43) s m args below meth c H locs 0 0 Q (F0 m 173 ls [])) :
    ∀ (n : Nat) (x6 x8 : Int64) (x10 : Int32) (H : Heap) (locs : List Loc) (ls : Array Slot), fuU n 40 x10 → F_X3_nextOnWay_41 y4 y5 b_l s_ha k0 n x6 x8 x10 = r → va_P D vwCl (cw ad cI cL cZ c_sr t_n t_r t_w s_w s_h s_c s_p s_s p_nx p_sz r_k r_r r_p l_z q_z t_t b_l b_b b_n r_t l_l l_b l_n q_l q_b q_n t_le s_cs s_ps s_ha s_en pk ik s_ro s_me s_be s_se s_co pl pb pn il ib im l_a q_a) H → va_S (cAd ad) s.heap H locs → lv_has ls 14 [(0, .ref (ad 25)), (4, .int y4), (5, .int y5), (6, .long x6), (8, .long x8), (10, .int x10)] → W p l e (rmS 2 43) s m args below meth c H locs 0 0 Q (F0 m 41 ls []) := by
  obtain ⟨hx, hb, hml, hrt, hlocks, hown, hts, hk⟩ := C
  intro n
  induction n with
  | zero =>
    intro x6 x8 x10 H locs ls hf
    exact absurd hf.1 (Nat.lt_irrefl 0)
  | succ n ih =>
    intro x6 x8 x10 H locs ls hf hr hP hS hl
    rw [F_X3_nextOnWay_41] at hr
    refine lv_iload hx hb dX3_nextOnWay_41 (lv_at hl 5 rfl) ?_
    refine lv_bipush (v := 40) hx hb dX3_nextOnWay_43 (by decide) ?_
    refine lv_icmp_ge (tgt := 173) hx hb dX3_nextOnWay_45 (by decide) (fun c45 => ?_) (fun c45 => ?_)
    · have hr := (if_pos c45).symm.trans hr
      exact h0 x6 _ _ _ hr hP hS (lv_sub hl [3] rfl)
    · have hr := (if_neg c45).symm.trans hr
      refine lv_lload hx hb dX3_nextOnWay_48 (lv_at hl 4 rfl) ?_
      refine lv_lconst (v := 0) hx hb dX3_nextOnWay_50 (by decide) ?_
      refine W.lcmp hx hb dX3_nextOnWay_51 ?_
      refine lv_if_eq (tgt := 173) hx hb dX3_nextOnWay_52 (by decide) (fun c52 => ?_) (fun c52 => ?_)
      · have hr := (if_pos c52).symm.trans hr
        exact h0 x6 _ _ _ hr hP hS (lv_sub hl [3] rfl)
      · have hr := (if_neg c52).symm.trans hr
        refine lv_lload hx hb dX3_nextOnWay_55 (lv_at hl 4 rfl) ?_
        refine go_i (ru_S (n := 1) ⟨hx, hb, hml, hown, hts⟩ hk hP (c_J13_numberOfTrailingZeros_95d88 l D cI cL cZ (cAd ad) (cw ad cI cL cZ c_sr t_n t_r t_w s_w s_h s_c s_p s_s p_nx p_sz r_k r_r r_p l_z q_z t_t b_l b_b b_n r_t l_l l_b l_n q_l q_b q_n t_le s_cs s_ps s_ha s_en pk ik s_ro s_me s_be s_se s_co pl pb pn il ib im l_a q_a) x8 _ rfl) (va_cwS 1 hts (gS q3_48 q3_28 q1_13 q3_29) rfl rfl rfl hd_J13_numberOfTrailingZeros_95d88 ⟨Nat.le_of_ble_eq_true rfl, Nat.le_of_ble_eq_true rfl⟩) rfl hl.1 rfl (Nat.le_of_ble_eq_true rfl) dX3_nextOnWay_57 ⟨Nat.zero_le _, Nat.zero_le _⟩) hS (fun _ h => h) (fun H locs hP hS => ?_)
        have hP : va_P D vwCl (cw ad cI cL cZ c_sr t_n t_r t_w s_w s_h s_c s_p s_s p_nx p_sz r_k r_r r_p l_z q_z t_t b_l b_b b_n r_t l_l l_b l_n q_l q_b q_n t_le s_cs s_ps s_ha s_en pk ik s_ro s_me s_be s_se s_co pl pb pn il ib im l_a q_a) H := hP
        refine lv_istore (lv' := [(11, .int (f_J13_numberOfTrailingZeros_95d88 x8)), (0, .ref (ad 25)), (4, .int y4), (5, .int y5), (6, .long x6), (8, .long x8), (10, .int x10)]) hx hb dX3_nextOnWay_60 hl (by decide) rfl (fun ls hl => ?_)
        refine lv_lload hx hb dX3_nextOnWay_62 (lv_at hl 5 rfl) ?_
        refine lv_iload hx hb dX3_nextOnWay_64 (lv_at hl 0 rfl) ?_
        refine go_l (ru_N (n := 1) ⟨hx, hb, hml, hown, hts⟩ hk hP (c_X7_bit l D cI cL cZ (cAd ad) (cw ad cI cL cZ c_sr t_n t_r t_w s_w s_h s_c s_p s_s p_nx p_sz r_k r_r r_p l_z q_z t_t b_l b_b b_n r_t l_l l_b l_n q_l q_b q_n t_le s_cs s_ps s_ha s_en pk ik s_ro s_me s_be s_se s_co pl pb pn il ib im l_a q_a) (f_J13_numberOfTrailingZeros_95d88 x8) _ rfl) ⟨va_cnB 1 hts (gN q2_20) rfl rfl rfl (hk.2 _ nwm_X3_105) (hts _ q1_1) hd_X7_bit ⟨Nat.le_of_ble_eq_true rfl, Nat.le_of_ble_eq_true rfl⟩, hts _ q2_19, trivial⟩ rfl hl.1 rfl (Nat.le_of_ble_eq_true rfl) dX3_nextOnWay_66 ⟨Nat.zero_le _, Nat.zero_le _⟩) hS (fun _ h => h) (fun H locs hP hS => ?_)
        have hP : va_P D vwCl (cw ad cI cL cZ c_sr t_n t_r t_w s_w s_h s_c s_p s_s p_nx p_sz r_k r_r r_p l_z q_z t_t b_l b_b b_n r_t l_l l_b l_n q_l q_b q_n t_le s_cs s_ps s_ha s_en pk ik s_ro s_me s_be s_se s_co pl pb pn il ib im l_a q_a) H := hP
        refine lv_ldc2 hx hb hown (hts _ q3_2) dX3_nextOnWay_69 ?_
        refine lv_lxor hx hb dX3_nextOnWay_72 ?_
        refine lv_land hx hb dX3_nextOnWay_73 ?_
        refine lv_lstore (lv' := [(8, .long (x8 &&& ((f_X7_bit (f_J13_numberOfTrailingZeros_95d88 x8)) ^^^ ((-1))))), (11, .int (f_J13_numberOfTrailingZeros_95d88 x8)), (0, .ref (ad 25)), (4, .int y4), (5, .int y5), (6, .long x6), (10, .int x10)]) hx hb dX3_nextOnWay_74 hl (by decide) rfl (fun ls hl => ?_)
        refine lv_aload_n hx hb dX3_nextOnWay_76 rfl (lv_at hl 2 rfl) ?_
        refine va_get (D := D) (ci := 3) (v := .ref (ad 3)) (C := RX3) (T := TX3) (N := 6) hx hb hts u_X3 hown hk.1 hP 25 rfl rfl 0 (by decide) (hts _ q1_179) (fun _ h9 => h9) rfl dX3_nextOnWay_77 ?_
        refine lv_iload hx hb dX3_nextOnWay_80 (lv_at hl 1 rfl) ?_
        refine lv_iconst (v := 0) hx hb dX3_nextOnWay_82 (by decide) ?_
        refine go_i (ru_V (n := 2) ⟨hx, hb, hml, hown, hts⟩ hk hP (c_X4_hand l D cI cL cZ ad c_sr t_n t_r t_w s_w s_h s_c s_p s_s p_nx p_sz r_k r_r r_p l_z q_z t_t b_l b_b b_n r_t l_l l_b l_n q_l q_b q_n t_le s_cs s_ps s_ha s_en pk ik s_ro s_me s_be s_se s_co pl pb pn il ib im l_a q_a hAd (f_J13_numberOfTrailingZeros_95d88 x8) 0 _ rfl) (cwV 2 hts (gV q3_62 q2_32 q2_33 q1_3 q2_34) rfl rfl rfl hd_X4_hand ⟨Nat.le_of_ble_eq_true rfl, Nat.le_of_ble_eq_true rfl⟩) (va_recv hk.1 hP (ci := 4) (q0 := 3) rfl rfl) rfl hl.1 rfl (Nat.le_of_ble_eq_true rfl) dX3_nextOnWay_83 ⟨Nat.zero_le _, Nat.zero_le _⟩) hS (fun _ h => h) (fun H locs hP hS => ?_)
        have hP : va_P D vwCl (cw ad cI cL cZ c_sr t_n t_r t_w s_w s_h s_c s_p s_s p_nx p_sz r_k r_r r_p l_z q_z t_t b_l b_b b_n r_t l_l l_b l_n q_l q_b q_n t_le s_cs s_ps s_ha s_en pk ik s_ro s_me s_be s_se s_co pl pb pn il ib im l_a q_a) H := hP
        refine lv_iload hx hb dX3_nextOnWay_86 (lv_at hl 3 rfl) ?_
        refine lv_icmp_ne (tgt := 104) hx hb dX3_nextOnWay_88 (by decide) (fun c88 => ?_) (fun c88 => ?_)
        · have hr := (if_neg c88).symm.trans hr
          refine lv_aload_n hx hb dX3_nextOnWay_104 rfl (lv_at hl 2 rfl) ?_
          refine va_get (D := D) (ci := 3) (v := .ref (ad 3)) (C := RX3) (T := TX3) (N := 6) hx hb hts u_X3 hown hk.1 hP 25 rfl rfl 0 (by decide) (hts _ q1_179) (fun _ h9 => h9) rfl dX3_nextOnWay_105 ?_
          refine lv_iload hx hb dX3_nextOnWay_108 (lv_at hl 1 rfl) ?_
          refine lv_iconst (v := 0) hx hb dX3_nextOnWay_110 (by decide) ?_
          refine go_i (ru_V (n := 2) ⟨hx, hb, hml, hown, hts⟩ hk hP (c_X4_hand l D cI cL cZ ad c_sr t_n t_r t_w s_w s_h s_c s_p s_s p_nx p_sz r_k r_r r_p l_z q_z t_t b_l b_b b_n r_t l_l l_b l_n q_l q_b q_n t_le s_cs s_ps s_ha s_en pk ik s_ro s_me s_be s_se s_co pl pb pn il ib im l_a q_a hAd (f_J13_numberOfTrailingZeros_95d88 x8) 0 _ rfl) (cwV 2 hts (gV q3_62 q2_32 q2_33 q1_3 q2_34) rfl rfl rfl hd_X4_hand ⟨Nat.le_of_ble_eq_true rfl, Nat.le_of_ble_eq_true rfl⟩) (va_recv hk.1 hP (ci := 4) (q0 := 3) rfl rfl) rfl hl.1 rfl (Nat.le_of_ble_eq_true rfl) dX3_nextOnWay_111 ⟨Nat.zero_le _, Nat.zero_le _⟩) hS (fun _ h => h) (fun H locs hP hS => ?_)
          have hP : va_P D vwCl (cw ad cI cL cZ c_sr t_n t_r t_w s_w s_h s_c s_p s_s p_nx p_sz r_k r_r r_p l_z q_z t_t b_l b_b b_n r_t l_l l_b l_n q_l q_b q_n t_le s_cs s_ps s_ha s_en pk ik s_ro s_me s_be s_se s_co pl pb pn il ib im l_a q_a) H := hP
          refine lv_istore (lv' := [(12, .int (f_X4_hand (f_J13_numberOfTrailingZeros_95d88 x8) 0 s_ha)), (8, .long (x8 &&& ((f_X7_bit (f_J13_numberOfTrailingZeros_95d88 x8)) ^^^ ((-1))))), (11, .int (f_J13_numberOfTrailingZeros_95d88 x8)), (0, .ref (ad 25)), (4, .int y4), (5, .int y5), (6, .long x6), (10, .int x10)]) hx hb dX3_nextOnWay_114 hl (by decide) rfl (fun ls hl => ?_)
          refine lv_aload_n hx hb dX3_nextOnWay_116 rfl (lv_at hl 3 rfl) ?_
          refine va_get (D := D) (ci := 3) (v := .ref (ad 13)) (C := RX3) (T := TX3) (N := 6) hx hb hts u_X3 hown hk.1 hP 25 rfl rfl 1 (by decide) (hts _ q1_180) (fun _ h9 => h9) rfl dX3_nextOnWay_117 ?_
          refine va_get (D := D) (ci := 0) (v := .long b_l) (C := RX0) (T := TX0) (N := 3) hx hb hts u_X0 hown hk.1 hP 13 rfl rfl 0 (by decide) (hts _ q1_116) (fun _ h9 => h9) rfl dX3_nextOnWay_120 ?_
          refine lv_iload hx hb dX3_nextOnWay_123 (lv_at hl 2 rfl) ?_
          refine go_l (ru_N (n := 1) ⟨hx, hb, hml, hown, hts⟩ hk hP (c_X7_bit l D cI cL cZ (cAd ad) (cw ad cI cL cZ c_sr t_n t_r t_w s_w s_h s_c s_p s_s p_nx p_sz r_k r_r r_p l_z q_z t_t b_l b_b b_n r_t l_l l_b l_n q_l q_b q_n t_le s_cs s_ps s_ha s_en pk ik s_ro s_me s_be s_se s_co pl pb pn il ib im l_a q_a) (f_J13_numberOfTrailingZeros_95d88 x8) _ rfl) ⟨va_cnB 1 hts (gN q2_20) rfl rfl rfl (hk.2 _ nwm_X3_105) (hts _ q1_1) hd_X7_bit ⟨Nat.le_of_ble_eq_true rfl, Nat.le_of_ble_eq_true rfl⟩, hts _ q2_19, trivial⟩ rfl hl.1 rfl (Nat.le_of_ble_eq_true rfl) dX3_nextOnWay_125 ⟨Nat.zero_le _, Nat.zero_le _⟩) hS (fun _ h => h) (fun H locs hP hS => ?_)
          have hP : va_P D vwCl (cw ad cI cL cZ c_sr t_n t_r t_w s_w s_h s_c s_p s_s p_nx p_sz r_k r_r r_p l_z q_z t_t b_l b_b b_n r_t l_l l_b l_n q_l q_b q_n t_le s_cs s_ps s_ha s_en pk ik s_ro s_me s_be s_se s_co pl pb pn il ib im l_a q_a) H := hP
          refine lv_land hx hb dX3_nextOnWay_128 ?_
          refine lv_lconst (v := 0) hx hb dX3_nextOnWay_129 (by decide) ?_
          refine W.lcmp hx hb dX3_nextOnWay_130 ?_
          refine lv_if_eq (tgt := 138) hx hb dX3_nextOnWay_131 (by decide) (fun c131 => ?_) (fun c131 => ?_)
          · have hr := (if_pos c131).symm.trans hr
            refine lv_iconst (v := 0) hx hb dX3_nextOnWay_138 (by decide) ?_
            refine lv_istore (lv' := [(13, .int 0), (12, .int (f_X4_hand (f_J13_numberOfTrailingZeros_95d88 x8) 0 s_ha)), (8, .long (x8 &&& ((f_X7_bit (f_J13_numberOfTrailingZeros_95d88 x8)) ^^^ ((-1))))), (11, .int (f_J13_numberOfTrailingZeros_95d88 x8)), (0, .ref (ad 25)), (4, .int y4), (5, .int y5), (6, .long x6), (10, .int x10)]) hx hb dX3_nextOnWay_139 hl (by decide) rfl (fun ls hl => ?_)
            refine lv_lload hx hb dX3_nextOnWay_141 (lv_at hl 7 rfl) ?_
            refine lv_iload hx hb dX3_nextOnWay_143 (lv_at hl 1 rfl) ?_
            refine lv_iload hx hb dX3_nextOnWay_145 (lv_at hl 0 rfl) ?_
            refine lv_if_eq (tgt := 158) hx hb dX3_nextOnWay_147 (by decide) (fun c147 => ?_) (fun c147 => ?_)
            · refine lv_iload hx hb dX3_nextOnWay_158 (lv_at hl 6 rfl) ?_
              refine lv_iadd hx hb dX3_nextOnWay_160 ?_
              refine go_l (ru_N (n := 1) ⟨hx, hb, hml, hown, hts⟩ hk hP (c_X7_bit l D cI cL cZ (cAd ad) (cw ad cI cL cZ c_sr t_n t_r t_w s_w s_h s_c s_p s_s p_nx p_sz r_k r_r r_p l_z q_z t_t b_l b_b b_n r_t l_l l_b l_n q_l q_b q_n t_le s_cs s_ps s_ha s_en pk ik s_ro s_me s_be s_se s_co pl pb pn il ib im l_a q_a) ((f_X4_hand (f_J13_numberOfTrailingZeros_95d88 x8) 0 s_ha) + y5) _ rfl) ⟨va_cnB 1 hts (gN q2_20) rfl rfl rfl (hk.2 _ nwm_X3_105) (hts _ q1_1) hd_X7_bit ⟨Nat.le_of_ble_eq_true rfl, Nat.le_of_ble_eq_true rfl⟩, hts _ q2_19, trivial⟩ rfl hl.1 rfl (Nat.le_of_ble_eq_true rfl) dX3_nextOnWay_161 ⟨Nat.zero_le _, Nat.zero_le _⟩) hS (fun _ h => h) (fun H locs hP hS => ?_)
              have hP : va_P D vwCl (cw ad cI cL cZ c_sr t_n t_r t_w s_w s_h s_c s_p s_s p_nx p_sz r_k r_r r_p l_z q_z t_t b_l b_b b_n r_t l_l l_b l_n q_l q_b q_n t_le s_cs s_ps s_ha s_en pk ik s_ro s_me s_be s_se s_co pl pb pn il ib im l_a q_a) H := hP
              refine lv_lor hx hb dX3_nextOnWay_164 ?_
              refine lv_topl (fun v1 ev1 => ?_)
              have hr := (bd_eq ev1.symm).symm.trans hr
              refine lv_lstore (lv' := [(6, .long v1), (13, .int 0), (12, .int (f_X4_hand (f_J13_numberOfTrailingZeros_95d88 x8) 0 s_ha)), (8, .long (x8 &&& ((f_X7_bit (f_J13_numberOfTrailingZeros_95d88 x8)) ^^^ ((-1))))), (11, .int (f_J13_numberOfTrailingZeros_95d88 x8)), (0, .ref (ad 25)), (4, .int y4), (5, .int y5), (10, .int x10)]) hx hb dX3_nextOnWay_165 hl (by decide) rfl (fun ls hl => ?_)
              refine lv_iinc (v := x10 + 1) (lv' := [(10, .int (x10 + 1)), (6, .long v1), (13, .int 0), (12, .int (f_X4_hand (f_J13_numberOfTrailingZeros_95d88 x8) 0 s_ha)), (8, .long (x8 &&& ((f_X7_bit (f_J13_numberOfTrailingZeros_95d88 x8)) ^^^ ((-1))))), (11, .int (f_J13_numberOfTrailingZeros_95d88 x8)), (0, .ref (ad 25)), (4, .int y4), (5, .int y5)]) hx hb dX3_nextOnWay_167 hl (k := 8) rfl rfl (by decide) rfl (fun ls hl => ?_)
              refine lv_goto (tgt := 41) hx hb dX3_nextOnWay_170 (by decide) ?_
              exact ih v1 (x8 &&& ((f_X7_bit (f_J13_numberOfTrailingZeros_95d88 x8)) ^^^ ((-1)))) (x10 + 1) _ _ _ (fuU_s hf c45) hr hP hS (lv_sub hl [6, 7, 8, 1, 4, 0] rfl)
            · exact absurd (by decide) c147
          · have hr := (if_neg c131).symm.trans hr
            refine lv_iconst (v := 1) hx hb dX3_nextOnWay_134 (by decide) ?_
            refine lv_goto (tgt := 139) hx hb dX3_nextOnWay_135 (by decide) ?_
            refine lv_istore (lv' := [(13, .int 1), (12, .int (f_X4_hand (f_J13_numberOfTrailingZeros_95d88 x8) 0 s_ha)), (8, .long (x8 &&& ((f_X7_bit (f_J13_numberOfTrailingZeros_95d88 x8)) ^^^ ((-1))))), (11, .int (f_J13_numberOfTrailingZeros_95d88 x8)), (0, .ref (ad 25)), (4, .int y4), (5, .int y5), (6, .long x6), (10, .int x10)]) hx hb dX3_nextOnWay_139 hl (by decide) rfl (fun ls hl => ?_)
            refine lv_lload hx hb dX3_nextOnWay_141 (lv_at hl 7 rfl) ?_
            refine lv_iload hx hb dX3_nextOnWay_143 (lv_at hl 1 rfl) ?_
            refine lv_iload hx hb dX3_nextOnWay_145 (lv_at hl 0 rfl) ?_
            refine lv_if_eq (tgt := 158) hx hb dX3_nextOnWay_147 (by decide) (fun c147 => ?_) (fun c147 => ?_)
            · exact absurd c147 (by decide)
            · refine lv_bipush (v := 32) hx hb dX3_nextOnWay_150 (by decide) ?_
              refine lv_iload hx hb dX3_nextOnWay_152 (lv_at hl 6 rfl) ?_
              refine lv_isub hx hb dX3_nextOnWay_154 ?_
              refine lv_goto (tgt := 160) hx hb dX3_nextOnWay_155 (by decide) ?_
              refine lv_iadd hx hb dX3_nextOnWay_160 ?_
              refine go_l (ru_N (n := 1) ⟨hx, hb, hml, hown, hts⟩ hk hP (c_X7_bit l D cI cL cZ (cAd ad) (cw ad cI cL cZ c_sr t_n t_r t_w s_w s_h s_c s_p s_s p_nx p_sz r_k r_r r_p l_z q_z t_t b_l b_b b_n r_t l_l l_b l_n q_l q_b q_n t_le s_cs s_ps s_ha s_en pk ik s_ro s_me s_be s_se s_co pl pb pn il ib im l_a q_a) ((f_X4_hand (f_J13_numberOfTrailingZeros_95d88 x8) 0 s_ha) + (32 - y5)) _ rfl) ⟨va_cnB 1 hts (gN q2_20) rfl rfl rfl (hk.2 _ nwm_X3_105) (hts _ q1_1) hd_X7_bit ⟨Nat.le_of_ble_eq_true rfl, Nat.le_of_ble_eq_true rfl⟩, hts _ q2_19, trivial⟩ rfl hl.1 rfl (Nat.le_of_ble_eq_true rfl) dX3_nextOnWay_161 ⟨Nat.zero_le _, Nat.zero_le _⟩) hS (fun _ h => h) (fun H locs hP hS => ?_)
              have hP : va_P D vwCl (cw ad cI cL cZ c_sr t_n t_r t_w s_w s_h s_c s_p s_s p_nx p_sz r_k r_r r_p l_z q_z t_t b_l b_b b_n r_t l_l l_b l_n q_l q_b q_n t_le s_cs s_ps s_ha s_en pk ik s_ro s_me s_be s_se s_co pl pb pn il ib im l_a q_a) H := hP
              refine lv_lor hx hb dX3_nextOnWay_164 ?_
              refine lv_topl (fun v2 ev2 => ?_)
              have hr := (bd_eq ev2.symm).symm.trans hr
              refine lv_lstore (lv' := [(6, .long v2), (13, .int 1), (12, .int (f_X4_hand (f_J13_numberOfTrailingZeros_95d88 x8) 0 s_ha)), (8, .long (x8 &&& ((f_X7_bit (f_J13_numberOfTrailingZeros_95d88 x8)) ^^^ ((-1))))), (11, .int (f_J13_numberOfTrailingZeros_95d88 x8)), (0, .ref (ad 25)), (4, .int y4), (5, .int y5), (10, .int x10)]) hx hb dX3_nextOnWay_165 hl (by decide) rfl (fun ls hl => ?_)
              refine lv_iinc (v := x10 + 1) (lv' := [(10, .int (x10 + 1)), (6, .long v2), (13, .int 1), (12, .int (f_X4_hand (f_J13_numberOfTrailingZeros_95d88 x8) 0 s_ha)), (8, .long (x8 &&& ((f_X7_bit (f_J13_numberOfTrailingZeros_95d88 x8)) ^^^ ((-1))))), (11, .int (f_J13_numberOfTrailingZeros_95d88 x8)), (0, .ref (ad 25)), (4, .int y4), (5, .int y5)]) hx hb dX3_nextOnWay_167 hl (k := 8) rfl rfl (by decide) rfl (fun ls hl => ?_)
              refine lv_goto (tgt := 41) hx hb dX3_nextOnWay_170 (by decide) ?_
              exact ih v2 (x8 &&& ((f_X7_bit (f_J13_numberOfTrailingZeros_95d88 x8)) ^^^ ((-1)))) (x10 + 1) _ _ _ (fuU_s hf c45) hr hP hS (lv_sub hl [6, 7, 8, 1, 4, 0] rfl)
        · have hr := (if_pos c88).symm.trans hr
          refine lv_aload_n hx hb dX3_nextOnWay_91 rfl (lv_at hl 2 rfl) ?_
          refine va_get (D := D) (ci := 3) (v := .ref (ad 3)) (C := RX3) (T := TX3) (N := 6) hx hb hts u_X3 hown hk.1 hP 25 rfl rfl 0 (by decide) (hts _ q1_179) (fun _ h9 => h9) rfl dX3_nextOnWay_92 ?_
          refine lv_iload hx hb dX3_nextOnWay_95 (lv_at hl 1 rfl) ?_
          refine lv_iconst (v := 1) hx hb dX3_nextOnWay_97 (by decide) ?_
          refine go_i (ru_V (n := 2) ⟨hx, hb, hml, hown, hts⟩ hk hP (c_X4_hand l D cI cL cZ ad c_sr t_n t_r t_w s_w s_h s_c s_p s_s p_nx p_sz r_k r_r r_p l_z q_z t_t b_l b_b b_n r_t l_l l_b l_n q_l q_b q_n t_le s_cs s_ps s_ha s_en pk ik s_ro s_me s_be s_se s_co pl pb pn il ib im l_a q_a hAd (f_J13_numberOfTrailingZeros_95d88 x8) 1 _ rfl) (cwV 2 hts (gV q3_62 q2_32 q2_33 q1_3 q2_34) rfl rfl rfl hd_X4_hand ⟨Nat.le_of_ble_eq_true rfl, Nat.le_of_ble_eq_true rfl⟩) (va_recv hk.1 hP (ci := 4) (q0 := 3) rfl rfl) rfl hl.1 rfl (Nat.le_of_ble_eq_true rfl) dX3_nextOnWay_98 ⟨Nat.zero_le _, Nat.zero_le _⟩) hS (fun _ h => h) (fun H locs hP hS => ?_)
          have hP : va_P D vwCl (cw ad cI cL cZ c_sr t_n t_r t_w s_w s_h s_c s_p s_s p_nx p_sz r_k r_r r_p l_z q_z t_t b_l b_b b_n r_t l_l l_b l_n q_l q_b q_n t_le s_cs s_ps s_ha s_en pk ik s_ro s_me s_be s_se s_co pl pb pn il ib im l_a q_a) H := hP
          refine lv_goto (tgt := 114) hx hb dX3_nextOnWay_101 (by decide) ?_
          refine lv_istore (lv' := [(12, .int (f_X4_hand (f_J13_numberOfTrailingZeros_95d88 x8) 1 s_ha)), (8, .long (x8 &&& ((f_X7_bit (f_J13_numberOfTrailingZeros_95d88 x8)) ^^^ ((-1))))), (11, .int (f_J13_numberOfTrailingZeros_95d88 x8)), (0, .ref (ad 25)), (4, .int y4), (5, .int y5), (6, .long x6), (10, .int x10)]) hx hb dX3_nextOnWay_114 hl (by decide) rfl (fun ls hl => ?_)
          refine lv_aload_n hx hb dX3_nextOnWay_116 rfl (lv_at hl 3 rfl) ?_
          refine va_get (D := D) (ci := 3) (v := .ref (ad 13)) (C := RX3) (T := TX3) (N := 6) hx hb hts u_X3 hown hk.1 hP 25 rfl rfl 1 (by decide) (hts _ q1_180) (fun _ h9 => h9) rfl dX3_nextOnWay_117 ?_
          refine va_get (D := D) (ci := 0) (v := .long b_l) (C := RX0) (T := TX0) (N := 3) hx hb hts u_X0 hown hk.1 hP 13 rfl rfl 0 (by decide) (hts _ q1_116) (fun _ h9 => h9) rfl dX3_nextOnWay_120 ?_
          refine lv_iload hx hb dX3_nextOnWay_123 (lv_at hl 2 rfl) ?_
          refine go_l (ru_N (n := 1) ⟨hx, hb, hml, hown, hts⟩ hk hP (c_X7_bit l D cI cL cZ (cAd ad) (cw ad cI cL cZ c_sr t_n t_r t_w s_w s_h s_c s_p s_s p_nx p_sz r_k r_r r_p l_z q_z t_t b_l b_b b_n r_t l_l l_b l_n q_l q_b q_n t_le s_cs s_ps s_ha s_en pk ik s_ro s_me s_be s_se s_co pl pb pn il ib im l_a q_a) (f_J13_numberOfTrailingZeros_95d88 x8) _ rfl) ⟨va_cnB 1 hts (gN q2_20) rfl rfl rfl (hk.2 _ nwm_X3_105) (hts _ q1_1) hd_X7_bit ⟨Nat.le_of_ble_eq_true rfl, Nat.le_of_ble_eq_true rfl⟩, hts _ q2_19, trivial⟩ rfl hl.1 rfl (Nat.le_of_ble_eq_true rfl) dX3_nextOnWay_125 ⟨Nat.zero_le _, Nat.zero_le _⟩) hS (fun _ h => h) (fun H locs hP hS => ?_)
          have hP : va_P D vwCl (cw ad cI cL cZ c_sr t_n t_r t_w s_w s_h s_c s_p s_s p_nx p_sz r_k r_r r_p l_z q_z t_t b_l b_b b_n r_t l_l l_b l_n q_l q_b q_n t_le s_cs s_ps s_ha s_en pk ik s_ro s_me s_be s_se s_co pl pb pn il ib im l_a q_a) H := hP
          refine lv_land hx hb dX3_nextOnWay_128 ?_
          refine lv_lconst (v := 0) hx hb dX3_nextOnWay_129 (by decide) ?_
          refine W.lcmp hx hb dX3_nextOnWay_130 ?_
          refine lv_if_eq (tgt := 138) hx hb dX3_nextOnWay_131 (by decide) (fun c131 => ?_) (fun c131 => ?_)
          · have hr := (if_pos c131).symm.trans hr
            refine lv_iconst (v := 0) hx hb dX3_nextOnWay_138 (by decide) ?_
            refine lv_istore (lv' := [(13, .int 0), (12, .int (f_X4_hand (f_J13_numberOfTrailingZeros_95d88 x8) 1 s_ha)), (8, .long (x8 &&& ((f_X7_bit (f_J13_numberOfTrailingZeros_95d88 x8)) ^^^ ((-1))))), (11, .int (f_J13_numberOfTrailingZeros_95d88 x8)), (0, .ref (ad 25)), (4, .int y4), (5, .int y5), (6, .long x6), (10, .int x10)]) hx hb dX3_nextOnWay_139 hl (by decide) rfl (fun ls hl => ?_)
            refine lv_lload hx hb dX3_nextOnWay_141 (lv_at hl 7 rfl) ?_
            refine lv_iload hx hb dX3_nextOnWay_143 (lv_at hl 1 rfl) ?_
            refine lv_iload hx hb dX3_nextOnWay_145 (lv_at hl 0 rfl) ?_
            refine lv_if_eq (tgt := 158) hx hb dX3_nextOnWay_147 (by decide) (fun c147 => ?_) (fun c147 => ?_)
            · refine lv_iload hx hb dX3_nextOnWay_158 (lv_at hl 6 rfl) ?_
              refine lv_iadd hx hb dX3_nextOnWay_160 ?_
              refine go_l (ru_N (n := 1) ⟨hx, hb, hml, hown, hts⟩ hk hP (c_X7_bit l D cI cL cZ (cAd ad) (cw ad cI cL cZ c_sr t_n t_r t_w s_w s_h s_c s_p s_s p_nx p_sz r_k r_r r_p l_z q_z t_t b_l b_b b_n r_t l_l l_b l_n q_l q_b q_n t_le s_cs s_ps s_ha s_en pk ik s_ro s_me s_be s_se s_co pl pb pn il ib im l_a q_a) ((f_X4_hand (f_J13_numberOfTrailingZeros_95d88 x8) 1 s_ha) + y5) _ rfl) ⟨va_cnB 1 hts (gN q2_20) rfl rfl rfl (hk.2 _ nwm_X3_105) (hts _ q1_1) hd_X7_bit ⟨Nat.le_of_ble_eq_true rfl, Nat.le_of_ble_eq_true rfl⟩, hts _ q2_19, trivial⟩ rfl hl.1 rfl (Nat.le_of_ble_eq_true rfl) dX3_nextOnWay_161 ⟨Nat.zero_le _, Nat.zero_le _⟩) hS (fun _ h => h) (fun H locs hP hS => ?_)
              have hP : va_P D vwCl (cw ad cI cL cZ c_sr t_n t_r t_w s_w s_h s_c s_p s_s p_nx p_sz r_k r_r r_p l_z q_z t_t b_l b_b b_n r_t l_l l_b l_n q_l q_b q_n t_le s_cs s_ps s_ha s_en pk ik s_ro s_me s_be s_se s_co pl pb pn il ib im l_a q_a) H := hP
              refine lv_lor hx hb dX3_nextOnWay_164 ?_
              refine lv_topl (fun v3 ev3 => ?_)
              have hr := (bd_eq ev3.symm).symm.trans hr
              refine lv_lstore (lv' := [(6, .long v3), (13, .int 0), (12, .int (f_X4_hand (f_J13_numberOfTrailingZeros_95d88 x8) 1 s_ha)), (8, .long (x8 &&& ((f_X7_bit (f_J13_numberOfTrailingZeros_95d88 x8)) ^^^ ((-1))))), (11, .int (f_J13_numberOfTrailingZeros_95d88 x8)), (0, .ref (ad 25)), (4, .int y4), (5, .int y5), (10, .int x10)]) hx hb dX3_nextOnWay_165 hl (by decide) rfl (fun ls hl => ?_)
              refine lv_iinc (v := x10 + 1) (lv' := [(10, .int (x10 + 1)), (6, .long v3), (13, .int 0), (12, .int (f_X4_hand (f_J13_numberOfTrailingZeros_95d88 x8) 1 s_ha)), (8, .long (x8 &&& ((f_X7_bit (f_J13_numberOfTrailingZeros_95d88 x8)) ^^^ ((-1))))), (11, .int (f_J13_numberOfTrailingZeros_95d88 x8)), (0, .ref (ad 25)), (4, .int y4), (5, .int y5)]) hx hb dX3_nextOnWay_167 hl (k := 8) rfl rfl (by decide) rfl (fun ls hl => ?_)
              refine lv_goto (tgt := 41) hx hb dX3_nextOnWay_170 (by decide) ?_
              exact ih v3 (x8 &&& ((f_X7_bit (f_J13_numberOfTrailingZeros_95d88 x8)) ^^^ ((-1)))) (x10 + 1) _ _ _ (fuU_s hf c45) hr hP hS (lv_sub hl [6, 7, 8, 1, 4, 0] rfl)
            · exact absurd (by decide) c147
          · have hr := (if_neg c131).symm.trans hr
            refine lv_iconst (v := 1) hx hb dX3_nextOnWay_134 (by decide) ?_
            refine lv_goto (tgt := 139) hx hb dX3_nextOnWay_135 (by decide) ?_
            refine lv_istore (lv' := [(13, .int 1), (12, .int (f_X4_hand (f_J13_numberOfTrailingZeros_95d88 x8) 1 s_ha)), (8, .long (x8 &&& ((f_X7_bit (f_J13_numberOfTrailingZeros_95d88 x8)) ^^^ ((-1))))), (11, .int (f_J13_numberOfTrailingZeros_95d88 x8)), (0, .ref (ad 25)), (4, .int y4), (5, .int y5), (6, .long x6), (10, .int x10)]) hx hb dX3_nextOnWay_139 hl (by decide) rfl (fun ls hl => ?_)
            refine lv_lload hx hb dX3_nextOnWay_141 (lv_at hl 7 rfl) ?_
            refine lv_iload hx hb dX3_nextOnWay_143 (lv_at hl 1 rfl) ?_
            refine lv_iload hx hb dX3_nextOnWay_145 (lv_at hl 0 rfl) ?_
            refine lv_if_eq (tgt := 158) hx hb dX3_nextOnWay_147 (by decide) (fun c147 => ?_) (fun c147 => ?_)
            · exact absurd c147 (by decide)
            · refine lv_bipush (v := 32) hx hb dX3_nextOnWay_150 (by decide) ?_
              refine lv_iload hx hb dX3_nextOnWay_152 (lv_at hl 6 rfl) ?_
              refine lv_isub hx hb dX3_nextOnWay_154 ?_
              refine lv_goto (tgt := 160) hx hb dX3_nextOnWay_155 (by decide) ?_
              refine lv_iadd hx hb dX3_nextOnWay_160 ?_
              refine go_l (ru_N (n := 1) ⟨hx, hb, hml, hown, hts⟩ hk hP (c_X7_bit l D cI cL cZ (cAd ad) (cw ad cI cL cZ c_sr t_n t_r t_w s_w s_h s_c s_p s_s p_nx p_sz r_k r_r r_p l_z q_z t_t b_l b_b b_n r_t l_l l_b l_n q_l q_b q_n t_le s_cs s_ps s_ha s_en pk ik s_ro s_me s_be s_se s_co pl pb pn il ib im l_a q_a) ((f_X4_hand (f_J13_numberOfTrailingZeros_95d88 x8) 1 s_ha) + (32 - y5)) _ rfl) ⟨va_cnB 1 hts (gN q2_20) rfl rfl rfl (hk.2 _ nwm_X3_105) (hts _ q1_1) hd_X7_bit ⟨Nat.le_of_ble_eq_true rfl, Nat.le_of_ble_eq_true rfl⟩, hts _ q2_19, trivial⟩ rfl hl.1 rfl (Nat.le_of_ble_eq_true rfl) dX3_nextOnWay_161 ⟨Nat.zero_le _, Nat.zero_le _⟩) hS (fun _ h => h) (fun H locs hP hS => ?_)
              have hP : va_P D vwCl (cw ad cI cL cZ c_sr t_n t_r t_w s_w s_h s_c s_p s_s p_nx p_sz r_k r_r r_p l_z q_z t_t b_l b_b b_n r_t l_l l_b l_n q_l q_b q_n t_le s_cs s_ps s_ha s_en pk ik s_ro s_me s_be s_se s_co pl pb pn il ib im l_a q_a) H := hP
              refine lv_lor hx hb dX3_nextOnWay_164 ?_
              refine lv_topl (fun v4 ev4 => ?_)
              have hr := (bd_eq ev4.symm).symm.trans hr
              refine lv_lstore (lv' := [(6, .long v4), (13, .int 1), (12, .int (f_X4_hand (f_J13_numberOfTrailingZeros_95d88 x8) 1 s_ha)), (8, .long (x8 &&& ((f_X7_bit (f_J13_numberOfTrailingZeros_95d88 x8)) ^^^ ((-1))))), (11, .int (f_J13_numberOfTrailingZeros_95d88 x8)), (0, .ref (ad 25)), (4, .int y4), (5, .int y5), (10, .int x10)]) hx hb dX3_nextOnWay_165 hl (by decide) rfl (fun ls hl => ?_)
              refine lv_iinc (v := x10 + 1) (lv' := [(10, .int (x10 + 1)), (6, .long v4), (13, .int 1), (12, .int (f_X4_hand (f_J13_numberOfTrailingZeros_95d88 x8) 1 s_ha)), (8, .long (x8 &&& ((f_X7_bit (f_J13_numberOfTrailingZeros_95d88 x8)) ^^^ ((-1))))), (11, .int (f_J13_numberOfTrailingZeros_95d88 x8)), (0, .ref (ad 25)), (4, .int y4), (5, .int y5)]) hx hb dX3_nextOnWay_167 hl (k := 8) rfl rfl (by decide) rfl (fun ls hl => ?_)
              refine lv_goto (tgt := 41) hx hb dX3_nextOnWay_170 (by decide) ?_
              exact ih v4 (x8 &&& ((f_X7_bit (f_J13_numberOfTrailingZeros_95d88 x8)) ^^^ ((-1)))) (x10 + 1) _ _ _ (fuU_s hf c45) hr hP hS (lv_sub hl [6, 7, 8, 1, 4, 0] rfl)
set_option maxHeartbeats 4000000 in
set_option maxRecDepth 100000 in
theorem c_X3_nextOnWay (l : Launch) (D : va_G) (cI cL cZ : ClassId) (ad : Nat → Nat) (c_sr t_n t_r t_w s_w s_h s_c s_p s_s p_nx p_sz r_k r_r r_p l_z q_z : Int32) (t_t b_l b_b b_n r_t l_l l_b l_n q_l q_b q_n : Int64) (t_le s_cs s_ps s_ha s_en pk ik : Nat → Int32) (s_ro s_me s_be s_se s_co pl pb pn il ib im l_a q_a : Nat → Int64) (hAd : cInj ad) (p1 : Int32) (p2 : Int64) (r : Int64) (hr : f_X3_nextOnWay p1 p2 b_l s_ha s_ro = r) : ML l yX3_nextOnWay (Cond.code yX3_nextOnWay cX3_nextOnWay 14 (some .long) :: W0) 2 43 D cI cL cZ (cAd ad) [.ref (ad 25), .int p1, .long p2] (cw ad cI cL cZ c_sr t_n t_r t_w s_w s_h s_c s_p s_s p_nx p_sz r_k r_r r_p l_z q_z t_t b_l b_b b_n r_t l_l l_b l_n q_l q_b q_n t_le s_cs s_ps s_ha s_en pk ik s_ro s_me s_be s_se s_co pl pb pn il ib im l_a q_a) r (cw ad cI cL cZ c_sr t_n t_r t_w s_w s_h s_c s_p s_s p_nx p_sz r_k r_r r_p l_z q_z t_t b_l b_b b_n r_t l_l l_b l_n q_l q_b q_n t_le s_cs s_ps s_ha s_en pk ik s_ro s_me s_be s_se s_co pl pb pn il ib im l_a q_a) := by
  refine mk_start (cc := cX3_nextOnWay) (maxL := 14) (ret := (some .long)) (by decide) rfl (Nat.le_of_ble_eq_true rfl) ?_
  intro p e s m below meth c ls C hP hS hl
  obtain ⟨hx, hb, hml, hrt, hlocks, hown, hts, hk⟩ := C
  have hown : s.vm.findClass RX3 = some m.cls := hown
  have hl : lv_has ls 14 [(0, .ref (ad 25)), (1, .int p1), (2, .long p2)] := hl
  rw [f_X3_nextOnWay] at hr
  refine lv_iload_n hx hb dX3_nextOnWay_0 rfl (lv_at hl 1 rfl) ?_
  refine lv_bipush (v := 32) hx hb dX3_nextOnWay_1 (by decide) ?_
  refine lv_icmp_ge (tgt := 10) hx hb dX3_nextOnWay_3 (by decide) (fun c3 => ?_) (fun c3 => ?_)
  · have hr := (if_pos c3).symm.trans hr
    refine lv_iload_n hx hb dX3_nextOnWay_10 rfl (lv_at hl 1 rfl) ?_
    refine lv_bipush (v := 32) hx hb dX3_nextOnWay_11 (by decide) ?_
    refine lv_isub hx hb dX3_nextOnWay_13 ?_
    refine lv_istore (lv' := [(4, .int (p1 - 32)), (0, .ref (ad 25)), (1, .int p1), (2, .long p2)]) hx hb dX3_nextOnWay_14 hl (by decide) rfl (fun ls hl => ?_)
    refine lv_iload_n hx hb dX3_nextOnWay_16 rfl (lv_at hl 2 rfl) ?_
    refine lv_iload hx hb dX3_nextOnWay_17 (lv_at hl 0 rfl) ?_
    refine lv_isub hx hb dX3_nextOnWay_19 ?_
    refine lv_istore (lv' := [(5, .int (p1 - (p1 - 32))), (4, .int (p1 - 32)), (0, .ref (ad 25)), (1, .int p1), (2, .long p2)]) hx hb dX3_nextOnWay_20 hl (by decide) rfl (fun ls hl => ?_)
    refine lv_lconst (v := 0) hx hb dX3_nextOnWay_22 (by decide) ?_
    refine lv_lstore (lv' := [(6, .long 0), (5, .int (p1 - (p1 - 32))), (4, .int (p1 - 32)), (0, .ref (ad 25)), (1, .int p1), (2, .long p2)]) hx hb dX3_nextOnWay_23 hl (by decide) rfl (fun ls hl => ?_)
    refine lv_aload_n hx hb dX3_nextOnWay_25 rfl (lv_at hl 3 rfl) ?_
    refine va_get (D := D) (ci := 3) (v := .ref (ad 3)) (C := RX3) (T := TX3) (N := 6) hx hb hts u_X3 hown hk.1 hP 25 rfl rfl 0 (by decide) (hts _ q1_179) (fun _ h9 => h9) rfl dX3_nextOnWay_26 ?_
    refine lv_iload hx hb dX3_nextOnWay_29 (lv_at hl 2 rfl) ?_
    refine go_l (ru_V (n := 1) ⟨hx, hb, hml, hown, hts⟩ hk hP (c_X4_roundCell l D cI cL cZ ad c_sr t_n t_r t_w s_w s_h s_c s_p s_s p_nx p_sz r_k r_r r_p l_z q_z t_t b_l b_b b_n r_t l_l l_b l_n q_l q_b q_n t_le s_cs s_ps s_ha s_en pk ik s_ro s_me s_be s_se s_co pl pb pn il ib im l_a q_a hAd (p1 - 32) _ rfl) (cwV 1 hts (gV q2_233 q2_15 q2_16 q1_3 q2_17) rfl rfl rfl hd_X4_roundCell ⟨Nat.le_of_ble_eq_true rfl, Nat.le_of_ble_eq_true rfl⟩) (va_recv hk.1 hP (ci := 4) (q0 := 3) rfl rfl) rfl hl.1 rfl (Nat.le_of_ble_eq_true rfl) dX3_nextOnWay_31 ⟨Nat.zero_le _, Nat.zero_le _⟩) hS (fun _ h => h) (fun H locs hP hS => ?_)
    have hP : va_P D vwCl (cw ad cI cL cZ c_sr t_n t_r t_w s_w s_h s_c s_p s_s p_nx p_sz r_k r_r r_p l_z q_z t_t b_l b_b b_n r_t l_l l_b l_n q_l q_b q_n t_le s_cs s_ps s_ha s_en pk ik s_ro s_me s_be s_se s_co pl pb pn il ib im l_a q_a) H := hP
    refine lv_lload_n hx hb dX3_nextOnWay_34 rfl (lv_at hl 5 rfl) ?_
    refine lv_land hx hb dX3_nextOnWay_35 ?_
    refine lv_lstore (lv' := [(8, .long ((f_X4_roundCell (p1 - 32) s_ro) &&& p2)), (6, .long 0), (5, .int (p1 - (p1 - 32))), (4, .int (p1 - 32)), (0, .ref (ad 25)), (1, .int p1), (2, .long p2)]) hx hb dX3_nextOnWay_36 hl (by decide) rfl (fun ls hl => ?_)
    refine lv_iconst (v := 0) hx hb dX3_nextOnWay_38 (by decide) ?_
    refine lv_istore (lv' := [(10, .int 0), (8, .long ((f_X4_roundCell (p1 - 32) s_ro) &&& p2)), (6, .long 0), (5, .int (p1 - (p1 - 32))), (4, .int (p1 - 32)), (0, .ref (ad 25)), (1, .int p1), (2, .long p2)]) hx hb dX3_nextOnWay_39 hl (by decide) rfl (fun ls hl => ?_)
    refine lp_X3_nextOnWay_41 l D cI cL cZ ad c_sr t_n t_r t_w s_w s_h s_c s_p s_s p_nx p_sz r_k r_r r_p l_z q_z t_t b_l b_b b_n r_t l_l l_b l_n q_l q_b q_n t_le s_cs s_ps s_ha s_en pk ik s_ro s_me s_be s_se s_co pl pb pn il ib im l_a q_a ⟨hx, hb, hml, hrt, hlocks, hown, hts, hk⟩ hAd (p1 - 32) (p1 - (p1 - 32)) _ _ (fun z5 H locs ls hr hP hS hl => ?_) (fu 40 (0 : Int32)) 0 ((f_X4_roundCell (p1 - 32) s_ro) &&& p2) 0 _ _ _ (fuU_0 (by decide)) hr hP hS (lv_sub hl [5, 4, 3, 2, 1, 0] rfl)
    refine lv_lload hx hb dX3_nextOnWay_173 (lv_at hl 0 rfl) ?_
    subst hr
    exact ret_l hx hb hrt hlocks hP hS dX3_nextOnWay_175
  · have hr := (if_neg c3).symm.trans hr
    refine lv_iload_n hx hb dX3_nextOnWay_6 rfl (lv_at hl 1 rfl) ?_
    refine lv_goto (tgt := 14) hx hb dX3_nextOnWay_7 (by decide) ?_
    refine lv_istore (lv' := [(4, .int p1), (0, .ref (ad 25)), (1, .int p1), (2, .long p2)]) hx hb dX3_nextOnWay_14 hl (by decide) rfl (fun ls hl => ?_)
    refine lv_iload_n hx hb dX3_nextOnWay_16 rfl (lv_at hl 2 rfl) ?_
    refine lv_iload hx hb dX3_nextOnWay_17 (lv_at hl 0 rfl) ?_
    refine lv_isub hx hb dX3_nextOnWay_19 ?_
    refine lv_istore (lv' := [(5, .int (p1 - p1)), (4, .int p1), (0, .ref (ad 25)), (1, .int p1), (2, .long p2)]) hx hb dX3_nextOnWay_20 hl (by decide) rfl (fun ls hl => ?_)
    refine lv_lconst (v := 0) hx hb dX3_nextOnWay_22 (by decide) ?_
    refine lv_lstore (lv' := [(6, .long 0), (5, .int (p1 - p1)), (4, .int p1), (0, .ref (ad 25)), (1, .int p1), (2, .long p2)]) hx hb dX3_nextOnWay_23 hl (by decide) rfl (fun ls hl => ?_)
    refine lv_aload_n hx hb dX3_nextOnWay_25 rfl (lv_at hl 3 rfl) ?_
    refine va_get (D := D) (ci := 3) (v := .ref (ad 3)) (C := RX3) (T := TX3) (N := 6) hx hb hts u_X3 hown hk.1 hP 25 rfl rfl 0 (by decide) (hts _ q1_179) (fun _ h9 => h9) rfl dX3_nextOnWay_26 ?_
    refine lv_iload hx hb dX3_nextOnWay_29 (lv_at hl 2 rfl) ?_
    refine go_l (ru_V (n := 1) ⟨hx, hb, hml, hown, hts⟩ hk hP (c_X4_roundCell l D cI cL cZ ad c_sr t_n t_r t_w s_w s_h s_c s_p s_s p_nx p_sz r_k r_r r_p l_z q_z t_t b_l b_b b_n r_t l_l l_b l_n q_l q_b q_n t_le s_cs s_ps s_ha s_en pk ik s_ro s_me s_be s_se s_co pl pb pn il ib im l_a q_a hAd p1 _ rfl) (cwV 1 hts (gV q2_233 q2_15 q2_16 q1_3 q2_17) rfl rfl rfl hd_X4_roundCell ⟨Nat.le_of_ble_eq_true rfl, Nat.le_of_ble_eq_true rfl⟩) (va_recv hk.1 hP (ci := 4) (q0 := 3) rfl rfl) rfl hl.1 rfl (Nat.le_of_ble_eq_true rfl) dX3_nextOnWay_31 ⟨Nat.zero_le _, Nat.zero_le _⟩) hS (fun _ h => h) (fun H locs hP hS => ?_)
    have hP : va_P D vwCl (cw ad cI cL cZ c_sr t_n t_r t_w s_w s_h s_c s_p s_s p_nx p_sz r_k r_r r_p l_z q_z t_t b_l b_b b_n r_t l_l l_b l_n q_l q_b q_n t_le s_cs s_ps s_ha s_en pk ik s_ro s_me s_be s_se s_co pl pb pn il ib im l_a q_a) H := hP
    refine lv_lload_n hx hb dX3_nextOnWay_34 rfl (lv_at hl 5 rfl) ?_
    refine lv_land hx hb dX3_nextOnWay_35 ?_
    refine lv_lstore (lv' := [(8, .long ((f_X4_roundCell p1 s_ro) &&& p2)), (6, .long 0), (5, .int (p1 - p1)), (4, .int p1), (0, .ref (ad 25)), (1, .int p1), (2, .long p2)]) hx hb dX3_nextOnWay_36 hl (by decide) rfl (fun ls hl => ?_)
    refine lv_iconst (v := 0) hx hb dX3_nextOnWay_38 (by decide) ?_
    refine lv_istore (lv' := [(10, .int 0), (8, .long ((f_X4_roundCell p1 s_ro) &&& p2)), (6, .long 0), (5, .int (p1 - p1)), (4, .int p1), (0, .ref (ad 25)), (1, .int p1), (2, .long p2)]) hx hb dX3_nextOnWay_39 hl (by decide) rfl (fun ls hl => ?_)
    refine lp_X3_nextOnWay_41 l D cI cL cZ ad c_sr t_n t_r t_w s_w s_h s_c s_p s_s p_nx p_sz r_k r_r r_p l_z q_z t_t b_l b_b b_n r_t l_l l_b l_n q_l q_b q_n t_le s_cs s_ps s_ha s_en pk ik s_ro s_me s_be s_se s_co pl pb pn il ib im l_a q_a ⟨hx, hb, hml, hrt, hlocks, hown, hts, hk⟩ hAd p1 (p1 - p1) _ _ (fun z6 H locs ls hr hP hS hl => ?_) (fu 40 (0 : Int32)) 0 ((f_X4_roundCell p1 s_ro) &&& p2) 0 _ _ _ (fuU_0 (by decide)) hr hP hS (lv_sub hl [5, 4, 3, 2, 1, 0] rfl)
    refine lv_lload hx hb dX3_nextOnWay_173 (lv_at hl 0 rfl) ?_
    subst hr
    exact ret_l hx hb hrt hlocks hP hS dX3_nextOnWay_175
theorem hd_X3_waysPast : yX3_waysPast.cls = RX3 ∧ yX3_waysPast.cls ≠ "java/lang/invoke/MethodHandle" ∧ yX3_waysPast.cls ≠ "java/lang/invoke/VarHandle" ∧ (parseMethodDescriptor yX3_waysPast.desc).map (fun d => d.parameters.length) = some 1 := by decide +kernel
def F_X3_waysPast_46 (y2 : Int64) (b_l : Int64) (s_ha : Nat → Int32) (s_ro : Nat → Int64) {β : Type} (k0 : Int64 → β) : Nat → Int64 → Int64 → Int32 → β
  | 0, x4, x6, x8 => k0 x4
  | n + 1, x4, x6, x8 => (if 64 ≤ x8 then k0 x4 else (if (lg_cmp x6 0) = 0 then k0 x4 else (bd ((f_X3_nextOnWay (f_J13_numberOfTrailingZeros_95d88 x6) y2 b_l s_ha s_ro) &&& (x4 ^^^ ((-1)))) (fun v1 => (bd ((x6 &&& ((f_X7_bit (f_J13_numberOfTrailingZeros_95d88 x6)) ^^^ ((-1)))) ||| v1) (fun v2 => F_X3_waysPast_46 y2 b_l s_ha s_ro k0 n (x4 ||| v1) v2 (x8 + 1)))))))
def f_X3_waysPast (p1 : Int32) (b_l : Int64) (b_b : Int64) (s_ha : Nat → Int32) (s_ro : Nat → Int64) : Int32 := F_X3_waysPast_46 ((b_l ||| b_b) &&& ((f_X7_bit p1) ^^^ ((-1)))) b_l s_ha s_ro (fun z3 => (if (lg_cmp (z3 &&& (f_X7_bit (f_X4_hand p1 1 s_ha))) 0) = 0 then (if (lg_cmp (z3 &&& (f_X7_bit ((f_X4_hand p1 1 s_ha) + 32))) 0) = 0 then 0 ||| 0 else 0 ||| 2) else (if (lg_cmp (z3 &&& (f_X7_bit ((f_X4_hand p1 1 s_ha) + 32))) 0) = 0 then 1 ||| 0 else 1 ||| 2))) (fu 64 (0 : Int32)) (f_X7_bit (f_X4_hand p1 0 s_ha)) (f_X7_bit (f_X4_hand p1 0 s_ha)) 0
set_option maxHeartbeats 4000000 in
set_option maxRecDepth 100000 in
theorem lp_X3_waysPast_46 (l : Launch) (D : va_G) (cI cL cZ : ClassId) (ad : Nat → Nat) (c_sr t_n t_r t_w s_w s_h s_c s_p s_s p_nx p_sz r_k r_r r_p l_z q_z : Int32) (t_t b_l b_b b_n r_t l_l l_b l_n q_l q_b q_n : Int64) (t_le s_cs s_ps s_ha s_en pk ik : Nat → Int32) (s_ro s_me s_be s_se s_co pl pb pn il ib im l_a q_a : Nat → Int64) {p : Program} {e : Env} {s : State} {m : MethodId} {args : Array Value} {below : List Frame} {meth : Method} {c : Code} {Q : State → Prop} (C : Cx p s m args meth c cX3_waysPast 12 (some .int) W0 RX3 D cI cL cZ) (hAd : cInj ad) (y1 : Int32) (y2 : Int64) {β : Type} (k0 : Int64 → β) (r : β)
    (h0 : ∀ (e4 : Int64) (H : Heap) (locs : List Loc) (ls : Array Slot), k0 e4 = r → va_P D vwCl (cw ad cI cL cZ c_sr t_n t_r t_w s_w s_h s_c s_p s_s p_nx p_sz r_k r_r r_p l_z q_z t_t b_l b_b b_n r_t l_l l_b l_n q_l q_b q_n t_le s_cs s_ps s_ha s_en pk ik s_ro s_me s_be s_se s_co pl pb pn il ib im l_a q_a) H → va_S (cAd ad) s.heap H locs → lv_has ls 12 [(0, .ref (ad 25)), (1, .int y1), (4, .long e4)] → W p l e (rmS 3 76) s m args below meth c H locs 0 0 Q (F0 m 113 ls [])) :
    ∀ (n : Nat) (x4 x6 : Int64) (x8 : Int32) (H : Heap) (locs : List Loc) (ls : Array Slot), fuU n 64 x8 → F_X3_waysPast_46 y2 b_l s_ha s_ro k0 n x4 x6 x8 = r → va_P D vwCl (cw ad cI cL cZ c_sr t_n t_r t_w s_w s_h s_c s_p s_s p_nx p_sz r_k r_r r_p l_z q_z t_t b_l b_b b_n r_t l_l l_b l_n q_l q_b q_n t_le s_cs s_ps s_ha s_en pk ik s_ro s_me s_be s_se s_co pl pb pn il ib im l_a q_a) H → va_S (cAd ad) s.heap H locs → lv_has ls 12 [(0, .ref (ad 25)), (1, .int y1), (2, .long y2), (4, .long x4), (6, .long x6), (8, .int x8)] → W p l e (rmS 3 76) s m args below meth c H locs 0 0 Q (F0 m 46 ls []) := by
  obtain ⟨hx, hb, hml, hrt, hlocks, hown, hts, hk⟩ := C
  intro n
  induction n with
  | zero =>
    intro x4 x6 x8 H locs ls hf
    exact absurd hf.1 (Nat.lt_irrefl 0)
  | succ n ih =>
    intro x4 x6 x8 H locs ls hf hr hP hS hl
    rw [F_X3_waysPast_46] at hr
    refine lv_iload hx hb dX3_waysPast_46 (lv_at hl 5 rfl) ?_
    refine lv_bipush (v := 64) hx hb dX3_waysPast_48 (by decide) ?_
    refine lv_icmp_ge (tgt := 113) hx hb dX3_waysPast_50 (by decide) (fun c50 => ?_) (fun c50 => ?_)
    · have hr := (if_pos c50).symm.trans hr
      exact h0 x4 _ _ _ hr hP hS (lv_sub hl [0, 1, 3] rfl)
    · have hr := (if_neg c50).symm.trans hr
      refine lv_lload hx hb dX3_waysPast_53 (lv_at hl 4 rfl) ?_
      refine lv_lconst (v := 0) hx hb dX3_waysPast_55 (by decide) ?_
      refine W.lcmp hx hb dX3_waysPast_56 ?_
      refine lv_if_eq (tgt := 113) hx hb dX3_waysPast_57 (by decide) (fun c57 => ?_) (fun c57 => ?_)
      · have hr := (if_pos c57).symm.trans hr
        exact h0 x4 _ _ _ hr hP hS (lv_sub hl [0, 1, 3] rfl)
      · have hr := (if_neg c57).symm.trans hr
        refine lv_lload hx hb dX3_waysPast_60 (lv_at hl 4 rfl) ?_
        refine go_i (ru_S (n := 1) ⟨hx, hb, hml, hown, hts⟩ hk hP (c_J13_numberOfTrailingZeros_95d88 l D cI cL cZ (cAd ad) (cw ad cI cL cZ c_sr t_n t_r t_w s_w s_h s_c s_p s_s p_nx p_sz r_k r_r r_p l_z q_z t_t b_l b_b b_n r_t l_l l_b l_n q_l q_b q_n t_le s_cs s_ps s_ha s_en pk ik s_ro s_me s_be s_se s_co pl pb pn il ib im l_a q_a) x6 _ rfl) (va_cwS 1 hts (gS q3_48 q3_28 q1_13 q3_29) rfl rfl rfl hd_J13_numberOfTrailingZeros_95d88 ⟨Nat.le_of_ble_eq_true rfl, Nat.le_of_ble_eq_true rfl⟩) rfl hl.1 rfl (Nat.le_of_ble_eq_true rfl) dX3_waysPast_62 ⟨Nat.zero_le _, Nat.zero_le _⟩) hS (fun _ h => h) (fun H locs hP hS => ?_)
        have hP : va_P D vwCl (cw ad cI cL cZ c_sr t_n t_r t_w s_w s_h s_c s_p s_s p_nx p_sz r_k r_r r_p l_z q_z t_t b_l b_b b_n r_t l_l l_b l_n q_l q_b q_n t_le s_cs s_ps s_ha s_en pk ik s_ro s_me s_be s_se s_co pl pb pn il ib im l_a q_a) H := hP
        refine lv_istore (lv' := [(9, .int (f_J13_numberOfTrailingZeros_95d88 x6)), (0, .ref (ad 25)), (1, .int y1), (2, .long y2), (4, .long x4), (6, .long x6), (8, .int x8)]) hx hb dX3_waysPast_65 hl (by decide) rfl (fun ls hl => ?_)
        refine lv_aload_n hx hb dX3_waysPast_67 rfl (lv_at hl 1 rfl) ?_
        refine lv_iload hx hb dX3_waysPast_68 (lv_at hl 0 rfl) ?_
        refine lv_lload_n hx hb dX3_waysPast_70 rfl (lv_at hl 3 rfl) ?_
        refine go_l (ru_V (n := 2) ⟨hx, hb, hml, hown, hts⟩ hk hP (c_X3_nextOnWay l D cI cL cZ ad c_sr t_n t_r t_w s_w s_h s_c s_p s_s p_nx p_sz r_k r_r r_p l_z q_z t_t b_l b_b b_n r_t l_l l_b l_n q_l q_b q_n t_le s_cs s_ps s_ha s_en pk ik s_ro s_me s_be s_se s_co pl pb pn il ib im l_a q_a hAd (f_J13_numberOfTrailingZeros_95d88 x6) y2 _ rfl) (cwV 2 hts (gV q3_63 q3_65 qs2_7 q1_8 q3_66) rfl rfl rfl hd_X3_nextOnWay ⟨Nat.le_of_ble_eq_true rfl, Nat.le_of_ble_eq_true rfl⟩) (va_recv hk.1 hP (ci := 3) (q0 := 25) rfl rfl) rfl hl.1 rfl (Nat.le_of_ble_eq_true rfl) dX3_waysPast_71 ⟨Nat.zero_le _, Nat.zero_le _⟩) hS (fun _ h => h) (fun H locs hP hS => ?_)
        have hP : va_P D vwCl (cw ad cI cL cZ c_sr t_n t_r t_w s_w s_h s_c s_p s_s p_nx p_sz r_k r_r r_p l_z q_z t_t b_l b_b b_n r_t l_l l_b l_n q_l q_b q_n t_le s_cs s_ps s_ha s_en pk ik s_ro s_me s_be s_se s_co pl pb pn il ib im l_a q_a) H := hP
        refine lv_lload hx hb dX3_waysPast_74 (lv_at hl 4 rfl) ?_
        refine lv_ldc2 hx hb hown (hts _ q3_2) dX3_waysPast_76 ?_
        refine lv_lxor hx hb dX3_waysPast_79 ?_
        refine lv_land hx hb dX3_waysPast_80 ?_
        refine lv_topl (fun v1 ev1 => ?_)
        have hr := (bd_eq ev1.symm).symm.trans hr
        refine lv_lstore (lv' := [(10, .long v1), (9, .int (f_J13_numberOfTrailingZeros_95d88 x6)), (0, .ref (ad 25)), (1, .int y1), (2, .long y2), (4, .long x4), (6, .long x6), (8, .int x8)]) hx hb dX3_waysPast_81 hl (by decide) rfl (fun ls hl => ?_)
        refine lv_lload hx hb dX3_waysPast_83 (lv_at hl 5 rfl) ?_
        refine lv_lload hx hb dX3_waysPast_85 (lv_at hl 0 rfl) ?_
        refine lv_lor hx hb dX3_waysPast_87 ?_
        refine lv_lstore (lv' := [(4, .long (x4 ||| v1)), (10, .long v1), (9, .int (f_J13_numberOfTrailingZeros_95d88 x6)), (0, .ref (ad 25)), (1, .int y1), (2, .long y2), (6, .long x6), (8, .int x8)]) hx hb dX3_waysPast_88 hl (by decide) rfl (fun ls hl => ?_)
        refine lv_lload hx hb dX3_waysPast_90 (lv_at hl 6 rfl) ?_
        refine lv_iload hx hb dX3_waysPast_92 (lv_at hl 2 rfl) ?_
        refine go_l (ru_N (n := 1) ⟨hx, hb, hml, hown, hts⟩ hk hP (c_X7_bit l D cI cL cZ (cAd ad) (cw ad cI cL cZ c_sr t_n t_r t_w s_w s_h s_c s_p s_s p_nx p_sz r_k r_r r_p l_z q_z t_t b_l b_b b_n r_t l_l l_b l_n q_l q_b q_n t_le s_cs s_ps s_ha s_en pk ik s_ro s_me s_be s_se s_co pl pb pn il ib im l_a q_a) (f_J13_numberOfTrailingZeros_95d88 x6) _ rfl) ⟨va_cnB 1 hts (gN q2_20) rfl rfl rfl (hk.2 _ nwm_X3_105) (hts _ q1_1) hd_X7_bit ⟨Nat.le_of_ble_eq_true rfl, Nat.le_of_ble_eq_true rfl⟩, hts _ q2_19, trivial⟩ rfl hl.1 rfl (Nat.le_of_ble_eq_true rfl) dX3_waysPast_94 ⟨Nat.zero_le _, Nat.zero_le _⟩) hS (fun _ h => h) (fun H locs hP hS => ?_)
        have hP : va_P D vwCl (cw ad cI cL cZ c_sr t_n t_r t_w s_w s_h s_c s_p s_s p_nx p_sz r_k r_r r_p l_z q_z t_t b_l b_b b_n r_t l_l l_b l_n q_l q_b q_n t_le s_cs s_ps s_ha s_en pk ik s_ro s_me s_be s_se s_co pl pb pn il ib im l_a q_a) H := hP
        refine lv_ldc2 hx hb hown (hts _ q3_2) dX3_waysPast_97 ?_
        refine lv_lxor hx hb dX3_waysPast_100 ?_
        refine lv_land hx hb dX3_waysPast_101 ?_
        refine lv_lload hx hb dX3_waysPast_102 (lv_at hl 1 rfl) ?_
        refine lv_lor hx hb dX3_waysPast_104 ?_
        refine lv_topl (fun v2 ev2 => ?_)
        have hr := (bd_eq ev2.symm).symm.trans hr
        refine lv_lstore (lv' := [(6, .long v2), (4, .long (x4 ||| v1)), (10, .long v1), (9, .int (f_J13_numberOfTrailingZeros_95d88 x6)), (0, .ref (ad 25)), (1, .int y1), (2, .long y2), (8, .int x8)]) hx hb dX3_waysPast_105 hl (by decide) rfl (fun ls hl => ?_)
        refine lv_iinc (v := x8 + 1) (lv' := [(8, .int (x8 + 1)), (6, .long v2), (4, .long (x4 ||| v1)), (10, .long v1), (9, .int (f_J13_numberOfTrailingZeros_95d88 x6)), (0, .ref (ad 25)), (1, .int y1), (2, .long y2)]) hx hb dX3_waysPast_107 hl (k := 7) rfl rfl (by decide) rfl (fun ls hl => ?_)
        refine lv_goto (tgt := 46) hx hb dX3_waysPast_110 (by decide) ?_
        exact ih (x4 ||| v1) v2 (x8 + 1) _ _ _ (fuU_s hf c50) hr hP hS (lv_sub hl [5, 6, 7, 2, 1, 0] rfl)
set_option maxHeartbeats 4000000 in
set_option maxRecDepth 100000 in
theorem c_X3_waysPast (l : Launch) (D : va_G) (cI cL cZ : ClassId) (ad : Nat → Nat) (c_sr t_n t_r t_w s_w s_h s_c s_p s_s p_nx p_sz r_k r_r r_p l_z q_z : Int32) (t_t b_l b_b b_n r_t l_l l_b l_n q_l q_b q_n : Int64) (t_le s_cs s_ps s_ha s_en pk ik : Nat → Int32) (s_ro s_me s_be s_se s_co pl pb pn il ib im l_a q_a : Nat → Int64) (hAd : cInj ad) (p1 : Int32) (r : Int32) (hr : f_X3_waysPast p1 b_l b_b s_ha s_ro = r) : MI l yX3_waysPast (Cond.code yX3_waysPast cX3_waysPast 12 (some .int) :: W0) 3 76 D cI cL cZ (cAd ad) [.ref (ad 25), .int p1] (cw ad cI cL cZ c_sr t_n t_r t_w s_w s_h s_c s_p s_s p_nx p_sz r_k r_r r_p l_z q_z t_t b_l b_b b_n r_t l_l l_b l_n q_l q_b q_n t_le s_cs s_ps s_ha s_en pk ik s_ro s_me s_be s_se s_co pl pb pn il ib im l_a q_a) r (cw ad cI cL cZ c_sr t_n t_r t_w s_w s_h s_c s_p s_s p_nx p_sz r_k r_r r_p l_z q_z t_t b_l b_b b_n r_t l_l l_b l_n q_l q_b q_n t_le s_cs s_ps s_ha s_en pk ik s_ro s_me s_be s_se s_co pl pb pn il ib im l_a q_a) := by
  refine mk_start (cc := cX3_waysPast) (maxL := 12) (ret := (some .int)) (by decide) rfl (Nat.le_of_ble_eq_true rfl) ?_
  intro p e s m below meth c ls C hP hS hl
  obtain ⟨hx, hb, hml, hrt, hlocks, hown, hts, hk⟩ := C
  have hown : s.vm.findClass RX3 = some m.cls := hown
  have hl : lv_has ls 12 [(0, .ref (ad 25)), (1, .int p1)] := hl
  rw [f_X3_waysPast] at hr
  refine lv_aload_n hx hb dX3_waysPast_0 rfl (lv_at hl 0 rfl) ?_
  refine va_get (D := D) (ci := 3) (v := .ref (ad 13)) (C := RX3) (T := TX3) (N := 6) hx hb hts u_X3 hown hk.1 hP 25 rfl rfl 1 (by decide) (hts _ q1_180) (fun _ h9 => h9) rfl dX3_waysPast_1 ?_
  refine va_get (D := D) (ci := 0) (v := .long b_l) (C := RX0) (T := TX0) (N := 3) hx hb hts u_X0 hown hk.1 hP 13 rfl rfl 0 (by decide) (hts _ q1_116) (fun _ h9 => h9) rfl dX3_waysPast_4 ?_
  refine lv_aload_n hx hb dX3_waysPast_7 rfl (lv_at hl 0 rfl) ?_
  refine va_get (D := D) (ci := 3) (v := .ref (ad 13)) (C := RX3) (T := TX3) (N := 6) hx hb hts u_X3 hown hk.1 hP 25 rfl rfl 1 (by decide) (hts _ q1_180) (fun _ h9 => h9) rfl dX3_waysPast_8 ?_
  refine va_get (D := D) (ci := 0) (v := .long b_b) (C := RX0) (T := TX0) (N := 3) hx hb hts u_X0 hown hk.1 hP 13 rfl rfl 1 (by decide) (hts _ q1_120) (fun _ h9 => h9) rfl dX3_waysPast_11 ?_
  refine lv_lor hx hb dX3_waysPast_14 ?_
  refine lv_iload_n hx hb dX3_waysPast_15 rfl (lv_at hl 1 rfl) ?_
  refine go_l (ru_N (n := 1) ⟨hx, hb, hml, hown, hts⟩ hk hP (c_X7_bit l D cI cL cZ (cAd ad) (cw ad cI cL cZ c_sr t_n t_r t_w s_w s_h s_c s_p s_s p_nx p_sz r_k r_r r_p l_z q_z t_t b_l b_b b_n r_t l_l l_b l_n q_l q_b q_n t_le s_cs s_ps s_ha s_en pk ik s_ro s_me s_be s_se s_co pl pb pn il ib im l_a q_a) p1 _ rfl) ⟨va_cnB 1 hts (gN q2_20) rfl rfl rfl (hk.2 _ nwm_X3_105) (hts _ q1_1) hd_X7_bit ⟨Nat.le_of_ble_eq_true rfl, Nat.le_of_ble_eq_true rfl⟩, hts _ q2_19, trivial⟩ rfl hl.1 rfl (Nat.le_of_ble_eq_true rfl) dX3_waysPast_16 ⟨Nat.zero_le _, Nat.zero_le _⟩) hS (fun _ h => h) (fun H locs hP hS => ?_)
  have hP : va_P D vwCl (cw ad cI cL cZ c_sr t_n t_r t_w s_w s_h s_c s_p s_s p_nx p_sz r_k r_r r_p l_z q_z t_t b_l b_b b_n r_t l_l l_b l_n q_l q_b q_n t_le s_cs s_ps s_ha s_en pk ik s_ro s_me s_be s_se s_co pl pb pn il ib im l_a q_a) H := hP
  refine lv_ldc2 hx hb hown (hts _ q3_2) dX3_waysPast_19 ?_
  refine lv_lxor hx hb dX3_waysPast_22 ?_
  refine lv_land hx hb dX3_waysPast_23 ?_
  refine lv_lstore_n (lv' := [(2, .long ((b_l ||| b_b) &&& ((f_X7_bit p1) ^^^ ((-1))))), (0, .ref (ad 25)), (1, .int p1)]) hx hb dX3_waysPast_24 rfl hl (by decide) rfl (fun ls hl => ?_)
  refine lv_aload_n hx hb dX3_waysPast_25 rfl (lv_at hl 1 rfl) ?_
  refine va_get (D := D) (ci := 3) (v := .ref (ad 3)) (C := RX3) (T := TX3) (N := 6) hx hb hts u_X3 hown hk.1 hP 25 rfl rfl 0 (by decide) (hts _ q1_179) (fun _ h9 => h9) rfl dX3_waysPast_26 ?_
  refine lv_iload_n hx hb dX3_waysPast_29 rfl (lv_at hl 2 rfl) ?_
  refine lv_iconst (v := 0) hx hb dX3_waysPast_30 (by decide) ?_
  refine go_i (ru_V (n := 2) ⟨hx, hb, hml, hown, hts⟩ hk hP (c_X4_hand l D cI cL cZ ad c_sr t_n t_r t_w s_w s_h s_c s_p s_s p_nx p_sz r_k r_r r_p l_z q_z t_t b_l b_b b_n r_t l_l l_b l_n q_l q_b q_n t_le s_cs s_ps s_ha s_en pk ik s_ro s_me s_be s_se s_co pl pb pn il ib im l_a q_a hAd p1 0 _ rfl) (cwV 2 hts (gV q3_62 q2_32 q2_33 q1_3 q2_34) rfl rfl rfl hd_X4_hand ⟨Nat.le_of_ble_eq_true rfl, Nat.le_of_ble_eq_true rfl⟩) (va_recv hk.1 hP (ci := 4) (q0 := 3) rfl rfl) rfl hl.1 rfl (Nat.le_of_ble_eq_true rfl) dX3_waysPast_31 ⟨Nat.zero_le _, Nat.zero_le _⟩) hS (fun _ h => h) (fun H locs hP hS => ?_)
  have hP : va_P D vwCl (cw ad cI cL cZ c_sr t_n t_r t_w s_w s_h s_c s_p s_s p_nx p_sz r_k r_r r_p l_z q_z t_t b_l b_b b_n r_t l_l l_b l_n q_l q_b q_n t_le s_cs s_ps s_ha s_en pk ik s_ro s_me s_be s_se s_co pl pb pn il ib im l_a q_a) H := hP
  refine go_l (ru_N (n := 1) ⟨hx, hb, hml, hown, hts⟩ hk hP (c_X7_bit l D cI cL cZ (cAd ad) (cw ad cI cL cZ c_sr t_n t_r t_w s_w s_h s_c s_p s_s p_nx p_sz r_k r_r r_p l_z q_z t_t b_l b_b b_n r_t l_l l_b l_n q_l q_b q_n t_le s_cs s_ps s_ha s_en pk ik s_ro s_me s_be s_se s_co pl pb pn il ib im l_a q_a) (f_X4_hand p1 0 s_ha) _ rfl) ⟨va_cnB 1 hts (gN q2_20) rfl rfl rfl (hk.2 _ nwm_X3_105) (hts _ q1_1) hd_X7_bit ⟨Nat.le_of_ble_eq_true rfl, Nat.le_of_ble_eq_true rfl⟩, hts _ q2_19, trivial⟩ rfl hl.1 rfl (Nat.le_of_ble_eq_true rfl) dX3_waysPast_34 ⟨Nat.zero_le _, Nat.zero_le _⟩) hS (fun _ h => h) (fun H locs hP hS => ?_)
  have hP : va_P D vwCl (cw ad cI cL cZ c_sr t_n t_r t_w s_w s_h s_c s_p s_s p_nx p_sz r_k r_r r_p l_z q_z t_t b_l b_b b_n r_t l_l l_b l_n q_l q_b q_n t_le s_cs s_ps s_ha s_en pk ik s_ro s_me s_be s_se s_co pl pb pn il ib im l_a q_a) H := hP
  refine lv_lstore (lv' := [(4, .long (f_X7_bit (f_X4_hand p1 0 s_ha))), (2, .long ((b_l ||| b_b) &&& ((f_X7_bit p1) ^^^ ((-1))))), (0, .ref (ad 25)), (1, .int p1)]) hx hb dX3_waysPast_37 hl (by decide) rfl (fun ls hl => ?_)
  refine lv_lload hx hb dX3_waysPast_39 (lv_at hl 0 rfl) ?_
  refine lv_lstore (lv' := [(6, .long (f_X7_bit (f_X4_hand p1 0 s_ha))), (4, .long (f_X7_bit (f_X4_hand p1 0 s_ha))), (2, .long ((b_l ||| b_b) &&& ((f_X7_bit p1) ^^^ ((-1))))), (0, .ref (ad 25)), (1, .int p1)]) hx hb dX3_waysPast_41 hl (by decide) rfl (fun ls hl => ?_)
  refine lv_iconst (v := 0) hx hb dX3_waysPast_43 (by decide) ?_
  refine lv_istore (lv' := [(8, .int 0), (6, .long (f_X7_bit (f_X4_hand p1 0 s_ha))), (4, .long (f_X7_bit (f_X4_hand p1 0 s_ha))), (2, .long ((b_l ||| b_b) &&& ((f_X7_bit p1) ^^^ ((-1))))), (0, .ref (ad 25)), (1, .int p1)]) hx hb dX3_waysPast_44 hl (by decide) rfl (fun ls hl => ?_)
  refine lp_X3_waysPast_46 l D cI cL cZ ad c_sr t_n t_r t_w s_w s_h s_c s_p s_s p_nx p_sz r_k r_r r_p l_z q_z t_t b_l b_b b_n r_t l_l l_b l_n q_l q_b q_n t_le s_cs s_ps s_ha s_en pk ik s_ro s_me s_be s_se s_co pl pb pn il ib im l_a q_a ⟨hx, hb, hml, hrt, hlocks, hown, hts, hk⟩ hAd p1 ((b_l ||| b_b) &&& ((f_X7_bit p1) ^^^ ((-1)))) _ _ (fun z3 H locs ls hr hP hS hl => ?_) (fu 64 (0 : Int32)) (f_X7_bit (f_X4_hand p1 0 s_ha)) (f_X7_bit (f_X4_hand p1 0 s_ha)) 0 _ _ _ (fuU_0 (by decide)) hr hP hS (lv_sub hl [4, 5, 3, 2, 1, 0] rfl)
  refine lv_aload_n hx hb dX3_waysPast_113 rfl (lv_at hl 0 rfl) ?_
  refine va_get (D := D) (ci := 3) (v := .ref (ad 3)) (C := RX3) (T := TX3) (N := 6) hx hb hts u_X3 hown hk.1 hP 25 rfl rfl 0 (by decide) (hts _ q1_179) (fun _ h9 => h9) rfl dX3_waysPast_114 ?_
  refine lv_iload_n hx hb dX3_waysPast_117 rfl (lv_at hl 1 rfl) ?_
  refine lv_iconst (v := 1) hx hb dX3_waysPast_118 (by decide) ?_
  refine go_i (ru_V (n := 2) ⟨hx, hb, hml, hown, hts⟩ hk hP (c_X4_hand l D cI cL cZ ad c_sr t_n t_r t_w s_w s_h s_c s_p s_s p_nx p_sz r_k r_r r_p l_z q_z t_t b_l b_b b_n r_t l_l l_b l_n q_l q_b q_n t_le s_cs s_ps s_ha s_en pk ik s_ro s_me s_be s_se s_co pl pb pn il ib im l_a q_a hAd p1 1 _ rfl) (cwV 2 hts (gV q3_62 q2_32 q2_33 q1_3 q2_34) rfl rfl rfl hd_X4_hand ⟨Nat.le_of_ble_eq_true rfl, Nat.le_of_ble_eq_true rfl⟩) (va_recv hk.1 hP (ci := 4) (q0 := 3) rfl rfl) rfl hl.1 rfl (Nat.le_of_ble_eq_true rfl) dX3_waysPast_119 ⟨Nat.zero_le _, Nat.zero_le _⟩) hS (fun _ h => h) (fun H locs hP hS => ?_)
  have hP : va_P D vwCl (cw ad cI cL cZ c_sr t_n t_r t_w s_w s_h s_c s_p s_s p_nx p_sz r_k r_r r_p l_z q_z t_t b_l b_b b_n r_t l_l l_b l_n q_l q_b q_n t_le s_cs s_ps s_ha s_en pk ik s_ro s_me s_be s_se s_co pl pb pn il ib im l_a q_a) H := hP
  refine lv_istore (lv' := [(8, .int (f_X4_hand p1 1 s_ha)), (0, .ref (ad 25)), (1, .int p1), (4, .long z3)]) hx hb dX3_waysPast_122 hl (by decide) rfl (fun ls hl => ?_)
  refine lv_lload hx hb dX3_waysPast_124 (lv_at hl 3 rfl) ?_
  refine lv_iload hx hb dX3_waysPast_126 (lv_at hl 0 rfl) ?_
  refine go_l (ru_N (n := 1) ⟨hx, hb, hml, hown, hts⟩ hk hP (c_X7_bit l D cI cL cZ (cAd ad) (cw ad cI cL cZ c_sr t_n t_r t_w s_w s_h s_c s_p s_s p_nx p_sz r_k r_r r_p l_z q_z t_t b_l b_b b_n r_t l_l l_b l_n q_l q_b q_n t_le s_cs s_ps s_ha s_en pk ik s_ro s_me s_be s_se s_co pl pb pn il ib im l_a q_a) (f_X4_hand p1 1 s_ha) _ rfl) ⟨va_cnB 1 hts (gN q2_20) rfl rfl rfl (hk.2 _ nwm_X3_105) (hts _ q1_1) hd_X7_bit ⟨Nat.le_of_ble_eq_true rfl, Nat.le_of_ble_eq_true rfl⟩, hts _ q2_19, trivial⟩ rfl hl.1 rfl (Nat.le_of_ble_eq_true rfl) dX3_waysPast_128 ⟨Nat.zero_le _, Nat.zero_le _⟩) hS (fun _ h => h) (fun H locs hP hS => ?_)
  have hP : va_P D vwCl (cw ad cI cL cZ c_sr t_n t_r t_w s_w s_h s_c s_p s_s p_nx p_sz r_k r_r r_p l_z q_z t_t b_l b_b b_n r_t l_l l_b l_n q_l q_b q_n t_le s_cs s_ps s_ha s_en pk ik s_ro s_me s_be s_se s_co pl pb pn il ib im l_a q_a) H := hP
  refine lv_land hx hb dX3_waysPast_131 ?_
  refine lv_lconst (v := 0) hx hb dX3_waysPast_132 (by decide) ?_
  refine W.lcmp hx hb dX3_waysPast_133 ?_
  refine lv_if_eq (tgt := 141) hx hb dX3_waysPast_134 (by decide) (fun c134 => ?_) (fun c134 => ?_)
  · have hr := (if_pos c134).symm.trans hr
    refine lv_iconst (v := 0) hx hb dX3_waysPast_141 (by decide) ?_
    refine lv_istore (lv' := [(9, .int 0), (8, .int (f_X4_hand p1 1 s_ha)), (0, .ref (ad 25)), (1, .int p1), (4, .long z3)]) hx hb dX3_waysPast_142 hl (by decide) rfl (fun ls hl => ?_)
    refine lv_lload hx hb dX3_waysPast_144 (lv_at hl 4 rfl) ?_
    refine lv_iload hx hb dX3_waysPast_146 (lv_at hl 1 rfl) ?_
    refine lv_bipush (v := 32) hx hb dX3_waysPast_148 (by decide) ?_
    refine lv_iadd hx hb dX3_waysPast_150 ?_
    refine go_l (ru_N (n := 1) ⟨hx, hb, hml, hown, hts⟩ hk hP (c_X7_bit l D cI cL cZ (cAd ad) (cw ad cI cL cZ c_sr t_n t_r t_w s_w s_h s_c s_p s_s p_nx p_sz r_k r_r r_p l_z q_z t_t b_l b_b b_n r_t l_l l_b l_n q_l q_b q_n t_le s_cs s_ps s_ha s_en pk ik s_ro s_me s_be s_se s_co pl pb pn il ib im l_a q_a) ((f_X4_hand p1 1 s_ha) + 32) _ rfl) ⟨va_cnB 1 hts (gN q2_20) rfl rfl rfl (hk.2 _ nwm_X3_105) (hts _ q1_1) hd_X7_bit ⟨Nat.le_of_ble_eq_true rfl, Nat.le_of_ble_eq_true rfl⟩, hts _ q2_19, trivial⟩ rfl hl.1 rfl (Nat.le_of_ble_eq_true rfl) dX3_waysPast_151 ⟨Nat.zero_le _, Nat.zero_le _⟩) hS (fun _ h => h) (fun H locs hP hS => ?_)
    have hP : va_P D vwCl (cw ad cI cL cZ c_sr t_n t_r t_w s_w s_h s_c s_p s_s p_nx p_sz r_k r_r r_p l_z q_z t_t b_l b_b b_n r_t l_l l_b l_n q_l q_b q_n t_le s_cs s_ps s_ha s_en pk ik s_ro s_me s_be s_se s_co pl pb pn il ib im l_a q_a) H := hP
    refine lv_land hx hb dX3_waysPast_154 ?_
    refine lv_lconst (v := 0) hx hb dX3_waysPast_155 (by decide) ?_
    refine W.lcmp hx hb dX3_waysPast_156 ?_
    refine lv_if_eq (tgt := 164) hx hb dX3_waysPast_157 (by decide) (fun c157 => ?_) (fun c157 => ?_)
    · have hr := (if_pos c157).symm.trans hr
      refine lv_iconst (v := 0) hx hb dX3_waysPast_164 (by decide) ?_
      refine lv_istore (lv' := [(10, .int 0), (9, .int 0), (8, .int (f_X4_hand p1 1 s_ha)), (0, .ref (ad 25)), (1, .int p1), (4, .long z3)]) hx hb dX3_waysPast_165 hl (by decide) rfl (fun ls hl => ?_)
      refine lv_iload hx hb dX3_waysPast_167 (lv_at hl 1 rfl) ?_
      refine lv_iload hx hb dX3_waysPast_169 (lv_at hl 0 rfl) ?_
      refine lv_ior hx hb dX3_waysPast_171 ?_
      subst hr
      exact ret_i hx hb hrt hlocks hP hS dX3_waysPast_172
    · have hr := (if_neg c157).symm.trans hr
      refine lv_iconst (v := 2) hx hb dX3_waysPast_160 (by decide) ?_
      refine lv_goto (tgt := 165) hx hb dX3_waysPast_161 (by decide) ?_
      refine lv_istore (lv' := [(10, .int 2), (9, .int 0), (8, .int (f_X4_hand p1 1 s_ha)), (0, .ref (ad 25)), (1, .int p1), (4, .long z3)]) hx hb dX3_waysPast_165 hl (by decide) rfl (fun ls hl => ?_)
      refine lv_iload hx hb dX3_waysPast_167 (lv_at hl 1 rfl) ?_
      refine lv_iload hx hb dX3_waysPast_169 (lv_at hl 0 rfl) ?_
      refine lv_ior hx hb dX3_waysPast_171 ?_
      subst hr
      exact ret_i hx hb hrt hlocks hP hS dX3_waysPast_172
  · have hr := (if_neg c134).symm.trans hr
    refine lv_iconst (v := 1) hx hb dX3_waysPast_137 (by decide) ?_
    refine lv_goto (tgt := 142) hx hb dX3_waysPast_138 (by decide) ?_
    refine lv_istore (lv' := [(9, .int 1), (8, .int (f_X4_hand p1 1 s_ha)), (0, .ref (ad 25)), (1, .int p1), (4, .long z3)]) hx hb dX3_waysPast_142 hl (by decide) rfl (fun ls hl => ?_)
    refine lv_lload hx hb dX3_waysPast_144 (lv_at hl 4 rfl) ?_
    refine lv_iload hx hb dX3_waysPast_146 (lv_at hl 1 rfl) ?_
    refine lv_bipush (v := 32) hx hb dX3_waysPast_148 (by decide) ?_
    refine lv_iadd hx hb dX3_waysPast_150 ?_
    refine go_l (ru_N (n := 1) ⟨hx, hb, hml, hown, hts⟩ hk hP (c_X7_bit l D cI cL cZ (cAd ad) (cw ad cI cL cZ c_sr t_n t_r t_w s_w s_h s_c s_p s_s p_nx p_sz r_k r_r r_p l_z q_z t_t b_l b_b b_n r_t l_l l_b l_n q_l q_b q_n t_le s_cs s_ps s_ha s_en pk ik s_ro s_me s_be s_se s_co pl pb pn il ib im l_a q_a) ((f_X4_hand p1 1 s_ha) + 32) _ rfl) ⟨va_cnB 1 hts (gN q2_20) rfl rfl rfl (hk.2 _ nwm_X3_105) (hts _ q1_1) hd_X7_bit ⟨Nat.le_of_ble_eq_true rfl, Nat.le_of_ble_eq_true rfl⟩, hts _ q2_19, trivial⟩ rfl hl.1 rfl (Nat.le_of_ble_eq_true rfl) dX3_waysPast_151 ⟨Nat.zero_le _, Nat.zero_le _⟩) hS (fun _ h => h) (fun H locs hP hS => ?_)
    have hP : va_P D vwCl (cw ad cI cL cZ c_sr t_n t_r t_w s_w s_h s_c s_p s_s p_nx p_sz r_k r_r r_p l_z q_z t_t b_l b_b b_n r_t l_l l_b l_n q_l q_b q_n t_le s_cs s_ps s_ha s_en pk ik s_ro s_me s_be s_se s_co pl pb pn il ib im l_a q_a) H := hP
    refine lv_land hx hb dX3_waysPast_154 ?_
    refine lv_lconst (v := 0) hx hb dX3_waysPast_155 (by decide) ?_
    refine W.lcmp hx hb dX3_waysPast_156 ?_
    refine lv_if_eq (tgt := 164) hx hb dX3_waysPast_157 (by decide) (fun c157 => ?_) (fun c157 => ?_)
    · have hr := (if_pos c157).symm.trans hr
      refine lv_iconst (v := 0) hx hb dX3_waysPast_164 (by decide) ?_
      refine lv_istore (lv' := [(10, .int 0), (9, .int 1), (8, .int (f_X4_hand p1 1 s_ha)), (0, .ref (ad 25)), (1, .int p1), (4, .long z3)]) hx hb dX3_waysPast_165 hl (by decide) rfl (fun ls hl => ?_)
      refine lv_iload hx hb dX3_waysPast_167 (lv_at hl 1 rfl) ?_
      refine lv_iload hx hb dX3_waysPast_169 (lv_at hl 0 rfl) ?_
      refine lv_ior hx hb dX3_waysPast_171 ?_
      subst hr
      exact ret_i hx hb hrt hlocks hP hS dX3_waysPast_172
    · have hr := (if_neg c157).symm.trans hr
      refine lv_iconst (v := 2) hx hb dX3_waysPast_160 (by decide) ?_
      refine lv_goto (tgt := 165) hx hb dX3_waysPast_161 (by decide) ?_
      refine lv_istore (lv' := [(10, .int 2), (9, .int 1), (8, .int (f_X4_hand p1 1 s_ha)), (0, .ref (ad 25)), (1, .int p1), (4, .long z3)]) hx hb dX3_waysPast_165 hl (by decide) rfl (fun ls hl => ?_)
      refine lv_iload hx hb dX3_waysPast_167 (lv_at hl 1 rfl) ?_
      refine lv_iload hx hb dX3_waysPast_169 (lv_at hl 0 rfl) ?_
      refine lv_ior hx hb dX3_waysPast_171 ?_
      subst hr
      exact ret_i hx hb hrt hlocks hP hS dX3_waysPast_172
theorem hd_X3_lookAtHands : yX3_lookAtHands.cls = RX3 ∧ yX3_lookAtHands.cls ≠ "java/lang/invoke/MethodHandle" ∧ yX3_lookAtHands.cls ≠ "java/lang/invoke/VarHandle" ∧ (parseMethodDescriptor yX3_lookAtHands.desc).map (fun d => d.parameters.length) = some 2 := by decide +kernel
def f_X3_lookAtHands (p1 : Int32) (p2 : Int32) (r_k : Int32) (b_l : Int64) (b_b : Int64) (r_t : Int64) (s_ha : Nat → Int32) (s_ro : Nat → Int64) : Int32 × Int64 := (if p2 = 0 then (if (f_X3_waysPast p1 b_l b_b s_ha s_ro) = 2 then (bd (f_X3_tell 2 (f_X7_bit p1)) (fun u2 => (u2.1, u2.2))) else (if (f_X3_waysPast p1 b_l b_b s_ha s_ro) = 1 then (bd (f_X3_tell 1 (f_X7_bit p1)) (fun u1 => (u1.1, u1.2))) else (r_k, r_t))) else (if p2 = 1 then (if ((f_X3_waysPast p1 b_l b_b s_ha s_ro) &&& 1) = 0 then (r_k, r_t) else (3, r_t)) else (if ((f_X3_waysPast p1 b_l b_b s_ha s_ro) &&& 2) = 0 then (r_k, r_t) else (3, r_t))))
set_option maxHeartbeats 4000000 in
set_option maxRecDepth 100000 in
theorem c_X3_lookAtHands (l : Launch) (D : va_G) (cI cL cZ : ClassId) (ad : Nat → Nat) (c_sr t_n t_r t_w s_w s_h s_c s_p s_s p_nx p_sz r_k r_r r_p l_z q_z : Int32) (t_t b_l b_b b_n r_t l_l l_b l_n q_l q_b q_n : Int64) (t_le s_cs s_ps s_ha s_en pk ik : Nat → Int32) (s_ro s_me s_be s_se s_co pl pb pn il ib im l_a q_a : Nat → Int64) (hAd : cInj ad) (p1 p2 : Int32) (r : Int32 × Int64) (hr : f_X3_lookAtHands p1 p2 r_k b_l b_b r_t s_ha s_ro = r) : MV l yX3_lookAtHands (Cond.code yX3_lookAtHands cX3_lookAtHands 4 none :: W0) 4 107 D cI cL cZ (cAd ad) [.ref (ad 25), .int p1, .int p2] (cw ad cI cL cZ c_sr t_n t_r t_w s_w s_h s_c s_p s_s p_nx p_sz r_k r_r r_p l_z q_z t_t b_l b_b b_n r_t l_l l_b l_n q_l q_b q_n t_le s_cs s_ps s_ha s_en pk ik s_ro s_me s_be s_se s_co pl pb pn il ib im l_a q_a) (cw ad cI cL cZ c_sr t_n t_r t_w s_w s_h s_c s_p s_s p_nx p_sz r.1 r_r r_p l_z q_z t_t b_l b_b b_n r.2 l_l l_b l_n q_l q_b q_n t_le s_cs s_ps s_ha s_en pk ik s_ro s_me s_be s_se s_co pl pb pn il ib im l_a q_a) := by
  refine mk_start (cc := cX3_lookAtHands) (maxL := 4) (ret := none) (by decide) rfl (Nat.le_of_ble_eq_true rfl) ?_
  intro p e s m below meth c ls C hP hS hl
  obtain ⟨hx, hb, hml, hrt, hlocks, hown, hts, hk⟩ := C
  have hown : s.vm.findClass RX3 = some m.cls := hown
  have hl : lv_has ls 4 [(0, .ref (ad 25)), (1, .int p1), (2, .int p2)] := hl
  rw [f_X3_lookAtHands] at hr
  refine lv_aload_n hx hb dX3_lookAtHands_0 rfl (lv_at hl 0 rfl) ?_
  refine lv_iload_n hx hb dX3_lookAtHands_1 rfl (lv_at hl 1 rfl) ?_
  refine go_i (ru_V (n := 1) ⟨hx, hb, hml, hown, hts⟩ hk hP (c_X3_waysPast l D cI cL cZ ad c_sr t_n t_r t_w s_w s_h s_c s_p s_s p_nx p_sz r_k r_r r_p l_z q_z t_t b_l b_b b_n r_t l_l l_b l_n q_l q_b q_n t_le s_cs s_ps s_ha s_en pk ik s_ro s_me s_be s_se s_co pl pb pn il ib im l_a q_a hAd p1 _ rfl) (cwV 1 hts (gV q3_58 q3_60 qs2_6 q1_8 q3_61) rfl rfl rfl hd_X3_waysPast ⟨Nat.le_of_ble_eq_true rfl, Nat.le_of_ble_eq_true rfl⟩) (va_recv hk.1 hP (ci := 3) (q0 := 25) rfl rfl) rfl hl.1 rfl (Nat.le_of_ble_eq_true rfl) dX3_lookAtHands_2 ⟨Nat.zero_le _, Nat.zero_le _⟩) hS (fun _ h => h) (fun H locs hP hS => ?_)
  have hP : va_P D vwCl (cw ad cI cL cZ c_sr t_n t_r t_w s_w s_h s_c s_p s_s p_nx p_sz r_k r_r r_p l_z q_z t_t b_l b_b b_n r_t l_l l_b l_n q_l q_b q_n t_le s_cs s_ps s_ha s_en pk ik s_ro s_me s_be s_se s_co pl pb pn il ib im l_a q_a) H := hP
  refine lv_istore_n (lv' := [(3, .int (f_X3_waysPast p1 b_l b_b s_ha s_ro)), (0, .ref (ad 25)), (1, .int p1), (2, .int p2)]) hx hb dX3_lookAtHands_5 rfl hl (by decide) rfl (fun ls hl => ?_)
  refine lv_iload_n hx hb dX3_lookAtHands_6 rfl (lv_at hl 3 rfl) ?_
  refine lv_if_ne (tgt := 44) hx hb dX3_lookAtHands_7 (by decide) (fun c7 => ?_) (fun c7 => ?_)
  · have hr := (if_neg c7).symm.trans hr
    refine lv_iload_n hx hb dX3_lookAtHands_44 rfl (lv_at hl 0 rfl) ?_
    refine lv_iload_n hx hb dX3_lookAtHands_45 rfl (lv_at hl 3 rfl) ?_
    refine lv_iconst (v := 1) hx hb dX3_lookAtHands_46 (by decide) ?_
    refine lv_icmp_ne (tgt := 54) hx hb dX3_lookAtHands_47 (by decide) (fun c47 => ?_) (fun c47 => ?_)
    · have hr := (if_neg c47).symm.trans hr
      refine lv_iconst (v := 2) hx hb dX3_lookAtHands_54 (by decide) ?_
      refine lv_iand hx hb dX3_lookAtHands_55 ?_
      refine lv_if_eq (tgt := 64) hx hb dX3_lookAtHands_56 (by decide) (fun c56 => ?_) (fun c56 => ?_)
      · have hr := (if_pos c56).symm.trans hr
        subst hr
        exact ret_v hx hb hrt hlocks hP hS dX3_lookAtHands_64
      · have hr := (if_neg c56).symm.trans hr
        refine lv_aload_n hx hb dX3_lookAtHands_59 rfl (lv_at hl 1 rfl) ?_
        refine lv_iconst (v := 3) hx hb dX3_lookAtHands_60 (by decide) ?_
        refine va_put (D := D) (ci := 3) (v := .int 3) (ty := .int) (C := RX3) (T := TX3) (N := 6) hx hb hts u_X3 tyX3 tyX3_ok nmX3 hown hk.1 hP (cw_D hAd) hS 25 rfl rfl 2 (by decide) (hts _ q1_181) (fun _ h9 => h9) rfl (tyX3_ok 2 (by decide)) rfl rfl (Nat.le_of_ble_eq_true rfl) dX3_lookAtHands_61 (fun H locs hP _ hS => ?_)
        have hP : va_P D vwCl (cw ad cI cL cZ c_sr t_n t_r t_w s_w s_h s_c s_p s_s p_nx p_sz 3 r_r r_p l_z q_z t_t b_l b_b b_n r_t l_l l_b l_n q_l q_b q_n t_le s_cs s_ps s_ha s_en pk ik s_ro s_me s_be s_se s_co pl pb pn il ib im l_a q_a) H := hP
        subst hr
        exact ret_v hx hb hrt hlocks hP hS dX3_lookAtHands_64
    · have hr := (if_pos c47).symm.trans hr
      refine lv_iconst (v := 1) hx hb dX3_lookAtHands_50 (by decide) ?_
      refine lv_goto (tgt := 55) hx hb dX3_lookAtHands_51 (by decide) ?_
      refine lv_iand hx hb dX3_lookAtHands_55 ?_
      refine lv_if_eq (tgt := 64) hx hb dX3_lookAtHands_56 (by decide) (fun c56 => ?_) (fun c56 => ?_)
      · have hr := (if_pos c56).symm.trans hr
        subst hr
        exact ret_v hx hb hrt hlocks hP hS dX3_lookAtHands_64
      · have hr := (if_neg c56).symm.trans hr
        refine lv_aload_n hx hb dX3_lookAtHands_59 rfl (lv_at hl 1 rfl) ?_
        refine lv_iconst (v := 3) hx hb dX3_lookAtHands_60 (by decide) ?_
        refine va_put (D := D) (ci := 3) (v := .int 3) (ty := .int) (C := RX3) (T := TX3) (N := 6) hx hb hts u_X3 tyX3 tyX3_ok nmX3 hown hk.1 hP (cw_D hAd) hS 25 rfl rfl 2 (by decide) (hts _ q1_181) (fun _ h9 => h9) rfl (tyX3_ok 2 (by decide)) rfl rfl (Nat.le_of_ble_eq_true rfl) dX3_lookAtHands_61 (fun H locs hP _ hS => ?_)
        have hP : va_P D vwCl (cw ad cI cL cZ c_sr t_n t_r t_w s_w s_h s_c s_p s_s p_nx p_sz 3 r_r r_p l_z q_z t_t b_l b_b b_n r_t l_l l_b l_n q_l q_b q_n t_le s_cs s_ps s_ha s_en pk ik s_ro s_me s_be s_se s_co pl pb pn il ib im l_a q_a) H := hP
        subst hr
        exact ret_v hx hb hrt hlocks hP hS dX3_lookAtHands_64
  · have hr := (if_pos c7).symm.trans hr
    refine lv_iload_n hx hb dX3_lookAtHands_10 rfl (lv_at hl 0 rfl) ?_
    refine lv_iconst (v := 2) hx hb dX3_lookAtHands_11 (by decide) ?_
    refine lv_icmp_ne (tgt := 27) hx hb dX3_lookAtHands_12 (by decide) (fun c12 => ?_) (fun c12 => ?_)
    · have hr := (if_neg c12).symm.trans hr
      refine lv_iload_n hx hb dX3_lookAtHands_27 rfl (lv_at hl 0 rfl) ?_
      refine lv_iconst (v := 1) hx hb dX3_lookAtHands_28 (by decide) ?_
      refine lv_icmp_ne (tgt := 64) hx hb dX3_lookAtHands_29 (by decide) (fun c29 => ?_) (fun c29 => ?_)
      · have hr := (if_neg c29).symm.trans hr
        subst hr
        exact ret_v hx hb hrt hlocks hP hS dX3_lookAtHands_64
      · have hr := (if_pos c29).symm.trans hr
        refine lv_aload_n hx hb dX3_lookAtHands_32 rfl (lv_at hl 1 rfl) ?_
        refine lv_iconst (v := 1) hx hb dX3_lookAtHands_33 (by decide) ?_
        refine lv_iload_n hx hb dX3_lookAtHands_34 rfl (lv_at hl 2 rfl) ?_
        refine go_l (ru_N (n := 1) ⟨hx, hb, hml, hown, hts⟩ hk hP (c_X7_bit l D cI cL cZ (cAd ad) (cw ad cI cL cZ c_sr t_n t_r t_w s_w s_h s_c s_p s_s p_nx p_sz r_k r_r r_p l_z q_z t_t b_l b_b b_n r_t l_l l_b l_n q_l q_b q_n t_le s_cs s_ps s_ha s_en pk ik s_ro s_me s_be s_se s_co pl pb pn il ib im l_a q_a) p1 _ rfl) ⟨va_cnB 1 hts (gN q2_20) rfl rfl rfl (hk.2 _ nwm_X3_105) (hts _ q1_1) hd_X7_bit ⟨Nat.le_of_ble_eq_true rfl, Nat.le_of_ble_eq_true rfl⟩, hts _ q2_19, trivial⟩ rfl hl.1 rfl (Nat.le_of_ble_eq_true rfl) dX3_lookAtHands_35 ⟨Nat.zero_le _, Nat.zero_le _⟩) hS (fun _ h => h) (fun H locs hP hS => ?_)
        have hP : va_P D vwCl (cw ad cI cL cZ c_sr t_n t_r t_w s_w s_h s_c s_p s_s p_nx p_sz r_k r_r r_p l_z q_z t_t b_l b_b b_n r_t l_l l_b l_n q_l q_b q_n t_le s_cs s_ps s_ha s_en pk ik s_ro s_me s_be s_se s_co pl pb pn il ib im l_a q_a) H := hP
        obtain ⟨u1, hu1⟩ : ∃ z, f_X3_tell 1 (f_X7_bit p1) = z := ⟨_, rfl⟩
        have hr := (bd_eq hu1).symm.trans hr
        refine go_v (ru_V (n := 2) ⟨hx, hb, hml, hown, hts⟩ hk hP (c_X3_tell l D cI cL cZ ad c_sr t_n t_r t_w s_w s_h s_c s_p s_s p_nx p_sz r_k r_r r_p l_z q_z t_t b_l b_b b_n r_t l_l l_b l_n q_l q_b q_n t_le s_cs s_ps s_ha s_en pk ik s_ro s_me s_be s_se s_co pl pb pn il ib im l_a q_a hAd 1 (f_X7_bit p1) _ hu1) (cwV 2 hts (gV q3_9 q3_11 qs1_14 q1_8 q3_12) rfl rfl rfl hd_X3_tell ⟨Nat.le_of_ble_eq_true rfl, Nat.le_of_ble_eq_true rfl⟩) (va_recv hk.1 hP (ci := 3) (q0 := 25) rfl rfl) rfl hl.1 rfl (Nat.le_of_ble_eq_true rfl) dX3_lookAtHands_38 ⟨Nat.zero_le _, Nat.zero_le _⟩) hS (fun _ h => h) (fun H locs hP hS => ?_)
        have hP : va_P D vwCl (cw ad cI cL cZ c_sr t_n t_r t_w s_w s_h s_c s_p s_s p_nx p_sz u1.1 r_r r_p l_z q_z t_t b_l b_b b_n u1.2 l_l l_b l_n q_l q_b q_n t_le s_cs s_ps s_ha s_en pk ik s_ro s_me s_be s_se s_co pl pb pn il ib im l_a q_a) H := hP
        refine lv_goto (tgt := 64) hx hb dX3_lookAtHands_41 (by decide) ?_
        subst hr
        exact ret_v hx hb hrt hlocks hP hS dX3_lookAtHands_64
    · have hr := (if_pos c12).symm.trans hr
      refine lv_aload_n hx hb dX3_lookAtHands_15 rfl (lv_at hl 1 rfl) ?_
      refine lv_iconst (v := 2) hx hb dX3_lookAtHands_16 (by decide) ?_
      refine lv_iload_n hx hb dX3_lookAtHands_17 rfl (lv_at hl 2 rfl) ?_
      refine go_l (ru_N (n := 1) ⟨hx, hb, hml, hown, hts⟩ hk hP (c_X7_bit l D cI cL cZ (cAd ad) (cw ad cI cL cZ c_sr t_n t_r t_w s_w s_h s_c s_p s_s p_nx p_sz r_k r_r r_p l_z q_z t_t b_l b_b b_n r_t l_l l_b l_n q_l q_b q_n t_le s_cs s_ps s_ha s_en pk ik s_ro s_me s_be s_se s_co pl pb pn il ib im l_a q_a) p1 _ rfl) ⟨va_cnB 1 hts (gN q2_20) rfl rfl rfl (hk.2 _ nwm_X3_105) (hts _ q1_1) hd_X7_bit ⟨Nat.le_of_ble_eq_true rfl, Nat.le_of_ble_eq_true rfl⟩, hts _ q2_19, trivial⟩ rfl hl.1 rfl (Nat.le_of_ble_eq_true rfl) dX3_lookAtHands_18 ⟨Nat.zero_le _, Nat.zero_le _⟩) hS (fun _ h => h) (fun H locs hP hS => ?_)
      have hP : va_P D vwCl (cw ad cI cL cZ c_sr t_n t_r t_w s_w s_h s_c s_p s_s p_nx p_sz r_k r_r r_p l_z q_z t_t b_l b_b b_n r_t l_l l_b l_n q_l q_b q_n t_le s_cs s_ps s_ha s_en pk ik s_ro s_me s_be s_se s_co pl pb pn il ib im l_a q_a) H := hP
      obtain ⟨u2, hu2⟩ : ∃ z, f_X3_tell 2 (f_X7_bit p1) = z := ⟨_, rfl⟩
      have hr := (bd_eq hu2).symm.trans hr
      refine go_v (ru_V (n := 2) ⟨hx, hb, hml, hown, hts⟩ hk hP (c_X3_tell l D cI cL cZ ad c_sr t_n t_r t_w s_w s_h s_c s_p s_s p_nx p_sz r_k r_r r_p l_z q_z t_t b_l b_b b_n r_t l_l l_b l_n q_l q_b q_n t_le s_cs s_ps s_ha s_en pk ik s_ro s_me s_be s_se s_co pl pb pn il ib im l_a q_a hAd 2 (f_X7_bit p1) _ hu2) (cwV 2 hts (gV q3_9 q3_11 qs1_14 q1_8 q3_12) rfl rfl rfl hd_X3_tell ⟨Nat.le_of_ble_eq_true rfl, Nat.le_of_ble_eq_true rfl⟩) (va_recv hk.1 hP (ci := 3) (q0 := 25) rfl rfl) rfl hl.1 rfl (Nat.le_of_ble_eq_true rfl) dX3_lookAtHands_21 ⟨Nat.zero_le _, Nat.zero_le _⟩) hS (fun _ h => h) (fun H locs hP hS => ?_)
      have hP : va_P D vwCl (cw ad cI cL cZ c_sr t_n t_r t_w s_w s_h s_c s_p s_s p_nx p_sz u2.1 r_r r_p l_z q_z t_t b_l b_b b_n u2.2 l_l l_b l_n q_l q_b q_n t_le s_cs s_ps s_ha s_en pk ik s_ro s_me s_be s_se s_co pl pb pn il ib im l_a q_a) H := hP
      refine lv_goto (tgt := 64) hx hb dX3_lookAtHands_24 (by decide) ?_
      subst hr
      exact ret_v hx hb hrt hlocks hP hS dX3_lookAtHands_64
