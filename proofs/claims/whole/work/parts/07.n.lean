theorem hd_X7_bit : yX7_bit.cls ≠ "java/lang/invoke/MethodHandle" ∧ yX7_bit.cls ≠ "java/lang/invoke/VarHandle" ∧ (parseMethodDescriptor yX7_bit.desc).map (fun d => d.parameters.length) = some 1 := by decide +kernel
def f_X7_bit (p0 : Int32) : Int64 := shlL 1 p0
set_option maxHeartbeats 4000000 in
set_option maxRecDepth 100000 in
theorem c_X7_bit (l : Launch) (D : va_G) (cI cL cZ : ClassId) (A : Nat → Prop) (ws : va_W) (p0 : Int32) (r : Int64) (hr : f_X7_bit p0 = r) : ML l yX7_bit (Cond.code yX7_bit cX7_bit 1 (some .long) :: W0) 0 0 D cI cL cZ A [.int p0] ws r ws := by
  refine mk_start (cc := cX7_bit) (maxL := 1) (ret := (some .long)) (by decide) rfl (Nat.le_of_ble_eq_true rfl) ?_
  intro p e s m below meth c ls C hP hS hl
  obtain ⟨hx, hb, hml, hrt, hlocks, hown, hts, hk⟩ := C
  have hown : s.vm.findClass RX7 = some m.cls := hown
  have hl : lv_has ls 1 [(0, .int p0)] := hl
  rw [f_X7_bit] at hr
  refine lv_lconst (v := 1) hx hb dX7_bit_0 (by decide) ?_
  refine lv_iload_n hx hb dX7_bit_1 rfl (lv_at hl 0 rfl) ?_
  refine lv_lshl (v := shlL 1 p0) hx hb dX7_bit_2 rfl ?_
  subst hr
  exact ret_l hx hb hrt hlocks hP hS dX7_bit_3
theorem hd_X0_numberIn : yX0_numberIn.cls ≠ "java/lang/invoke/MethodHandle" ∧ yX0_numberIn.cls ≠ "java/lang/invoke/VarHandle" ∧ (parseMethodDescriptor yX0_numberIn.desc).map (fun d => d.parameters.length) = some 2 := by decide +kernel
def f_X0_numberIn (p0 : Int64) (p2 : Int32) : Int32 := (((ushrL p0 (4 * p2)) &&& 15).toInt32) - 1
set_option maxHeartbeats 4000000 in
set_option maxRecDepth 100000 in
theorem c_X0_numberIn (l : Launch) (D : va_G) (cI cL cZ : ClassId) (A : Nat → Prop) (ws : va_W) (p0 : Int64) (p2 : Int32) (r : Int32) (hr : f_X0_numberIn p0 p2 = r) : MI l yX0_numberIn (Cond.code yX0_numberIn cX0_numberIn 3 (some .int) :: W0) 0 0 D cI cL cZ A [.long p0, .int p2] ws r ws := by
  refine mk_start (cc := cX0_numberIn) (maxL := 3) (ret := (some .int)) (by decide) rfl (Nat.le_of_ble_eq_true rfl) ?_
  intro p e s m below meth c ls C hP hS hl
  obtain ⟨hx, hb, hml, hrt, hlocks, hown, hts, hk⟩ := C
  have hown : s.vm.findClass RX0 = some m.cls := hown
  have hl : lv_has ls 3 [(0, .long p0), (2, .int p2)] := hl
  rw [f_X0_numberIn] at hr
  refine lv_lload_n hx hb dX0_numberIn_0 rfl (lv_at hl 0 rfl) ?_
  refine lv_iconst (v := 4) hx hb dX0_numberIn_1 (by decide) ?_
  refine lv_iload_n hx hb dX0_numberIn_2 rfl (lv_at hl 1 rfl) ?_
  refine lv_imul hx hb dX0_numberIn_3 ?_
  refine lv_lushr (v := ushrL p0 (4 * p2)) hx hb dX0_numberIn_4 rfl ?_
  refine lv_ldc2 hx hb hown (hts _ q2_140) dX0_numberIn_5 ?_
  refine lv_land hx hb dX0_numberIn_8 ?_
  refine lv_l2i hx hb dX0_numberIn_9 rfl ?_
  refine lv_iconst (v := 1) hx hb dX0_numberIn_10 (by decide) ?_
  refine lv_isub hx hb dX0_numberIn_11 ?_
  subst hr
  exact ret_i hx hb hrt hlocks hP hS dX0_numberIn_12
theorem hd_X0_withNumber : yX0_withNumber.cls ≠ "java/lang/invoke/MethodHandle" ∧ yX0_withNumber.cls ≠ "java/lang/invoke/VarHandle" ∧ (parseMethodDescriptor yX0_withNumber.desc).map (fun d => d.parameters.length) = some 3 := by decide +kernel
def f_X0_withNumber (p0 : Int64) (p2 : Int32) (p3 : Int32) : Int64 := (p0 &&& ((shlL 15 (4 * p2)) ^^^ ((-1)))) ||| (shlL ((p3 + 1).toInt64) (4 * p2))
set_option maxHeartbeats 4000000 in
set_option maxRecDepth 100000 in
theorem c_X0_withNumber (l : Launch) (D : va_G) (cI cL cZ : ClassId) (A : Nat → Prop) (ws : va_W) (p0 : Int64) (p2 p3 : Int32) (r : Int64) (hr : f_X0_withNumber p0 p2 p3 = r) : ML l yX0_withNumber (Cond.code yX0_withNumber cX0_withNumber 6 (some .long) :: W0) 0 0 D cI cL cZ A [.long p0, .int p2, .int p3] ws r ws := by
  refine mk_start (cc := cX0_withNumber) (maxL := 6) (ret := (some .long)) (by decide) rfl (Nat.le_of_ble_eq_true rfl) ?_
  intro p e s m below meth c ls C hP hS hl
  obtain ⟨hx, hb, hml, hrt, hlocks, hown, hts, hk⟩ := C
  have hown : s.vm.findClass RX0 = some m.cls := hown
  have hl : lv_has ls 6 [(0, .long p0), (2, .int p2), (3, .int p3)] := hl
  rw [f_X0_withNumber] at hr
  refine lv_lload_n hx hb dX0_withNumber_0 rfl (lv_at hl 0 rfl) ?_
  refine lv_ldc2 hx hb hown (hts _ q2_140) dX0_withNumber_1 ?_
  refine lv_iconst (v := 4) hx hb dX0_withNumber_4 (by decide) ?_
  refine lv_iload_n hx hb dX0_withNumber_5 rfl (lv_at hl 1 rfl) ?_
  refine lv_imul hx hb dX0_withNumber_6 ?_
  refine lv_lshl (v := shlL 15 (4 * p2)) hx hb dX0_withNumber_7 rfl ?_
  refine lv_ldc2 hx hb hown (hts _ q2_141) dX0_withNumber_8 ?_
  refine lv_lxor hx hb dX0_withNumber_11 ?_
  refine lv_land hx hb dX0_withNumber_12 ?_
  refine lv_lstore (lv' := [(4, .long (p0 &&& ((shlL 15 (4 * p2)) ^^^ ((-1))))), (0, .long p0), (2, .int p2), (3, .int p3)]) hx hb dX0_withNumber_13 hl (by decide) rfl (fun ls hl => ?_)
  refine lv_lload hx hb dX0_withNumber_15 (lv_at hl 0 rfl) ?_
  refine lv_iload_n hx hb dX0_withNumber_17 rfl (lv_at hl 3 rfl) ?_
  refine lv_iconst (v := 1) hx hb dX0_withNumber_18 (by decide) ?_
  refine lv_iadd hx hb dX0_withNumber_19 ?_
  refine lv_i2l hx hb dX0_withNumber_20 rfl ?_
  refine lv_iconst (v := 4) hx hb dX0_withNumber_21 (by decide) ?_
  refine lv_iload_n hx hb dX0_withNumber_22 rfl (lv_at hl 2 rfl) ?_
  refine lv_imul hx hb dX0_withNumber_23 ?_
  refine lv_lshl (v := shlL ((p3 + 1).toInt64) (4 * p2)) hx hb dX0_withNumber_24 rfl ?_
  refine lv_lor hx hb dX0_withNumber_25 ?_
  subst hr
  exact ret_l hx hb hrt hlocks hP hS dX0_withNumber_26
theorem hd_X4_firstOrSecond : yX4_firstOrSecond.cls ≠ "java/lang/invoke/MethodHandle" ∧ yX4_firstOrSecond.cls ≠ "java/lang/invoke/VarHandle" ∧ (parseMethodDescriptor yX4_firstOrSecond.desc).map (fun d => d.parameters.length) = some 1 := by decide +kernel
def f_X4_firstOrSecond (p0 : Int32) : Int32 := (if p0 = 0 then 1 else (if p0 = 2 then 1 else 0))
set_option maxHeartbeats 4000000 in
set_option maxRecDepth 100000 in
theorem c_X4_firstOrSecond (l : Launch) (D : va_G) (cI cL cZ : ClassId) (A : Nat → Prop) (ws : va_W) (p0 : Int32) (r : Int32) (hr : f_X4_firstOrSecond p0 = r) : MI l yX4_firstOrSecond (Cond.code yX4_firstOrSecond cX4_firstOrSecond 1 (some .int) :: W0) 0 0 D cI cL cZ A [.int p0] ws r ws := by
  refine mk_start (cc := cX4_firstOrSecond) (maxL := 1) (ret := (some .int)) (by decide) rfl (Nat.le_of_ble_eq_true rfl) ?_
  intro p e s m below meth c ls C hP hS hl
  obtain ⟨hx, hb, hml, hrt, hlocks, hown, hts, hk⟩ := C
  have hown : s.vm.findClass RX4 = some m.cls := hown
  have hl : lv_has ls 1 [(0, .int p0)] := hl
  rw [f_X4_firstOrSecond] at hr
  refine lv_iload_n hx hb dX4_firstOrSecond_0 rfl (lv_at hl 0 rfl) ?_
  refine lv_if_eq (tgt := 9) hx hb dX4_firstOrSecond_1 (by decide) (fun c1 => ?_) (fun c1 => ?_)
  · have hr := (if_pos c1).symm.trans hr
    refine lv_iconst (v := 1) hx hb dX4_firstOrSecond_9 (by decide) ?_
    refine lv_goto (tgt := 14) hx hb dX4_firstOrSecond_10 (by decide) ?_
    subst hr
    exact ret_i hx hb hrt hlocks hP hS dX4_firstOrSecond_14
  · have hr := (if_neg c1).symm.trans hr
    refine lv_iload_n hx hb dX4_firstOrSecond_4 rfl (lv_at hl 0 rfl) ?_
    refine lv_iconst (v := 2) hx hb dX4_firstOrSecond_5 (by decide) ?_
    refine lv_icmp_ne (tgt := 13) hx hb dX4_firstOrSecond_6 (by decide) (fun c6 => ?_) (fun c6 => ?_)
    · have hr := (if_neg c6).symm.trans hr
      refine lv_iconst (v := 0) hx hb dX4_firstOrSecond_13 (by decide) ?_
      subst hr
      exact ret_i hx hb hrt hlocks hP hS dX4_firstOrSecond_14
    · have hr := (if_pos c6).symm.trans hr
      refine lv_iconst (v := 1) hx hb dX4_firstOrSecond_9 (by decide) ?_
      refine lv_goto (tgt := 14) hx hb dX4_firstOrSecond_10 (by decide) ?_
      subst hr
      exact ret_i hx hb hrt hlocks hP hS dX4_firstOrSecond_14
theorem hd_X6_numberOfSign : yX6_numberOfSign.cls ≠ "java/lang/invoke/MethodHandle" ∧ yX6_numberOfSign.cls ≠ "java/lang/invoke/VarHandle" ∧ (parseMethodDescriptor yX6_numberOfSign.desc).map (fun d => d.parameters.length) = some 1 := by decide +kernel
def f_X6_numberOfSign (p0 : Int32) : Int32 := (if p0 = 46 then (-1) else (if p0 < 48 then (-2) else (if 52 < p0 then (-2) else p0 - 48)))
set_option maxHeartbeats 4000000 in
set_option maxRecDepth 100000 in
theorem c_X6_numberOfSign (l : Launch) (D : va_G) (cI cL cZ : ClassId) (A : Nat → Prop) (ws : va_W) (p0 : Int32) (r : Int32) (hr : f_X6_numberOfSign p0 = r) : MI l yX6_numberOfSign (Cond.code yX6_numberOfSign cX6_numberOfSign 1 (some .int) :: W0) 0 0 D cI cL cZ A [.int p0] ws r ws := by
  refine mk_start (cc := cX6_numberOfSign) (maxL := 1) (ret := (some .int)) (by decide) rfl (Nat.le_of_ble_eq_true rfl) ?_
  intro p e s m below meth c ls C hP hS hl
  obtain ⟨hx, hb, hml, hrt, hlocks, hown, hts, hk⟩ := C
  have hown : s.vm.findClass RX6 = some m.cls := hown
  have hl : lv_has ls 1 [(0, .int p0)] := hl
  rw [f_X6_numberOfSign] at hr
  refine lv_iload_n hx hb dX6_numberOfSign_0 rfl (lv_at hl 0 rfl) ?_
  refine lv_bipush (v := 46) hx hb dX6_numberOfSign_1 (by decide) ?_
  refine lv_icmp_ne (tgt := 8) hx hb dX6_numberOfSign_3 (by decide) (fun c3 => ?_) (fun c3 => ?_)
  · have hr := (if_neg c3).symm.trans hr
    refine lv_iload_n hx hb dX6_numberOfSign_8 rfl (lv_at hl 0 rfl) ?_
    refine lv_bipush (v := 48) hx hb dX6_numberOfSign_9 (by decide) ?_
    refine lv_icmp_lt (tgt := 27) hx hb dX6_numberOfSign_11 (by decide) (fun c11 => ?_) (fun c11 => ?_)
    · have hr := (if_pos c11).symm.trans hr
      refine lv_bipush (v := (-2)) hx hb dX6_numberOfSign_27 (by decide) ?_
      subst hr
      exact ret_i hx hb hrt hlocks hP hS dX6_numberOfSign_29
    · have hr := (if_neg c11).symm.trans hr
      refine lv_iload_n hx hb dX6_numberOfSign_14 rfl (lv_at hl 0 rfl) ?_
      refine lv_bipush (v := 52) hx hb dX6_numberOfSign_15 (by decide) ?_
      refine lv_icmp_gt (tgt := 27) hx hb dX6_numberOfSign_17 (by decide) (fun c17 => ?_) (fun c17 => ?_)
      · have hr := (if_pos c17).symm.trans hr
        refine lv_bipush (v := (-2)) hx hb dX6_numberOfSign_27 (by decide) ?_
        subst hr
        exact ret_i hx hb hrt hlocks hP hS dX6_numberOfSign_29
      · have hr := (if_neg c17).symm.trans hr
        refine lv_iload_n hx hb dX6_numberOfSign_20 rfl (lv_at hl 0 rfl) ?_
        refine lv_bipush (v := 48) hx hb dX6_numberOfSign_21 (by decide) ?_
        refine lv_isub hx hb dX6_numberOfSign_23 ?_
        refine lv_goto (tgt := 29) hx hb dX6_numberOfSign_24 (by decide) ?_
        subst hr
        exact ret_i hx hb hrt hlocks hP hS dX6_numberOfSign_29
  · have hr := (if_pos c3).symm.trans hr
    refine lv_iconst (v := (-1)) hx hb dX6_numberOfSign_6 (by decide) ?_
    subst hr
    exact ret_i hx hb hrt hlocks hP hS dX6_numberOfSign_7
theorem hd_J13_bitCount_95d88 : yJ13_bitCount_95d88.cls ≠ "java/lang/invoke/MethodHandle" ∧ yJ13_bitCount_95d88.cls ≠ "java/lang/invoke/VarHandle" ∧ (parseMethodDescriptor yJ13_bitCount_95d88.desc).map (fun d => d.parameters.length) = some 1 := by decide +kernel
def f_J13_bitCount_95d88 (p0 : Int64) : Int32 := (bd (((p0 - ((ushrL p0 1) &&& 6148914691236517205)) &&& 3689348814741910323) + ((ushrL (p0 - ((ushrL p0 1) &&& 6148914691236517205)) 2) &&& 3689348814741910323)) (fun v1 => (bd (((v1 + (ushrL v1 4)) &&& 1085102592571150095) + (ushrL ((v1 + (ushrL v1 4)) &&& 1085102592571150095) 8)) (fun v2 => (((v2 + (ushrL v2 16)) + (ushrL (v2 + (ushrL v2 16)) 32)).toInt32) &&& 127))))
set_option maxHeartbeats 4000000 in
set_option maxRecDepth 100000 in
theorem c_J13_bitCount_95d88 (l : Launch) (D : va_G) (cI cL cZ : ClassId) (A : Nat → Prop) (ws : va_W) (p0 : Int64) (r : Int32) (hr : f_J13_bitCount_95d88 p0 = r) : MI l yJ13_bitCount_95d88 (Cond.code yJ13_bitCount_95d88 cJ13_bitCount_95d88 2 (some .int) :: W0) 0 0 D cI cL cZ A [.long p0] ws r ws := by
  refine mk_start (cc := cJ13_bitCount_95d88) (maxL := 2) (ret := (some .int)) (by decide) rfl (Nat.le_of_ble_eq_true rfl) ?_
  intro p e s m below meth c ls C hP hS hl
  obtain ⟨hx, hb, hml, hrt, hlocks, hown, hts, hk⟩ := C
  have hown : s.vm.findClass RJ13 = some m.cls := hown
  have hl : lv_has ls 2 [(0, .long p0)] := hl
  rw [f_J13_bitCount_95d88] at hr
  refine lv_lload_n hx hb dJ13_bitCount_95d88_0 rfl (lv_at hl 0 rfl) ?_
  refine lv_lload_n hx hb dJ13_bitCount_95d88_1 rfl (lv_at hl 0 rfl) ?_
  refine lv_iconst (v := 1) hx hb dJ13_bitCount_95d88_2 (by decide) ?_
  refine lv_lushr (v := ushrL p0 1) hx hb dJ13_bitCount_95d88_3 rfl ?_
  refine lv_ldc2 hx hb hown (hts _ q3_6) dJ13_bitCount_95d88_4 ?_
  refine lv_land hx hb dJ13_bitCount_95d88_7 ?_
  refine lv_lsub hx hb dJ13_bitCount_95d88_8 ?_
  refine lv_lstore_n (lv' := [(0, .long (p0 - ((ushrL p0 1) &&& 6148914691236517205)))]) hx hb dJ13_bitCount_95d88_9 rfl hl (by decide) rfl (fun ls hl => ?_)
  refine lv_lload_n hx hb dJ13_bitCount_95d88_10 rfl (lv_at hl 0 rfl) ?_
  refine lv_ldc2 hx hb hown (hts _ q3_7) dJ13_bitCount_95d88_11 ?_
  refine lv_land hx hb dJ13_bitCount_95d88_14 ?_
  refine lv_lload_n hx hb dJ13_bitCount_95d88_15 rfl (lv_at hl 0 rfl) ?_
  refine lv_iconst (v := 2) hx hb dJ13_bitCount_95d88_16 (by decide) ?_
  refine lv_lushr (v := ushrL (p0 - ((ushrL p0 1) &&& 6148914691236517205)) 2) hx hb dJ13_bitCount_95d88_17 rfl ?_
  refine lv_ldc2 hx hb hown (hts _ q3_7) dJ13_bitCount_95d88_18 ?_
  refine lv_land hx hb dJ13_bitCount_95d88_21 ?_
  refine lv_ladd hx hb dJ13_bitCount_95d88_22 ?_
  refine lv_topl (fun v1 ev1 => ?_)
  have hr := (bd_eq ev1.symm).symm.trans hr
  refine lv_lstore_n (lv' := [(0, .long v1)]) hx hb dJ13_bitCount_95d88_23 rfl hl (by decide) rfl (fun ls hl => ?_)
  refine lv_lload_n hx hb dJ13_bitCount_95d88_24 rfl (lv_at hl 0 rfl) ?_
  refine lv_lload_n hx hb dJ13_bitCount_95d88_25 rfl (lv_at hl 0 rfl) ?_
  refine lv_iconst (v := 4) hx hb dJ13_bitCount_95d88_26 (by decide) ?_
  refine lv_lushr (v := ushrL v1 4) hx hb dJ13_bitCount_95d88_27 rfl ?_
  refine lv_ladd hx hb dJ13_bitCount_95d88_28 ?_
  refine lv_ldc2 hx hb hown (hts _ q3_8) dJ13_bitCount_95d88_29 ?_
  refine lv_land hx hb dJ13_bitCount_95d88_32 ?_
  refine lv_lstore_n (lv' := [(0, .long ((v1 + (ushrL v1 4)) &&& 1085102592571150095))]) hx hb dJ13_bitCount_95d88_33 rfl hl (by decide) rfl (fun ls hl => ?_)
  refine lv_lload_n hx hb dJ13_bitCount_95d88_34 rfl (lv_at hl 0 rfl) ?_
  refine lv_lload_n hx hb dJ13_bitCount_95d88_35 rfl (lv_at hl 0 rfl) ?_
  refine lv_bipush (v := 8) hx hb dJ13_bitCount_95d88_36 (by decide) ?_
  refine lv_lushr (v := ushrL ((v1 + (ushrL v1 4)) &&& 1085102592571150095) 8) hx hb dJ13_bitCount_95d88_38 rfl ?_
  refine lv_ladd hx hb dJ13_bitCount_95d88_39 ?_
  refine lv_topl (fun v2 ev2 => ?_)
  have hr := (bd_eq ev2.symm).symm.trans hr
  refine lv_lstore_n (lv' := [(0, .long v2)]) hx hb dJ13_bitCount_95d88_40 rfl hl (by decide) rfl (fun ls hl => ?_)
  refine lv_lload_n hx hb dJ13_bitCount_95d88_41 rfl (lv_at hl 0 rfl) ?_
  refine lv_lload_n hx hb dJ13_bitCount_95d88_42 rfl (lv_at hl 0 rfl) ?_
  refine lv_bipush (v := 16) hx hb dJ13_bitCount_95d88_43 (by decide) ?_
  refine lv_lushr (v := ushrL v2 16) hx hb dJ13_bitCount_95d88_45 rfl ?_
  refine lv_ladd hx hb dJ13_bitCount_95d88_46 ?_
  refine lv_lstore_n (lv' := [(0, .long (v2 + (ushrL v2 16)))]) hx hb dJ13_bitCount_95d88_47 rfl hl (by decide) rfl (fun ls hl => ?_)
  refine lv_lload_n hx hb dJ13_bitCount_95d88_48 rfl (lv_at hl 0 rfl) ?_
  refine lv_lload_n hx hb dJ13_bitCount_95d88_49 rfl (lv_at hl 0 rfl) ?_
  refine lv_bipush (v := 32) hx hb dJ13_bitCount_95d88_50 (by decide) ?_
  refine lv_lushr (v := ushrL (v2 + (ushrL v2 16)) 32) hx hb dJ13_bitCount_95d88_52 rfl ?_
  refine lv_ladd hx hb dJ13_bitCount_95d88_53 ?_
  refine lv_lstore_n (lv' := [(0, .long ((v2 + (ushrL v2 16)) + (ushrL (v2 + (ushrL v2 16)) 32)))]) hx hb dJ13_bitCount_95d88_54 rfl hl (by decide) rfl (fun ls hl => ?_)
  refine lv_lload_n hx hb dJ13_bitCount_95d88_55 rfl (lv_at hl 0 rfl) ?_
  refine lv_l2i hx hb dJ13_bitCount_95d88_56 rfl ?_
  refine lv_bipush (v := 127) hx hb dJ13_bitCount_95d88_57 (by decide) ?_
  refine lv_iand hx hb dJ13_bitCount_95d88_59 ?_
  subst hr
  exact ret_i hx hb hrt hlocks hP hS dJ13_bitCount_95d88_60
theorem hd_J6_numberOfTrailingZeros_0f7a4 : yJ6_numberOfTrailingZeros_0f7a4.cls ≠ "java/lang/invoke/MethodHandle" ∧ yJ6_numberOfTrailingZeros_0f7a4.cls ≠ "java/lang/invoke/VarHandle" ∧ (parseMethodDescriptor yJ6_numberOfTrailingZeros_0f7a4.desc).map (fun d => d.parameters.length) = some 1 := by decide +kernel
def f_J6_numberOfTrailingZeros_0f7a4 (p0 : Int32) : Int32 := (if 0 < ((p0 ^^^ ((-1))) &&& (p0 - 1)) then (if ((p0 ^^^ ((-1))) &&& (p0 - 1)) ≤ 65536 then (if ((p0 ^^^ ((-1))) &&& (p0 - 1)) ≤ 256 then (if ((p0 ^^^ ((-1))) &&& (p0 - 1)) ≤ 16 then (if ((p0 ^^^ ((-1))) &&& (p0 - 1)) ≤ 4 then 1 + (ushrI ((p0 ^^^ ((-1))) &&& (p0 - 1)) 1) else (1 + 2) + (ushrI (ushrI ((p0 ^^^ ((-1))) &&& (p0 - 1)) 2) 1)) else (if (ushrI ((p0 ^^^ ((-1))) &&& (p0 - 1)) 4) ≤ 4 then (1 + 4) + (ushrI (ushrI ((p0 ^^^ ((-1))) &&& (p0 - 1)) 4) 1) else ((1 + 4) + 2) + (ushrI (ushrI (ushrI ((p0 ^^^ ((-1))) &&& (p0 - 1)) 4) 2) 1))) else (if (ushrI ((p0 ^^^ ((-1))) &&& (p0 - 1)) 8) ≤ 16 then (if (ushrI ((p0 ^^^ ((-1))) &&& (p0 - 1)) 8) ≤ 4 then (1 + 8) + (ushrI (ushrI ((p0 ^^^ ((-1))) &&& (p0 - 1)) 8) 1) else ((1 + 8) + 2) + (ushrI (ushrI (ushrI ((p0 ^^^ ((-1))) &&& (p0 - 1)) 8) 2) 1)) else (if (ushrI (ushrI ((p0 ^^^ ((-1))) &&& (p0 - 1)) 8) 4) ≤ 4 then ((1 + 8) + 4) + (ushrI (ushrI (ushrI ((p0 ^^^ ((-1))) &&& (p0 - 1)) 8) 4) 1) else (((1 + 8) + 4) + 2) + (ushrI (ushrI (ushrI (ushrI ((p0 ^^^ ((-1))) &&& (p0 - 1)) 8) 4) 2) 1)))) else (if (ushrI ((p0 ^^^ ((-1))) &&& (p0 - 1)) 16) ≤ 256 then (if (ushrI ((p0 ^^^ ((-1))) &&& (p0 - 1)) 16) ≤ 16 then (if (ushrI ((p0 ^^^ ((-1))) &&& (p0 - 1)) 16) ≤ 4 then (1 + 16) + (ushrI (ushrI ((p0 ^^^ ((-1))) &&& (p0 - 1)) 16) 1) else ((1 + 16) + 2) + (ushrI (ushrI (ushrI ((p0 ^^^ ((-1))) &&& (p0 - 1)) 16) 2) 1)) else (if (ushrI (ushrI ((p0 ^^^ ((-1))) &&& (p0 - 1)) 16) 4) ≤ 4 then ((1 + 16) + 4) + (ushrI (ushrI (ushrI ((p0 ^^^ ((-1))) &&& (p0 - 1)) 16) 4) 1) else (((1 + 16) + 4) + 2) + (ushrI (ushrI (ushrI (ushrI ((p0 ^^^ ((-1))) &&& (p0 - 1)) 16) 4) 2) 1))) else (if (ushrI (ushrI ((p0 ^^^ ((-1))) &&& (p0 - 1)) 16) 8) ≤ 16 then (if (ushrI (ushrI ((p0 ^^^ ((-1))) &&& (p0 - 1)) 16) 8) ≤ 4 then ((1 + 16) + 8) + (ushrI (ushrI (ushrI ((p0 ^^^ ((-1))) &&& (p0 - 1)) 16) 8) 1) else (((1 + 16) + 8) + 2) + (ushrI (ushrI (ushrI (ushrI ((p0 ^^^ ((-1))) &&& (p0 - 1)) 16) 8) 2) 1)) else (if (ushrI (ushrI (ushrI ((p0 ^^^ ((-1))) &&& (p0 - 1)) 16) 8) 4) ≤ 4 then (((1 + 16) + 8) + 4) + (ushrI (ushrI (ushrI (ushrI ((p0 ^^^ ((-1))) &&& (p0 - 1)) 16) 8) 4) 1) else ((((1 + 16) + 8) + 4) + 2) + (ushrI (ushrI (ushrI (ushrI (ushrI ((p0 ^^^ ((-1))) &&& (p0 - 1)) 16) 8) 4) 2) 1))))) else ((p0 ^^^ ((-1))) &&& (p0 - 1)) &&& 32)
set_option maxHeartbeats 4000000 in
set_option maxRecDepth 100000 in
theorem c_J6_numberOfTrailingZeros_0f7a4 (l : Launch) (D : va_G) (cI cL cZ : ClassId) (A : Nat → Prop) (ws : va_W) (p0 : Int32) (r : Int32) (hr : f_J6_numberOfTrailingZeros_0f7a4 p0 = r) : MI l yJ6_numberOfTrailingZeros_0f7a4 (Cond.code yJ6_numberOfTrailingZeros_0f7a4 cJ6_numberOfTrailingZeros_0f7a4 2 (some .int) :: W0) 0 0 D cI cL cZ A [.int p0] ws r ws := by
  refine mk_start (cc := cJ6_numberOfTrailingZeros_0f7a4) (maxL := 2) (ret := (some .int)) (by decide) rfl (Nat.le_of_ble_eq_true rfl) ?_
  intro p e s m below meth c ls C hP hS hl
  obtain ⟨hx, hb, hml, hrt, hlocks, hown, hts, hk⟩ := C
  have hown : s.vm.findClass RJ6 = some m.cls := hown
  have hl : lv_has ls 2 [(0, .int p0)] := hl
  rw [f_J6_numberOfTrailingZeros_0f7a4] at hr
  refine lv_iload_n hx hb dJ6_numberOfTrailingZeros_0f7a4_0 rfl (lv_at hl 0 rfl) ?_
  refine lv_iconst (v := (-1)) hx hb dJ6_numberOfTrailingZeros_0f7a4_1 (by decide) ?_
  refine lv_ixor hx hb dJ6_numberOfTrailingZeros_0f7a4_2 ?_
  refine lv_iload_n hx hb dJ6_numberOfTrailingZeros_0f7a4_3 rfl (lv_at hl 0 rfl) ?_
  refine lv_iconst (v := 1) hx hb dJ6_numberOfTrailingZeros_0f7a4_4 (by decide) ?_
  refine lv_isub hx hb dJ6_numberOfTrailingZeros_0f7a4_5 ?_
  refine lv_iand hx hb dJ6_numberOfTrailingZeros_0f7a4_6 ?_
  refine lv_istore_n (lv' := [(0, .int ((p0 ^^^ ((-1))) &&& (p0 - 1)))]) hx hb dJ6_numberOfTrailingZeros_0f7a4_7 rfl hl (by decide) rfl (fun ls hl => ?_)
  refine lv_iload_n hx hb dJ6_numberOfTrailingZeros_0f7a4_8 rfl (lv_at hl 0 rfl) ?_
  refine lv_if_gt (tgt := 17) hx hb dJ6_numberOfTrailingZeros_0f7a4_9 (by decide) (fun c9 => ?_) (fun c9 => ?_)
  · have hr := (if_pos c9).symm.trans hr
    refine lv_iconst (v := 1) hx hb dJ6_numberOfTrailingZeros_0f7a4_17 (by decide) ?_
    refine lv_istore_n (lv' := [(1, .int 1), (0, .int ((p0 ^^^ ((-1))) &&& (p0 - 1)))]) hx hb dJ6_numberOfTrailingZeros_0f7a4_18 rfl hl (by decide) rfl (fun ls hl => ?_)
    refine lv_iload_n hx hb dJ6_numberOfTrailingZeros_0f7a4_19 rfl (lv_at hl 1 rfl) ?_
    refine lv_ldcw hx hb hown (hts _ q3_33) dJ6_numberOfTrailingZeros_0f7a4_20 ?_
    refine lv_icmp_le (tgt := 34) hx hb dJ6_numberOfTrailingZeros_0f7a4_23 (by decide) (fun c23 => ?_) (fun c23 => ?_)
    · have hr := (if_pos c23).symm.trans hr
      refine lv_iload_n hx hb dJ6_numberOfTrailingZeros_0f7a4_34 rfl (lv_at hl 1 rfl) ?_
      refine lv_sipush (v := 256) hx hb dJ6_numberOfTrailingZeros_0f7a4_35 (by decide) ?_
      refine lv_icmp_le (tgt := 49) hx hb dJ6_numberOfTrailingZeros_0f7a4_38 (by decide) (fun c38 => ?_) (fun c38 => ?_)
      · have hr := (if_pos c38).symm.trans hr
        refine lv_iload_n hx hb dJ6_numberOfTrailingZeros_0f7a4_49 rfl (lv_at hl 1 rfl) ?_
        refine lv_bipush (v := 16) hx hb dJ6_numberOfTrailingZeros_0f7a4_50 (by decide) ?_
        refine lv_icmp_le (tgt := 62) hx hb dJ6_numberOfTrailingZeros_0f7a4_52 (by decide) (fun c52 => ?_) (fun c52 => ?_)
        · have hr := (if_pos c52).symm.trans hr
          refine lv_iload_n hx hb dJ6_numberOfTrailingZeros_0f7a4_62 rfl (lv_at hl 1 rfl) ?_
          refine lv_iconst (v := 4) hx hb dJ6_numberOfTrailingZeros_0f7a4_63 (by decide) ?_
          refine lv_icmp_le (tgt := 74) hx hb dJ6_numberOfTrailingZeros_0f7a4_64 (by decide) (fun c64 => ?_) (fun c64 => ?_)
          · have hr := (if_pos c64).symm.trans hr
            refine lv_iload_n hx hb dJ6_numberOfTrailingZeros_0f7a4_74 rfl (lv_at hl 0 rfl) ?_
            refine lv_iload_n hx hb dJ6_numberOfTrailingZeros_0f7a4_75 rfl (lv_at hl 1 rfl) ?_
            refine lv_iconst (v := 1) hx hb dJ6_numberOfTrailingZeros_0f7a4_76 (by decide) ?_
            refine lv_iushr (v := ushrI ((p0 ^^^ ((-1))) &&& (p0 - 1)) 1) hx hb dJ6_numberOfTrailingZeros_0f7a4_77 rfl ?_
            refine lv_iadd hx hb dJ6_numberOfTrailingZeros_0f7a4_78 ?_
            subst hr
            exact ret_i hx hb hrt hlocks hP hS dJ6_numberOfTrailingZeros_0f7a4_79
          · have hr := (if_neg c64).symm.trans hr
            refine lv_iinc (v := 1 + 2) (lv' := [(1, .int (1 + 2)), (0, .int ((p0 ^^^ ((-1))) &&& (p0 - 1)))]) hx hb dJ6_numberOfTrailingZeros_0f7a4_67 hl (k := 0) rfl rfl (by decide) rfl (fun ls hl => ?_)
            refine lv_iload_n hx hb dJ6_numberOfTrailingZeros_0f7a4_70 rfl (lv_at hl 1 rfl) ?_
            refine lv_iconst (v := 2) hx hb dJ6_numberOfTrailingZeros_0f7a4_71 (by decide) ?_
            refine lv_iushr (v := ushrI ((p0 ^^^ ((-1))) &&& (p0 - 1)) 2) hx hb dJ6_numberOfTrailingZeros_0f7a4_72 rfl ?_
            refine lv_istore_n (lv' := [(0, .int (ushrI ((p0 ^^^ ((-1))) &&& (p0 - 1)) 2)), (1, .int (1 + 2))]) hx hb dJ6_numberOfTrailingZeros_0f7a4_73 rfl hl (by decide) rfl (fun ls hl => ?_)
            refine lv_iload_n hx hb dJ6_numberOfTrailingZeros_0f7a4_74 rfl (lv_at hl 1 rfl) ?_
            refine lv_iload_n hx hb dJ6_numberOfTrailingZeros_0f7a4_75 rfl (lv_at hl 0 rfl) ?_
            refine lv_iconst (v := 1) hx hb dJ6_numberOfTrailingZeros_0f7a4_76 (by decide) ?_
            refine lv_iushr (v := ushrI (ushrI ((p0 ^^^ ((-1))) &&& (p0 - 1)) 2) 1) hx hb dJ6_numberOfTrailingZeros_0f7a4_77 rfl ?_
            refine lv_iadd hx hb dJ6_numberOfTrailingZeros_0f7a4_78 ?_
            subst hr
            exact ret_i hx hb hrt hlocks hP hS dJ6_numberOfTrailingZeros_0f7a4_79
        · have hr := (if_neg c52).symm.trans hr
          refine lv_iinc (v := 1 + 4) (lv' := [(1, .int (1 + 4)), (0, .int ((p0 ^^^ ((-1))) &&& (p0 - 1)))]) hx hb dJ6_numberOfTrailingZeros_0f7a4_55 hl (k := 0) rfl rfl (by decide) rfl (fun ls hl => ?_)
          refine lv_iload_n hx hb dJ6_numberOfTrailingZeros_0f7a4_58 rfl (lv_at hl 1 rfl) ?_
          refine lv_iconst (v := 4) hx hb dJ6_numberOfTrailingZeros_0f7a4_59 (by decide) ?_
          refine lv_iushr (v := ushrI ((p0 ^^^ ((-1))) &&& (p0 - 1)) 4) hx hb dJ6_numberOfTrailingZeros_0f7a4_60 rfl ?_
          refine lv_istore_n (lv' := [(0, .int (ushrI ((p0 ^^^ ((-1))) &&& (p0 - 1)) 4)), (1, .int (1 + 4))]) hx hb dJ6_numberOfTrailingZeros_0f7a4_61 rfl hl (by decide) rfl (fun ls hl => ?_)
          refine lv_iload_n hx hb dJ6_numberOfTrailingZeros_0f7a4_62 rfl (lv_at hl 0 rfl) ?_
          refine lv_iconst (v := 4) hx hb dJ6_numberOfTrailingZeros_0f7a4_63 (by decide) ?_
          refine lv_icmp_le (tgt := 74) hx hb dJ6_numberOfTrailingZeros_0f7a4_64 (by decide) (fun c64 => ?_) (fun c64 => ?_)
          · have hr := (if_pos c64).symm.trans hr
            refine lv_iload_n hx hb dJ6_numberOfTrailingZeros_0f7a4_74 rfl (lv_at hl 1 rfl) ?_
            refine lv_iload_n hx hb dJ6_numberOfTrailingZeros_0f7a4_75 rfl (lv_at hl 0 rfl) ?_
            refine lv_iconst (v := 1) hx hb dJ6_numberOfTrailingZeros_0f7a4_76 (by decide) ?_
            refine lv_iushr (v := ushrI (ushrI ((p0 ^^^ ((-1))) &&& (p0 - 1)) 4) 1) hx hb dJ6_numberOfTrailingZeros_0f7a4_77 rfl ?_
            refine lv_iadd hx hb dJ6_numberOfTrailingZeros_0f7a4_78 ?_
            subst hr
            exact ret_i hx hb hrt hlocks hP hS dJ6_numberOfTrailingZeros_0f7a4_79
          · have hr := (if_neg c64).symm.trans hr
            refine lv_iinc (v := (1 + 4) + 2) (lv' := [(1, .int ((1 + 4) + 2)), (0, .int (ushrI ((p0 ^^^ ((-1))) &&& (p0 - 1)) 4))]) hx hb dJ6_numberOfTrailingZeros_0f7a4_67 hl (k := 1) rfl rfl (by decide) rfl (fun ls hl => ?_)
            refine lv_iload_n hx hb dJ6_numberOfTrailingZeros_0f7a4_70 rfl (lv_at hl 1 rfl) ?_
            refine lv_iconst (v := 2) hx hb dJ6_numberOfTrailingZeros_0f7a4_71 (by decide) ?_
            refine lv_iushr (v := ushrI (ushrI ((p0 ^^^ ((-1))) &&& (p0 - 1)) 4) 2) hx hb dJ6_numberOfTrailingZeros_0f7a4_72 rfl ?_
            refine lv_istore_n (lv' := [(0, .int (ushrI (ushrI ((p0 ^^^ ((-1))) &&& (p0 - 1)) 4) 2)), (1, .int ((1 + 4) + 2))]) hx hb dJ6_numberOfTrailingZeros_0f7a4_73 rfl hl (by decide) rfl (fun ls hl => ?_)
            refine lv_iload_n hx hb dJ6_numberOfTrailingZeros_0f7a4_74 rfl (lv_at hl 1 rfl) ?_
            refine lv_iload_n hx hb dJ6_numberOfTrailingZeros_0f7a4_75 rfl (lv_at hl 0 rfl) ?_
            refine lv_iconst (v := 1) hx hb dJ6_numberOfTrailingZeros_0f7a4_76 (by decide) ?_
            refine lv_iushr (v := ushrI (ushrI (ushrI ((p0 ^^^ ((-1))) &&& (p0 - 1)) 4) 2) 1) hx hb dJ6_numberOfTrailingZeros_0f7a4_77 rfl ?_
            refine lv_iadd hx hb dJ6_numberOfTrailingZeros_0f7a4_78 ?_
            subst hr
            exact ret_i hx hb hrt hlocks hP hS dJ6_numberOfTrailingZeros_0f7a4_79
      · have hr := (if_neg c38).symm.trans hr
        refine lv_iinc (v := 1 + 8) (lv' := [(1, .int (1 + 8)), (0, .int ((p0 ^^^ ((-1))) &&& (p0 - 1)))]) hx hb dJ6_numberOfTrailingZeros_0f7a4_41 hl (k := 0) rfl rfl (by decide) rfl (fun ls hl => ?_)
        refine lv_iload_n hx hb dJ6_numberOfTrailingZeros_0f7a4_44 rfl (lv_at hl 1 rfl) ?_
        refine lv_bipush (v := 8) hx hb dJ6_numberOfTrailingZeros_0f7a4_45 (by decide) ?_
        refine lv_iushr (v := ushrI ((p0 ^^^ ((-1))) &&& (p0 - 1)) 8) hx hb dJ6_numberOfTrailingZeros_0f7a4_47 rfl ?_
        refine lv_istore_n (lv' := [(0, .int (ushrI ((p0 ^^^ ((-1))) &&& (p0 - 1)) 8)), (1, .int (1 + 8))]) hx hb dJ6_numberOfTrailingZeros_0f7a4_48 rfl hl (by decide) rfl (fun ls hl => ?_)
        refine lv_iload_n hx hb dJ6_numberOfTrailingZeros_0f7a4_49 rfl (lv_at hl 0 rfl) ?_
        refine lv_bipush (v := 16) hx hb dJ6_numberOfTrailingZeros_0f7a4_50 (by decide) ?_
        refine lv_icmp_le (tgt := 62) hx hb dJ6_numberOfTrailingZeros_0f7a4_52 (by decide) (fun c52 => ?_) (fun c52 => ?_)
        · have hr := (if_pos c52).symm.trans hr
          refine lv_iload_n hx hb dJ6_numberOfTrailingZeros_0f7a4_62 rfl (lv_at hl 0 rfl) ?_
          refine lv_iconst (v := 4) hx hb dJ6_numberOfTrailingZeros_0f7a4_63 (by decide) ?_
          refine lv_icmp_le (tgt := 74) hx hb dJ6_numberOfTrailingZeros_0f7a4_64 (by decide) (fun c64 => ?_) (fun c64 => ?_)
          · have hr := (if_pos c64).symm.trans hr
            refine lv_iload_n hx hb dJ6_numberOfTrailingZeros_0f7a4_74 rfl (lv_at hl 1 rfl) ?_
            refine lv_iload_n hx hb dJ6_numberOfTrailingZeros_0f7a4_75 rfl (lv_at hl 0 rfl) ?_
            refine lv_iconst (v := 1) hx hb dJ6_numberOfTrailingZeros_0f7a4_76 (by decide) ?_
            refine lv_iushr (v := ushrI (ushrI ((p0 ^^^ ((-1))) &&& (p0 - 1)) 8) 1) hx hb dJ6_numberOfTrailingZeros_0f7a4_77 rfl ?_
            refine lv_iadd hx hb dJ6_numberOfTrailingZeros_0f7a4_78 ?_
            subst hr
            exact ret_i hx hb hrt hlocks hP hS dJ6_numberOfTrailingZeros_0f7a4_79
          · have hr := (if_neg c64).symm.trans hr
            refine lv_iinc (v := (1 + 8) + 2) (lv' := [(1, .int ((1 + 8) + 2)), (0, .int (ushrI ((p0 ^^^ ((-1))) &&& (p0 - 1)) 8))]) hx hb dJ6_numberOfTrailingZeros_0f7a4_67 hl (k := 1) rfl rfl (by decide) rfl (fun ls hl => ?_)
            refine lv_iload_n hx hb dJ6_numberOfTrailingZeros_0f7a4_70 rfl (lv_at hl 1 rfl) ?_
            refine lv_iconst (v := 2) hx hb dJ6_numberOfTrailingZeros_0f7a4_71 (by decide) ?_
            refine lv_iushr (v := ushrI (ushrI ((p0 ^^^ ((-1))) &&& (p0 - 1)) 8) 2) hx hb dJ6_numberOfTrailingZeros_0f7a4_72 rfl ?_
            refine lv_istore_n (lv' := [(0, .int (ushrI (ushrI ((p0 ^^^ ((-1))) &&& (p0 - 1)) 8) 2)), (1, .int ((1 + 8) + 2))]) hx hb dJ6_numberOfTrailingZeros_0f7a4_73 rfl hl (by decide) rfl (fun ls hl => ?_)
            refine lv_iload_n hx hb dJ6_numberOfTrailingZeros_0f7a4_74 rfl (lv_at hl 1 rfl) ?_
            refine lv_iload_n hx hb dJ6_numberOfTrailingZeros_0f7a4_75 rfl (lv_at hl 0 rfl) ?_
            refine lv_iconst (v := 1) hx hb dJ6_numberOfTrailingZeros_0f7a4_76 (by decide) ?_
            refine lv_iushr (v := ushrI (ushrI (ushrI ((p0 ^^^ ((-1))) &&& (p0 - 1)) 8) 2) 1) hx hb dJ6_numberOfTrailingZeros_0f7a4_77 rfl ?_
            refine lv_iadd hx hb dJ6_numberOfTrailingZeros_0f7a4_78 ?_
            subst hr
            exact ret_i hx hb hrt hlocks hP hS dJ6_numberOfTrailingZeros_0f7a4_79
        · have hr := (if_neg c52).symm.trans hr
          refine lv_iinc (v := (1 + 8) + 4) (lv' := [(1, .int ((1 + 8) + 4)), (0, .int (ushrI ((p0 ^^^ ((-1))) &&& (p0 - 1)) 8))]) hx hb dJ6_numberOfTrailingZeros_0f7a4_55 hl (k := 1) rfl rfl (by decide) rfl (fun ls hl => ?_)
          refine lv_iload_n hx hb dJ6_numberOfTrailingZeros_0f7a4_58 rfl (lv_at hl 1 rfl) ?_
          refine lv_iconst (v := 4) hx hb dJ6_numberOfTrailingZeros_0f7a4_59 (by decide) ?_
          refine lv_iushr (v := ushrI (ushrI ((p0 ^^^ ((-1))) &&& (p0 - 1)) 8) 4) hx hb dJ6_numberOfTrailingZeros_0f7a4_60 rfl ?_
          refine lv_istore_n (lv' := [(0, .int (ushrI (ushrI ((p0 ^^^ ((-1))) &&& (p0 - 1)) 8) 4)), (1, .int ((1 + 8) + 4))]) hx hb dJ6_numberOfTrailingZeros_0f7a4_61 rfl hl (by decide) rfl (fun ls hl => ?_)
          refine lv_iload_n hx hb dJ6_numberOfTrailingZeros_0f7a4_62 rfl (lv_at hl 0 rfl) ?_
          refine lv_iconst (v := 4) hx hb dJ6_numberOfTrailingZeros_0f7a4_63 (by decide) ?_
          refine lv_icmp_le (tgt := 74) hx hb dJ6_numberOfTrailingZeros_0f7a4_64 (by decide) (fun c64 => ?_) (fun c64 => ?_)
          · have hr := (if_pos c64).symm.trans hr
            refine lv_iload_n hx hb dJ6_numberOfTrailingZeros_0f7a4_74 rfl (lv_at hl 1 rfl) ?_
            refine lv_iload_n hx hb dJ6_numberOfTrailingZeros_0f7a4_75 rfl (lv_at hl 0 rfl) ?_
            refine lv_iconst (v := 1) hx hb dJ6_numberOfTrailingZeros_0f7a4_76 (by decide) ?_
            refine lv_iushr (v := ushrI (ushrI (ushrI ((p0 ^^^ ((-1))) &&& (p0 - 1)) 8) 4) 1) hx hb dJ6_numberOfTrailingZeros_0f7a4_77 rfl ?_
            refine lv_iadd hx hb dJ6_numberOfTrailingZeros_0f7a4_78 ?_
            subst hr
            exact ret_i hx hb hrt hlocks hP hS dJ6_numberOfTrailingZeros_0f7a4_79
          · have hr := (if_neg c64).symm.trans hr
            refine lv_iinc (v := ((1 + 8) + 4) + 2) (lv' := [(1, .int (((1 + 8) + 4) + 2)), (0, .int (ushrI (ushrI ((p0 ^^^ ((-1))) &&& (p0 - 1)) 8) 4))]) hx hb dJ6_numberOfTrailingZeros_0f7a4_67 hl (k := 1) rfl rfl (by decide) rfl (fun ls hl => ?_)
            refine lv_iload_n hx hb dJ6_numberOfTrailingZeros_0f7a4_70 rfl (lv_at hl 1 rfl) ?_
            refine lv_iconst (v := 2) hx hb dJ6_numberOfTrailingZeros_0f7a4_71 (by decide) ?_
            refine lv_iushr (v := ushrI (ushrI (ushrI ((p0 ^^^ ((-1))) &&& (p0 - 1)) 8) 4) 2) hx hb dJ6_numberOfTrailingZeros_0f7a4_72 rfl ?_
            refine lv_istore_n (lv' := [(0, .int (ushrI (ushrI (ushrI ((p0 ^^^ ((-1))) &&& (p0 - 1)) 8) 4) 2)), (1, .int (((1 + 8) + 4) + 2))]) hx hb dJ6_numberOfTrailingZeros_0f7a4_73 rfl hl (by decide) rfl (fun ls hl => ?_)
            refine lv_iload_n hx hb dJ6_numberOfTrailingZeros_0f7a4_74 rfl (lv_at hl 1 rfl) ?_
            refine lv_iload_n hx hb dJ6_numberOfTrailingZeros_0f7a4_75 rfl (lv_at hl 0 rfl) ?_
            refine lv_iconst (v := 1) hx hb dJ6_numberOfTrailingZeros_0f7a4_76 (by decide) ?_
            refine lv_iushr (v := ushrI (ushrI (ushrI (ushrI ((p0 ^^^ ((-1))) &&& (p0 - 1)) 8) 4) 2) 1) hx hb dJ6_numberOfTrailingZeros_0f7a4_77 rfl ?_
            refine lv_iadd hx hb dJ6_numberOfTrailingZeros_0f7a4_78 ?_
            subst hr
            exact ret_i hx hb hrt hlocks hP hS dJ6_numberOfTrailingZeros_0f7a4_79
    · have hr := (if_neg c23).symm.trans hr
      refine lv_iinc (v := 1 + 16) (lv' := [(1, .int (1 + 16)), (0, .int ((p0 ^^^ ((-1))) &&& (p0 - 1)))]) hx hb dJ6_numberOfTrailingZeros_0f7a4_26 hl (k := 0) rfl rfl (by decide) rfl (fun ls hl => ?_)
      refine lv_iload_n hx hb dJ6_numberOfTrailingZeros_0f7a4_29 rfl (lv_at hl 1 rfl) ?_
      refine lv_bipush (v := 16) hx hb dJ6_numberOfTrailingZeros_0f7a4_30 (by decide) ?_
      refine lv_iushr (v := ushrI ((p0 ^^^ ((-1))) &&& (p0 - 1)) 16) hx hb dJ6_numberOfTrailingZeros_0f7a4_32 rfl ?_
      refine lv_istore_n (lv' := [(0, .int (ushrI ((p0 ^^^ ((-1))) &&& (p0 - 1)) 16)), (1, .int (1 + 16))]) hx hb dJ6_numberOfTrailingZeros_0f7a4_33 rfl hl (by decide) rfl (fun ls hl => ?_)
      refine lv_iload_n hx hb dJ6_numberOfTrailingZeros_0f7a4_34 rfl (lv_at hl 0 rfl) ?_
      refine lv_sipush (v := 256) hx hb dJ6_numberOfTrailingZeros_0f7a4_35 (by decide) ?_
      refine lv_icmp_le (tgt := 49) hx hb dJ6_numberOfTrailingZeros_0f7a4_38 (by decide) (fun c38 => ?_) (fun c38 => ?_)
      · have hr := (if_pos c38).symm.trans hr
        refine lv_iload_n hx hb dJ6_numberOfTrailingZeros_0f7a4_49 rfl (lv_at hl 0 rfl) ?_
        refine lv_bipush (v := 16) hx hb dJ6_numberOfTrailingZeros_0f7a4_50 (by decide) ?_
        refine lv_icmp_le (tgt := 62) hx hb dJ6_numberOfTrailingZeros_0f7a4_52 (by decide) (fun c52 => ?_) (fun c52 => ?_)
        · have hr := (if_pos c52).symm.trans hr
          refine lv_iload_n hx hb dJ6_numberOfTrailingZeros_0f7a4_62 rfl (lv_at hl 0 rfl) ?_
          refine lv_iconst (v := 4) hx hb dJ6_numberOfTrailingZeros_0f7a4_63 (by decide) ?_
          refine lv_icmp_le (tgt := 74) hx hb dJ6_numberOfTrailingZeros_0f7a4_64 (by decide) (fun c64 => ?_) (fun c64 => ?_)
          · have hr := (if_pos c64).symm.trans hr
            refine lv_iload_n hx hb dJ6_numberOfTrailingZeros_0f7a4_74 rfl (lv_at hl 1 rfl) ?_
            refine lv_iload_n hx hb dJ6_numberOfTrailingZeros_0f7a4_75 rfl (lv_at hl 0 rfl) ?_
            refine lv_iconst (v := 1) hx hb dJ6_numberOfTrailingZeros_0f7a4_76 (by decide) ?_
            refine lv_iushr (v := ushrI (ushrI ((p0 ^^^ ((-1))) &&& (p0 - 1)) 16) 1) hx hb dJ6_numberOfTrailingZeros_0f7a4_77 rfl ?_
            refine lv_iadd hx hb dJ6_numberOfTrailingZeros_0f7a4_78 ?_
            subst hr
            exact ret_i hx hb hrt hlocks hP hS dJ6_numberOfTrailingZeros_0f7a4_79
          · have hr := (if_neg c64).symm.trans hr
            refine lv_iinc (v := (1 + 16) + 2) (lv' := [(1, .int ((1 + 16) + 2)), (0, .int (ushrI ((p0 ^^^ ((-1))) &&& (p0 - 1)) 16))]) hx hb dJ6_numberOfTrailingZeros_0f7a4_67 hl (k := 1) rfl rfl (by decide) rfl (fun ls hl => ?_)
            refine lv_iload_n hx hb dJ6_numberOfTrailingZeros_0f7a4_70 rfl (lv_at hl 1 rfl) ?_
            refine lv_iconst (v := 2) hx hb dJ6_numberOfTrailingZeros_0f7a4_71 (by decide) ?_
            refine lv_iushr (v := ushrI (ushrI ((p0 ^^^ ((-1))) &&& (p0 - 1)) 16) 2) hx hb dJ6_numberOfTrailingZeros_0f7a4_72 rfl ?_
            refine lv_istore_n (lv' := [(0, .int (ushrI (ushrI ((p0 ^^^ ((-1))) &&& (p0 - 1)) 16) 2)), (1, .int ((1 + 16) + 2))]) hx hb dJ6_numberOfTrailingZeros_0f7a4_73 rfl hl (by decide) rfl (fun ls hl => ?_)
            refine lv_iload_n hx hb dJ6_numberOfTrailingZeros_0f7a4_74 rfl (lv_at hl 1 rfl) ?_
            refine lv_iload_n hx hb dJ6_numberOfTrailingZeros_0f7a4_75 rfl (lv_at hl 0 rfl) ?_
            refine lv_iconst (v := 1) hx hb dJ6_numberOfTrailingZeros_0f7a4_76 (by decide) ?_
            refine lv_iushr (v := ushrI (ushrI (ushrI ((p0 ^^^ ((-1))) &&& (p0 - 1)) 16) 2) 1) hx hb dJ6_numberOfTrailingZeros_0f7a4_77 rfl ?_
            refine lv_iadd hx hb dJ6_numberOfTrailingZeros_0f7a4_78 ?_
            subst hr
            exact ret_i hx hb hrt hlocks hP hS dJ6_numberOfTrailingZeros_0f7a4_79
        · have hr := (if_neg c52).symm.trans hr
          refine lv_iinc (v := (1 + 16) + 4) (lv' := [(1, .int ((1 + 16) + 4)), (0, .int (ushrI ((p0 ^^^ ((-1))) &&& (p0 - 1)) 16))]) hx hb dJ6_numberOfTrailingZeros_0f7a4_55 hl (k := 1) rfl rfl (by decide) rfl (fun ls hl => ?_)
          refine lv_iload_n hx hb dJ6_numberOfTrailingZeros_0f7a4_58 rfl (lv_at hl 1 rfl) ?_
          refine lv_iconst (v := 4) hx hb dJ6_numberOfTrailingZeros_0f7a4_59 (by decide) ?_
          refine lv_iushr (v := ushrI (ushrI ((p0 ^^^ ((-1))) &&& (p0 - 1)) 16) 4) hx hb dJ6_numberOfTrailingZeros_0f7a4_60 rfl ?_
          refine lv_istore_n (lv' := [(0, .int (ushrI (ushrI ((p0 ^^^ ((-1))) &&& (p0 - 1)) 16) 4)), (1, .int ((1 + 16) + 4))]) hx hb dJ6_numberOfTrailingZeros_0f7a4_61 rfl hl (by decide) rfl (fun ls hl => ?_)
          refine lv_iload_n hx hb dJ6_numberOfTrailingZeros_0f7a4_62 rfl (lv_at hl 0 rfl) ?_
          refine lv_iconst (v := 4) hx hb dJ6_numberOfTrailingZeros_0f7a4_63 (by decide) ?_
          refine lv_icmp_le (tgt := 74) hx hb dJ6_numberOfTrailingZeros_0f7a4_64 (by decide) (fun c64 => ?_) (fun c64 => ?_)
          · have hr := (if_pos c64).symm.trans hr
            refine lv_iload_n hx hb dJ6_numberOfTrailingZeros_0f7a4_74 rfl (lv_at hl 1 rfl) ?_
            refine lv_iload_n hx hb dJ6_numberOfTrailingZeros_0f7a4_75 rfl (lv_at hl 0 rfl) ?_
            refine lv_iconst (v := 1) hx hb dJ6_numberOfTrailingZeros_0f7a4_76 (by decide) ?_
            refine lv_iushr (v := ushrI (ushrI (ushrI ((p0 ^^^ ((-1))) &&& (p0 - 1)) 16) 4) 1) hx hb dJ6_numberOfTrailingZeros_0f7a4_77 rfl ?_
            refine lv_iadd hx hb dJ6_numberOfTrailingZeros_0f7a4_78 ?_
            subst hr
            exact ret_i hx hb hrt hlocks hP hS dJ6_numberOfTrailingZeros_0f7a4_79
          · have hr := (if_neg c64).symm.trans hr
            refine lv_iinc (v := ((1 + 16) + 4) + 2) (lv' := [(1, .int (((1 + 16) + 4) + 2)), (0, .int (ushrI (ushrI ((p0 ^^^ ((-1))) &&& (p0 - 1)) 16) 4))]) hx hb dJ6_numberOfTrailingZeros_0f7a4_67 hl (k := 1) rfl rfl (by decide) rfl (fun ls hl => ?_)
            refine lv_iload_n hx hb dJ6_numberOfTrailingZeros_0f7a4_70 rfl (lv_at hl 1 rfl) ?_
            refine lv_iconst (v := 2) hx hb dJ6_numberOfTrailingZeros_0f7a4_71 (by decide) ?_
            refine lv_iushr (v := ushrI (ushrI (ushrI ((p0 ^^^ ((-1))) &&& (p0 - 1)) 16) 4) 2) hx hb dJ6_numberOfTrailingZeros_0f7a4_72 rfl ?_
            refine lv_istore_n (lv' := [(0, .int (ushrI (ushrI (ushrI ((p0 ^^^ ((-1))) &&& (p0 - 1)) 16) 4) 2)), (1, .int (((1 + 16) + 4) + 2))]) hx hb dJ6_numberOfTrailingZeros_0f7a4_73 rfl hl (by decide) rfl (fun ls hl => ?_)
            refine lv_iload_n hx hb dJ6_numberOfTrailingZeros_0f7a4_74 rfl (lv_at hl 1 rfl) ?_
            refine lv_iload_n hx hb dJ6_numberOfTrailingZeros_0f7a4_75 rfl (lv_at hl 0 rfl) ?_
            refine lv_iconst (v := 1) hx hb dJ6_numberOfTrailingZeros_0f7a4_76 (by decide) ?_
            refine lv_iushr (v := ushrI (ushrI (ushrI (ushrI ((p0 ^^^ ((-1))) &&& (p0 - 1)) 16) 4) 2) 1) hx hb dJ6_numberOfTrailingZeros_0f7a4_77 rfl ?_
            refine lv_iadd hx hb dJ6_numberOfTrailingZeros_0f7a4_78 ?_
            subst hr
            exact ret_i hx hb hrt hlocks hP hS dJ6_numberOfTrailingZeros_0f7a4_79
      · have hr := (if_neg c38).symm.trans hr
        refine lv_iinc (v := (1 + 16) + 8) (lv' := [(1, .int ((1 + 16) + 8)), (0, .int (ushrI ((p0 ^^^ ((-1))) &&& (p0 - 1)) 16))]) hx hb dJ6_numberOfTrailingZeros_0f7a4_41 hl (k := 1) rfl rfl (by decide) rfl (fun ls hl => ?_)
        refine lv_iload_n hx hb dJ6_numberOfTrailingZeros_0f7a4_44 rfl (lv_at hl 1 rfl) ?_
        refine lv_bipush (v := 8) hx hb dJ6_numberOfTrailingZeros_0f7a4_45 (by decide) ?_
        refine lv_iushr (v := ushrI (ushrI ((p0 ^^^ ((-1))) &&& (p0 - 1)) 16) 8) hx hb dJ6_numberOfTrailingZeros_0f7a4_47 rfl ?_
        refine lv_istore_n (lv' := [(0, .int (ushrI (ushrI ((p0 ^^^ ((-1))) &&& (p0 - 1)) 16) 8)), (1, .int ((1 + 16) + 8))]) hx hb dJ6_numberOfTrailingZeros_0f7a4_48 rfl hl (by decide) rfl (fun ls hl => ?_)
        refine lv_iload_n hx hb dJ6_numberOfTrailingZeros_0f7a4_49 rfl (lv_at hl 0 rfl) ?_
        refine lv_bipush (v := 16) hx hb dJ6_numberOfTrailingZeros_0f7a4_50 (by decide) ?_
        refine lv_icmp_le (tgt := 62) hx hb dJ6_numberOfTrailingZeros_0f7a4_52 (by decide) (fun c52 => ?_) (fun c52 => ?_)
        · have hr := (if_pos c52).symm.trans hr
          refine lv_iload_n hx hb dJ6_numberOfTrailingZeros_0f7a4_62 rfl (lv_at hl 0 rfl) ?_
          refine lv_iconst (v := 4) hx hb dJ6_numberOfTrailingZeros_0f7a4_63 (by decide) ?_
          refine lv_icmp_le (tgt := 74) hx hb dJ6_numberOfTrailingZeros_0f7a4_64 (by decide) (fun c64 => ?_) (fun c64 => ?_)
          · have hr := (if_pos c64).symm.trans hr
            refine lv_iload_n hx hb dJ6_numberOfTrailingZeros_0f7a4_74 rfl (lv_at hl 1 rfl) ?_
            refine lv_iload_n hx hb dJ6_numberOfTrailingZeros_0f7a4_75 rfl (lv_at hl 0 rfl) ?_
            refine lv_iconst (v := 1) hx hb dJ6_numberOfTrailingZeros_0f7a4_76 (by decide) ?_
            refine lv_iushr (v := ushrI (ushrI (ushrI ((p0 ^^^ ((-1))) &&& (p0 - 1)) 16) 8) 1) hx hb dJ6_numberOfTrailingZeros_0f7a4_77 rfl ?_
            refine lv_iadd hx hb dJ6_numberOfTrailingZeros_0f7a4_78 ?_
            subst hr
            exact ret_i hx hb hrt hlocks hP hS dJ6_numberOfTrailingZeros_0f7a4_79
          · have hr := (if_neg c64).symm.trans hr
            refine lv_iinc (v := ((1 + 16) + 8) + 2) (lv' := [(1, .int (((1 + 16) + 8) + 2)), (0, .int (ushrI (ushrI ((p0 ^^^ ((-1))) &&& (p0 - 1)) 16) 8))]) hx hb dJ6_numberOfTrailingZeros_0f7a4_67 hl (k := 1) rfl rfl (by decide) rfl (fun ls hl => ?_)
            refine lv_iload_n hx hb dJ6_numberOfTrailingZeros_0f7a4_70 rfl (lv_at hl 1 rfl) ?_
            refine lv_iconst (v := 2) hx hb dJ6_numberOfTrailingZeros_0f7a4_71 (by decide) ?_
            refine lv_iushr (v := ushrI (ushrI (ushrI ((p0 ^^^ ((-1))) &&& (p0 - 1)) 16) 8) 2) hx hb dJ6_numberOfTrailingZeros_0f7a4_72 rfl ?_
            refine lv_istore_n (lv' := [(0, .int (ushrI (ushrI (ushrI ((p0 ^^^ ((-1))) &&& (p0 - 1)) 16) 8) 2)), (1, .int (((1 + 16) + 8) + 2))]) hx hb dJ6_numberOfTrailingZeros_0f7a4_73 rfl hl (by decide) rfl (fun ls hl => ?_)
            refine lv_iload_n hx hb dJ6_numberOfTrailingZeros_0f7a4_74 rfl (lv_at hl 1 rfl) ?_
            refine lv_iload_n hx hb dJ6_numberOfTrailingZeros_0f7a4_75 rfl (lv_at hl 0 rfl) ?_
            refine lv_iconst (v := 1) hx hb dJ6_numberOfTrailingZeros_0f7a4_76 (by decide) ?_
            refine lv_iushr (v := ushrI (ushrI (ushrI (ushrI ((p0 ^^^ ((-1))) &&& (p0 - 1)) 16) 8) 2) 1) hx hb dJ6_numberOfTrailingZeros_0f7a4_77 rfl ?_
            refine lv_iadd hx hb dJ6_numberOfTrailingZeros_0f7a4_78 ?_
            subst hr
            exact ret_i hx hb hrt hlocks hP hS dJ6_numberOfTrailingZeros_0f7a4_79
        · have hr := (if_neg c52).symm.trans hr
          refine lv_iinc (v := ((1 + 16) + 8) + 4) (lv' := [(1, .int (((1 + 16) + 8) + 4)), (0, .int (ushrI (ushrI ((p0 ^^^ ((-1))) &&& (p0 - 1)) 16) 8))]) hx hb dJ6_numberOfTrailingZeros_0f7a4_55 hl (k := 1) rfl rfl (by decide) rfl (fun ls hl => ?_)
          refine lv_iload_n hx hb dJ6_numberOfTrailingZeros_0f7a4_58 rfl (lv_at hl 1 rfl) ?_
          refine lv_iconst (v := 4) hx hb dJ6_numberOfTrailingZeros_0f7a4_59 (by decide) ?_
          refine lv_iushr (v := ushrI (ushrI (ushrI ((p0 ^^^ ((-1))) &&& (p0 - 1)) 16) 8) 4) hx hb dJ6_numberOfTrailingZeros_0f7a4_60 rfl ?_
          refine lv_istore_n (lv' := [(0, .int (ushrI (ushrI (ushrI ((p0 ^^^ ((-1))) &&& (p0 - 1)) 16) 8) 4)), (1, .int (((1 + 16) + 8) + 4))]) hx hb dJ6_numberOfTrailingZeros_0f7a4_61 rfl hl (by decide) rfl (fun ls hl => ?_)
          refine lv_iload_n hx hb dJ6_numberOfTrailingZeros_0f7a4_62 rfl (lv_at hl 0 rfl) ?_
          refine lv_iconst (v := 4) hx hb dJ6_numberOfTrailingZeros_0f7a4_63 (by decide) ?_
          refine lv_icmp_le (tgt := 74) hx hb dJ6_numberOfTrailingZeros_0f7a4_64 (by decide) (fun c64 => ?_) (fun c64 => ?_)
          · have hr := (if_pos c64).symm.trans hr
            refine lv_iload_n hx hb dJ6_numberOfTrailingZeros_0f7a4_74 rfl (lv_at hl 1 rfl) ?_
            refine lv_iload_n hx hb dJ6_numberOfTrailingZeros_0f7a4_75 rfl (lv_at hl 0 rfl) ?_
            refine lv_iconst (v := 1) hx hb dJ6_numberOfTrailingZeros_0f7a4_76 (by decide) ?_
            refine lv_iushr (v := ushrI (ushrI (ushrI (ushrI ((p0 ^^^ ((-1))) &&& (p0 - 1)) 16) 8) 4) 1) hx hb dJ6_numberOfTrailingZeros_0f7a4_77 rfl ?_
            refine lv_iadd hx hb dJ6_numberOfTrailingZeros_0f7a4_78 ?_
            subst hr
            exact ret_i hx hb hrt hlocks hP hS dJ6_numberOfTrailingZeros_0f7a4_79
          · have hr := (if_neg c64).symm.trans hr
            refine lv_iinc (v := (((1 + 16) + 8) + 4) + 2) (lv' := [(1, .int ((((1 + 16) + 8) + 4) + 2)), (0, .int (ushrI (ushrI (ushrI ((p0 ^^^ ((-1))) &&& (p0 - 1)) 16) 8) 4))]) hx hb dJ6_numberOfTrailingZeros_0f7a4_67 hl (k := 1) rfl rfl (by decide) rfl (fun ls hl => ?_)
            refine lv_iload_n hx hb dJ6_numberOfTrailingZeros_0f7a4_70 rfl (lv_at hl 1 rfl) ?_
            refine lv_iconst (v := 2) hx hb dJ6_numberOfTrailingZeros_0f7a4_71 (by decide) ?_
            refine lv_iushr (v := ushrI (ushrI (ushrI (ushrI ((p0 ^^^ ((-1))) &&& (p0 - 1)) 16) 8) 4) 2) hx hb dJ6_numberOfTrailingZeros_0f7a4_72 rfl ?_
            refine lv_istore_n (lv' := [(0, .int (ushrI (ushrI (ushrI (ushrI ((p0 ^^^ ((-1))) &&& (p0 - 1)) 16) 8) 4) 2)), (1, .int ((((1 + 16) + 8) + 4) + 2))]) hx hb dJ6_numberOfTrailingZeros_0f7a4_73 rfl hl (by decide) rfl (fun ls hl => ?_)
            refine lv_iload_n hx hb dJ6_numberOfTrailingZeros_0f7a4_74 rfl (lv_at hl 1 rfl) ?_
            refine lv_iload_n hx hb dJ6_numberOfTrailingZeros_0f7a4_75 rfl (lv_at hl 0 rfl) ?_
            refine lv_iconst (v := 1) hx hb dJ6_numberOfTrailingZeros_0f7a4_76 (by decide) ?_
            refine lv_iushr (v := ushrI (ushrI (ushrI (ushrI (ushrI ((p0 ^^^ ((-1))) &&& (p0 - 1)) 16) 8) 4) 2) 1) hx hb dJ6_numberOfTrailingZeros_0f7a4_77 rfl ?_
            refine lv_iadd hx hb dJ6_numberOfTrailingZeros_0f7a4_78 ?_
            subst hr
            exact ret_i hx hb hrt hlocks hP hS dJ6_numberOfTrailingZeros_0f7a4_79
  · have hr := (if_neg c9).symm.trans hr
    refine lv_iload_n hx hb dJ6_numberOfTrailingZeros_0f7a4_12 rfl (lv_at hl 0 rfl) ?_
    refine lv_bipush (v := 32) hx hb dJ6_numberOfTrailingZeros_0f7a4_13 (by decide) ?_
    refine lv_iand hx hb dJ6_numberOfTrailingZeros_0f7a4_15 ?_
    subst hr
    exact ret_i hx hb hrt hlocks hP hS dJ6_numberOfTrailingZeros_0f7a4_16
theorem hd_J13_numberOfTrailingZeros_95d88 : yJ13_numberOfTrailingZeros_95d88.cls ≠ "java/lang/invoke/MethodHandle" ∧ yJ13_numberOfTrailingZeros_95d88.cls ≠ "java/lang/invoke/VarHandle" ∧ (parseMethodDescriptor yJ13_numberOfTrailingZeros_95d88.desc).map (fun d => d.parameters.length) = some 1 := by decide +kernel
def f_J13_numberOfTrailingZeros_95d88 (p0 : Int64) : Int32 := (if p0.toInt32 = 0 then 32 + (f_J6_numberOfTrailingZeros_0f7a4 ((ushrL p0 32).toInt32)) else f_J6_numberOfTrailingZeros_0f7a4 p0.toInt32)
set_option maxHeartbeats 4000000 in
set_option maxRecDepth 100000 in
theorem c_J13_numberOfTrailingZeros_95d88 (l : Launch) (D : va_G) (cI cL cZ : ClassId) (A : Nat → Prop) (ws : va_W) (p0 : Int64) (r : Int32) (hr : f_J13_numberOfTrailingZeros_95d88 p0 = r) : MI l yJ13_numberOfTrailingZeros_95d88 (Cond.code yJ13_numberOfTrailingZeros_95d88 cJ13_numberOfTrailingZeros_95d88 3 (some .int) :: W0) 1 21 D cI cL cZ A [.long p0] ws r ws := by
  refine mk_start (cc := cJ13_numberOfTrailingZeros_95d88) (maxL := 3) (ret := (some .int)) (by decide) rfl (Nat.le_of_ble_eq_true rfl) ?_
  intro p e s m below meth c ls C hP hS hl
  obtain ⟨hx, hb, hml, hrt, hlocks, hown, hts, hk⟩ := C
  have hown : s.vm.findClass RJ13 = some m.cls := hown
  have hl : lv_has ls 3 [(0, .long p0)] := hl
  rw [f_J13_numberOfTrailingZeros_95d88] at hr
  refine lv_lload_n hx hb dJ13_numberOfTrailingZeros_95d88_0 rfl (lv_at hl 0 rfl) ?_
  refine lv_l2i hx hb dJ13_numberOfTrailingZeros_95d88_1 rfl ?_
  refine lv_istore_n (lv' := [(2, .int p0.toInt32), (0, .long p0)]) hx hb dJ13_numberOfTrailingZeros_95d88_2 rfl hl (by decide) rfl (fun ls hl => ?_)
  refine lv_iload_n hx hb dJ13_numberOfTrailingZeros_95d88_3 rfl (lv_at hl 0 rfl) ?_
  refine lv_if_ne (tgt := 21) hx hb dJ13_numberOfTrailingZeros_95d88_4 (by decide) (fun c4 => ?_) (fun c4 => ?_)
  · have hr := (if_neg c4).symm.trans hr
    refine lv_iload_n hx hb dJ13_numberOfTrailingZeros_95d88_21 rfl (lv_at hl 0 rfl) ?_
    refine go_i (ru_S (n := 1) ⟨hx, hb, hml, hown, hts⟩ hk hP (c_J6_numberOfTrailingZeros_0f7a4 l D cI cL cZ A ws p0.toInt32 _ rfl) (va_cwS 1 hts (gS q3_30 q3_31 q1_14 q3_32) rfl rfl rfl hd_J6_numberOfTrailingZeros_0f7a4 ⟨Nat.le_of_ble_eq_true rfl, Nat.le_of_ble_eq_true rfl⟩) rfl hl.1 rfl (Nat.le_of_ble_eq_true rfl) dJ13_numberOfTrailingZeros_95d88_22 ⟨Nat.zero_le _, Nat.zero_le _⟩) hS (fun _ h => h) (fun H locs hP hS => ?_)
    have hP : va_P D vwCl ws H := hP
    subst hr
    exact ret_i hx hb hrt hlocks hP hS dJ13_numberOfTrailingZeros_95d88_25
  · have hr := (if_pos c4).symm.trans hr
    refine lv_bipush (v := 32) hx hb dJ13_numberOfTrailingZeros_95d88_7 (by decide) ?_
    refine lv_lload_n hx hb dJ13_numberOfTrailingZeros_95d88_9 rfl (lv_at hl 1 rfl) ?_
    refine lv_bipush (v := 32) hx hb dJ13_numberOfTrailingZeros_95d88_10 (by decide) ?_
    refine lv_lushr (v := ushrL p0 32) hx hb dJ13_numberOfTrailingZeros_95d88_12 rfl ?_
    refine lv_l2i hx hb dJ13_numberOfTrailingZeros_95d88_13 rfl ?_
    refine go_i (ru_S (n := 1) ⟨hx, hb, hml, hown, hts⟩ hk hP (c_J6_numberOfTrailingZeros_0f7a4 l D cI cL cZ A ws ((ushrL p0 32).toInt32) _ rfl) (va_cwS 1 hts (gS q3_30 q3_31 q1_14 q3_32) rfl rfl rfl hd_J6_numberOfTrailingZeros_0f7a4 ⟨Nat.le_of_ble_eq_true rfl, Nat.le_of_ble_eq_true rfl⟩) rfl hl.1 rfl (Nat.le_of_ble_eq_true rfl) dJ13_numberOfTrailingZeros_95d88_14 ⟨Nat.zero_le _, Nat.zero_le _⟩) hS (fun _ h => h) (fun H locs hP hS => ?_)
    have hP : va_P D vwCl ws H := hP
    refine lv_iadd hx hb dJ13_numberOfTrailingZeros_95d88_17 ?_
    refine lv_goto (tgt := 25) hx hb dJ13_numberOfTrailingZeros_95d88_18 (by decide) ?_
    subst hr
    exact ret_i hx hb hrt hlocks hP hS dJ13_numberOfTrailingZeros_95d88_25
