theorem hd_X7_spreads : yX7_spreads.cls = RX7 ∧ yX7_spreads.cls ≠ "java/lang/invoke/MethodHandle" ∧ yX7_spreads.cls ≠ "java/lang/invoke/VarHandle" ∧ (parseMethodDescriptor yX7_spreads.desc).map (fun d => d.parameters.length) = some 0 := by decide +kernel
def F_X7_spreads_8 (s_c : Int32) (s_p : Int32) (s_s : Int32) (b_n : Int64) (s_ha : Nat → Int32) (s_en : Nat → Int32) (s_ro : Nat → Int64) (s_me : Nat → Int64) (s_be : Nat → Int64) {β : Type} (k0 : Int32 → Int32 → Int32 → Int32 → Int64 → Int64 → Int64 → β) (k1 : Int32 → Int32 → Int32 → Int32 → Int64 → Int64 → Int64 → β) : Nat → Int32 → Int32 → Int32 → Int32 → Int32 → Int64 → Int64 → Int64 → β
  | 0, x1, x2, r_k, r_r, r_p, b_l, b_b, r_t => k0 x1 r_k r_r r_p b_l b_b r_t
  | n + 1, x1, x2, r_k, r_r, r_p, b_l, b_b, r_t => (if 40 < x2 then k0 x1 r_k r_r r_p b_l b_b r_t else (bd (f_X3_seek s_c s_p s_s r_p b_l b_b b_n s_ha s_en s_ro s_me s_be) (fun u2 => (if (f_X3_tells u2.1) = 0 then k1 x1 u2.1 u2.2.1 u2.2.2.1 b_l b_b u2.2.2.2 else (bd (f_X7_follow u2.1 b_l b_b u2.2.2.2) (fun u3 => F_X7_spreads_8 s_c s_p s_s b_n s_ha s_en s_ro s_me s_be k0 k1 n (x1 + u3.1) (x2 + 1) u2.1 u2.2.1 u2.2.2.1 u3.2.1 u3.2.2 u2.2.2.2))))))
def f_X7_spreads (s_c : Int32) (s_p : Int32) (s_s : Int32) (p_nx : Int32) (p_sz : Int32) (r_k : Int32) (r_r : Int32) (r_p : Int32) (b_l : Int64) (b_b : Int64) (b_n : Int64) (r_t : Int64) (s_ha : Nat → Int32) (s_en : Nat → Int32) (pk : Nat → Int32) (s_ro : Nat → Int64) (s_me : Nat → Int64) (s_be : Nat → Int64) (pl : Nat → Int64) (pb : Nat → Int64) (pn : Nat → Int64) : Int32 × Int32 × Int32 × Int32 × Int32 × Int32 × Int32 × Int64 × Int64 × Int64 × (Nat → Int32) × (Nat → Int64) × (Nat → Int64) × (Nat → Int64) := (bd (f_X7_beforeChange p_nx p_sz b_l b_b b_n pk pl pb pn) (fun u1 => F_X7_spreads_8 s_c s_p s_s b_n s_ha s_en s_ro s_me s_be (fun z4 z5 z6 z7 z8 z9 z10 => (z4, u1.1, u1.2.1, u1.2.2.1, z5, z6, z7, z8, z9, z10, u1.2.2.2.1, u1.2.2.2.2.1, u1.2.2.2.2.2.1, u1.2.2.2.2.2.2)) (fun z11 z12 z13 z14 z15 z16 z17 => (z11, u1.1, u1.2.1, u1.2.2.1, z12, z13, z14, z15, z16, z17, u1.2.2.2.1, u1.2.2.2.2.1, u1.2.2.2.2.2.1, u1.2.2.2.2.2.2)) (fue 40 (0 : Int32)) 0 0 r_k r_r r_p b_l b_b r_t))
set_option maxHeartbeats 4000000 in
set_option maxRecDepth 100000 in
theorem lp_X7_spreads_8 (l : Launch) (D : va_G) (cI cL cZ : ClassId) (ad : Nat → Nat) (c_sr t_n t_r t_w s_w s_h s_c s_p s_s p_nx p_sz l_z q_z : Int32) (t_t b_n l_l l_b l_n q_l q_b q_n : Int64) (t_le s_cs s_ps s_ha s_en pk ik : Nat → Int32) (s_ro s_me s_be s_se s_co pl pb pn il ib im l_a q_a : Nat → Int64) {p : Program} {e : Env} {s : State} {m : MethodId} {args : Array Value} {below : List Frame} {meth : Method} {c : Code} {Q : State → Prop} (C : Cx p s m args meth c cX7_spreads 3 (some .int) W0 RX7 D cI cL cZ) (hAd : cInj ad) {β : Type} (k0 : Int32 → Int32 → Int32 → Int32 → Int64 → Int64 → Int64 → β) (k1 : Int32 → Int32 → Int32 → Int32 → Int64 → Int64 → Int64 → β) (r : β)
    (h0 : ∀ (e1 r_k r_r r_p : Int32) (b_l b_b r_t : Int64) (H : Heap) (locs : List Loc) (ls : Array Slot), k0 e1 r_k r_r r_p b_l b_b r_t = r → va_P D vwCl (cw ad cI cL cZ c_sr t_n t_r t_w s_w s_h s_c s_p s_s p_nx p_sz r_k r_r r_p l_z q_z t_t b_l b_b b_n r_t l_l l_b l_n q_l q_b q_n t_le s_cs s_ps s_ha s_en pk ik s_ro s_me s_be s_se s_co pl pb pn il ib im l_a q_a) H → va_S (cAd ad) s.heap H locs → lv_has ls 3 [(1, .int e1)] → W p l e (rmS 6 151) s m args below meth c H locs 0 0 Q (F0 m 47 ls []))
    (h1 : ∀ (e1 r_k r_r r_p : Int32) (b_l b_b r_t : Int64) (H : Heap) (locs : List Loc) (ls : Array Slot), k1 e1 r_k r_r r_p b_l b_b r_t = r → va_P D vwCl (cw ad cI cL cZ c_sr t_n t_r t_w s_w s_h s_c s_p s_s p_nx p_sz r_k r_r r_p l_z q_z t_t b_l b_b b_n r_t l_l l_b l_n q_l q_b q_n t_le s_cs s_ps s_ha s_en pk ik s_ro s_me s_be s_se s_co pl pb pn il ib im l_a q_a) H → va_S (cAd ad) s.heap H locs → lv_has ls 3 [(1, .int e1)] → W p l e (rmS 6 151) s m args below meth c H locs 0 0 Q (F0 m 31 ls [])) :
    ∀ (n : Nat) (x1 x2 r_k r_r r_p : Int32) (b_l b_b r_t : Int64) (H : Heap) (locs : List Loc) (ls : Array Slot), fuE n 40 x2 → F_X7_spreads_8 s_c s_p s_s b_n s_ha s_en s_ro s_me s_be k0 k1 n x1 x2 r_k r_r r_p b_l b_b r_t = r → va_P D vwCl (cw ad cI cL cZ c_sr t_n t_r t_w s_w s_h s_c s_p s_s p_nx p_sz r_k r_r r_p l_z q_z t_t b_l b_b b_n r_t l_l l_b l_n q_l q_b q_n t_le s_cs s_ps s_ha s_en pk ik s_ro s_me s_be s_se s_co pl pb pn il ib im l_a q_a) H → va_S (cAd ad) s.heap H locs → lv_has ls 3 [(0, .ref (ad 0)), (1, .int x1), (2, .int x2)] → W p l e (rmS 6 151) s m args below meth c H locs 0 0 Q (F0 m 8 ls []) := by
  obtain ⟨hx, hb, hml, hrt, hlocks, hown, hts, hk⟩ := C
  intro n
  induction n with
  | zero =>
    intro x1 x2 r_k r_r r_p b_l b_b r_t H locs ls hf
    exact absurd hf.1 (Nat.lt_irrefl 0)
  | succ n ih =>
    intro x1 x2 r_k r_r r_p b_l b_b r_t H locs ls hf hr hP hS hl
    rw [F_X7_spreads_8] at hr
    refine lv_iload_n hx hb dX7_spreads_8 rfl (lv_at hl 2 rfl) ?_
    refine lv_bipush (v := 40) hx hb dX7_spreads_9 (by decide) ?_
    refine lv_icmp_gt (tgt := 47) hx hb dX7_spreads_11 (by decide) (fun c11 => ?_) (fun c11 => ?_)
    · have hr := (if_pos c11).symm.trans hr
      exact h0 x1 r_k r_r r_p b_l b_b r_t _ _ _ hr hP hS (lv_sub hl [1] rfl)
    · have hr := (if_neg c11).symm.trans hr
      refine lv_aload_n hx hb dX7_spreads_14 rfl (lv_at hl 0 rfl) ?_
      refine va_get (D := D) (ci := 7) (v := .ref (ad 25)) (C := RX7) (T := TX7) (N := 9) hx hb hts u_X7 hown hk.1 hP 0 rfl rfl 5 (by decide) (hts _ q2_82) (fun _ h9 => h9) rfl dX7_spreads_15 ?_
      obtain ⟨u2, hu2⟩ : ∃ z, f_X3_seek s_c s_p s_s r_p b_l b_b b_n s_ha s_en s_ro s_me s_be = z := ⟨_, rfl⟩
      have hr := (bd_eq hu2).symm.trans hr
      refine go_v (ru_V (n := 0) ⟨hx, hb, hml, hown, hts⟩ hk hP (c_X3_seek l D cI cL cZ ad c_sr t_n t_r t_w s_w s_h s_c s_p s_s p_nx p_sz r_k r_r r_p l_z q_z t_t b_l b_b b_n r_t l_l l_b l_n q_l q_b q_n t_le s_cs s_ps s_ha s_en pk ik s_ro s_me s_be s_se s_co pl pb pn il ib im l_a q_a hAd _ hu2) (cwV 0 hts (gV q2_228 q2_229 q2_230 q1_8 q2_231) rfl rfl rfl hd_X3_seek ⟨Nat.le_of_ble_eq_true rfl, Nat.le_of_ble_eq_true rfl⟩) (va_recv hk.1 hP (ci := 3) (q0 := 25) rfl rfl) rfl hl.1 rfl (Nat.le_of_ble_eq_true rfl) dX7_spreads_18 ⟨Nat.zero_le _, Nat.zero_le _⟩) hS (fun _ h => h) (fun H locs hP hS => ?_)
      have hP : va_P D vwCl (cw ad cI cL cZ c_sr t_n t_r t_w s_w s_h s_c s_p s_s p_nx p_sz u2.1 u2.2.1 u2.2.2.1 l_z q_z t_t b_l b_b b_n u2.2.2.2 l_l l_b l_n q_l q_b q_n t_le s_cs s_ps s_ha s_en pk ik s_ro s_me s_be s_se s_co pl pb pn il ib im l_a q_a) H := hP
      refine lv_aload_n hx hb dX7_spreads_21 rfl (lv_at hl 0 rfl) ?_
      refine va_get (D := D) (ci := 7) (v := .ref (ad 25)) (C := RX7) (T := TX7) (N := 9) hx hb hts u_X7 hown hk.1 hP 0 rfl rfl 5 (by decide) (hts _ q2_82) (fun _ h9 => h9) rfl dX7_spreads_22 ?_
      refine go_z (ru_V (n := 0) ⟨hx, hb, hml, hown, hts⟩ hk hP (c_X3_tells l D cI cL cZ ad c_sr t_n t_r t_w s_w s_h s_c s_p s_s p_nx p_sz u2.1 u2.2.1 u2.2.2.1 l_z q_z t_t b_l b_b b_n u2.2.2.2 l_l l_b l_n q_l q_b q_n t_le s_cs s_ps s_ha s_en pk ik s_ro s_me s_be s_se s_co pl pb pn il ib im l_a q_a hAd _ rfl) (cwV 0 hts (gV q3_76 q3_77 q3_78 q1_8 q3_79) rfl rfl rfl hd_X3_tells ⟨Nat.le_of_ble_eq_true rfl, Nat.le_of_ble_eq_true rfl⟩) (va_recv hk.1 hP (ci := 3) (q0 := 25) rfl rfl) rfl hl.1 rfl (Nat.le_of_ble_eq_true rfl) dX7_spreads_25 ⟨Nat.zero_le _, Nat.zero_le _⟩) hS (fun _ h => h) (fun H locs hz25 hP hS => ?_)
      have hP : va_P D vwCl (cw ad cI cL cZ c_sr t_n t_r t_w s_w s_h s_c s_p s_s p_nx p_sz u2.1 u2.2.1 u2.2.2.1 l_z q_z t_t b_l b_b b_n u2.2.2.2 l_l l_b l_n q_l q_b q_n t_le s_cs s_ps s_ha s_en pk ik s_ro s_me s_be s_se s_co pl pb pn il ib im l_a q_a) H := hP
      refine lv_if_ne (tgt := 34) hx hb dX7_spreads_28 (by decide) (fun c28 => ?_) (fun c28 => ?_)
      · have hr := (if_neg c28).symm.trans hr
        refine lv_iload_n hx hb dX7_spreads_34 rfl (lv_at hl 1 rfl) ?_
        refine lv_aload_n hx hb dX7_spreads_35 rfl (lv_at hl 0 rfl) ?_
        obtain ⟨u3, hu3⟩ : ∃ z, f_X7_follow u2.1 b_l b_b u2.2.2.2 = z := ⟨_, rfl⟩
        have hr := (bd_eq hu3).symm.trans hr
        refine go_i (ru_V (n := 0) ⟨hx, hb, hml, hown, hts⟩ hk hP (c_X7_follow l D cI cL cZ ad c_sr t_n t_r t_w s_w s_h s_c s_p s_s p_nx p_sz u2.1 u2.2.1 u2.2.2.1 l_z q_z t_t b_l b_b b_n u2.2.2.2 l_l l_b l_n q_l q_b q_n t_le s_cs s_ps s_ha s_en pk ik s_ro s_me s_be s_se s_co pl pb pn il ib im l_a q_a hAd _ hu3) (cwV 0 hts (gV q3_67 q3_69 qs2_8 q1_1 q3_70) rfl rfl rfl hd_X7_follow ⟨Nat.le_of_ble_eq_true rfl, Nat.le_of_ble_eq_true rfl⟩) (va_recv hk.1 hP (ci := 7) (q0 := 0) rfl rfl) rfl hl.1 rfl (Nat.le_of_ble_eq_true rfl) dX7_spreads_36 ⟨Nat.zero_le _, Nat.zero_le _⟩) hS (fun _ h => h) (fun H locs hP hS => ?_)
        have hP : va_P D vwCl (cw ad cI cL cZ c_sr t_n t_r t_w s_w s_h s_c s_p s_s p_nx p_sz u2.1 u2.2.1 u2.2.2.1 l_z q_z t_t u3.2.1 u3.2.2 b_n u2.2.2.2 l_l l_b l_n q_l q_b q_n t_le s_cs s_ps s_ha s_en pk ik s_ro s_me s_be s_se s_co pl pb pn il ib im l_a q_a) H := hP
        refine lv_iadd hx hb dX7_spreads_39 ?_
        refine lv_istore_n (lv' := [(1, .int (x1 + u3.1)), (0, .ref (ad 0)), (2, .int x2)]) hx hb dX7_spreads_40 rfl hl (by decide) rfl (fun ls hl => ?_)
        refine lv_iinc (v := x2 + 1) (lv' := [(2, .int (x2 + 1)), (1, .int (x1 + u3.1)), (0, .ref (ad 0))]) hx hb dX7_spreads_41 hl (k := 2) rfl rfl (by decide) rfl (fun ls hl => ?_)
        refine lv_goto (tgt := 8) hx hb dX7_spreads_44 (by decide) ?_
        exact ih (x1 + u3.1) (x2 + 1) u2.1 u2.2.1 u2.2.2.1 u3.2.1 u3.2.2 u2.2.2.2 _ _ _ (fuE_s hf c11 (by decide)) hr hP hS (lv_sub hl [2, 1, 0] rfl)
      · have hr := (if_pos c28).symm.trans hr
        exact h1 x1 u2.1 u2.2.1 u2.2.2.1 b_l b_b u2.2.2.2 _ _ _ hr hP hS (lv_sub hl [1] rfl)
set_option maxHeartbeats 4000000 in
set_option maxRecDepth 100000 in
theorem c_X7_spreads (l : Launch) (D : va_G) (cI cL cZ : ClassId) (ad : Nat → Nat) (c_sr t_n t_r t_w s_w s_h s_c s_p s_s p_nx p_sz r_k r_r r_p l_z q_z : Int32) (t_t b_l b_b b_n r_t l_l l_b l_n q_l q_b q_n : Int64) (t_le s_cs s_ps s_ha s_en pk ik : Nat → Int32) (s_ro s_me s_be s_se s_co pl pb pn il ib im l_a q_a : Nat → Int64) (hAd : cInj ad) (r : Int32 × Int32 × Int32 × Int32 × Int32 × Int32 × Int32 × Int64 × Int64 × Int64 × (Nat → Int32) × (Nat → Int64) × (Nat → Int64) × (Nat → Int64)) (hr : f_X7_spreads s_c s_p s_s p_nx p_sz r_k r_r r_p b_l b_b b_n r_t s_ha s_en pk s_ro s_me s_be pl pb pn = r) : MI l yX7_spreads (Cond.code yX7_spreads cX7_spreads 3 (some .int) :: W0) 6 151 D cI cL cZ (cAd ad) [.ref (ad 0)] (cw ad cI cL cZ c_sr t_n t_r t_w s_w s_h s_c s_p s_s p_nx p_sz r_k r_r r_p l_z q_z t_t b_l b_b b_n r_t l_l l_b l_n q_l q_b q_n t_le s_cs s_ps s_ha s_en pk ik s_ro s_me s_be s_se s_co pl pb pn il ib im l_a q_a) r.1 (cw ad cI cL cZ r.2.1 t_n t_r t_w s_w s_h s_c s_p s_s r.2.2.1 r.2.2.2.1 r.2.2.2.2.1 r.2.2.2.2.2.1 r.2.2.2.2.2.2.1 l_z q_z t_t r.2.2.2.2.2.2.2.1 r.2.2.2.2.2.2.2.2.1 b_n r.2.2.2.2.2.2.2.2.2.1 l_l l_b l_n q_l q_b q_n t_le s_cs s_ps s_ha s_en r.2.2.2.2.2.2.2.2.2.2.1 ik s_ro s_me s_be s_se s_co r.2.2.2.2.2.2.2.2.2.2.2.1 r.2.2.2.2.2.2.2.2.2.2.2.2.1 r.2.2.2.2.2.2.2.2.2.2.2.2.2 il ib im l_a q_a) := by
  refine mk_start (cc := cX7_spreads) (maxL := 3) (ret := (some .int)) (by decide) rfl (Nat.le_of_ble_eq_true rfl) ?_
  intro p e s m below meth c ls C hP hS hl
  obtain ⟨hx, hb, hml, hrt, hlocks, hown, hts, hk⟩ := C
  have hown : s.vm.findClass RX7 = some m.cls := hown
  have hl : lv_has ls 3 [(0, .ref (ad 0))] := hl
  rw [f_X7_spreads] at hr
  refine lv_aload_n hx hb dX7_spreads_0 rfl (lv_at hl 0 rfl) ?_
  obtain ⟨u1, hu1⟩ : ∃ z, f_X7_beforeChange p_nx p_sz b_l b_b b_n pk pl pb pn = z := ⟨_, rfl⟩
  have hr := (bd_eq hu1).symm.trans hr
  refine go_v (ru_V (n := 0) ⟨hx, hb, hml, hown, hts⟩ hk hP (c_X7_beforeChange l D cI cL cZ ad c_sr t_n t_r t_w s_w s_h s_c s_p s_s p_nx p_sz r_k r_r r_p l_z q_z t_t b_l b_b b_n r_t l_l l_b l_n q_l q_b q_n t_le s_cs s_ps s_ha s_en pk ik s_ro s_me s_be s_se s_co pl pb pn il ib im l_a q_a hAd _ hu1) (cwV 0 hts (gV q2_200 q2_202 qs1_11 q1_1 q2_203) rfl rfl rfl hd_X7_beforeChange ⟨Nat.le_of_ble_eq_true rfl, Nat.le_of_ble_eq_true rfl⟩) (va_recv hk.1 hP (ci := 7) (q0 := 0) rfl rfl) rfl hl.1 rfl (Nat.le_of_ble_eq_true rfl) dX7_spreads_1 ⟨Nat.zero_le _, Nat.zero_le _⟩) hS (fun _ h => h) (fun H locs hP hS => ?_)
  have hP : va_P D vwCl (cw ad cI cL cZ u1.1 t_n t_r t_w s_w s_h s_c s_p s_s u1.2.1 u1.2.2.1 r_k r_r r_p l_z q_z t_t b_l b_b b_n r_t l_l l_b l_n q_l q_b q_n t_le s_cs s_ps s_ha s_en u1.2.2.2.1 ik s_ro s_me s_be s_se s_co u1.2.2.2.2.1 u1.2.2.2.2.2.1 u1.2.2.2.2.2.2 il ib im l_a q_a) H := hP
  refine lv_iconst (v := 0) hx hb dX7_spreads_4 (by decide) ?_
  refine lv_istore_n (lv' := [(1, .int 0), (0, .ref (ad 0))]) hx hb dX7_spreads_5 rfl hl (by decide) rfl (fun ls hl => ?_)
  refine lv_iconst (v := 0) hx hb dX7_spreads_6 (by decide) ?_
  refine lv_istore_n (lv' := [(2, .int 0), (1, .int 0), (0, .ref (ad 0))]) hx hb dX7_spreads_7 rfl hl (by decide) rfl (fun ls hl => ?_)
  refine lp_X7_spreads_8 l D cI cL cZ ad u1.1 t_n t_r t_w s_w s_h s_c s_p s_s u1.2.1 u1.2.2.1 l_z q_z t_t b_n l_l l_b l_n q_l q_b q_n t_le s_cs s_ps s_ha s_en u1.2.2.2.1 ik s_ro s_me s_be s_se s_co u1.2.2.2.2.1 u1.2.2.2.2.2.1 u1.2.2.2.2.2.2 il ib im l_a q_a ⟨hx, hb, hml, hrt, hlocks, hown, hts, hk⟩ hAd _ _ _ (fun z4 z5 z6 z7 z8 z9 z10 H locs ls hr hP hS hl => ?_) (fun z11 z12 z13 z14 z15 z16 z17 H locs ls hr hP hS hl => ?_) (fue 40 (0 : Int32)) 0 0 r_k r_r r_p b_l b_b r_t _ _ _ (fuE_0 (by decide)) hr hP hS (lv_sub hl [2, 1, 0] rfl)
  · refine lv_iload_n hx hb dX7_spreads_47 rfl (lv_at hl 0 rfl) ?_
    subst hr
    exact ret_i hx hb hrt hlocks hP hS dX7_spreads_48
  · refine lv_goto (tgt := 47) hx hb dX7_spreads_31 (by decide) ?_
    refine lv_iload_n hx hb dX7_spreads_47 rfl (lv_at hl 0 rfl) ?_
    subst hr
    exact ret_i hx hb hrt hlocks hP hS dX7_spreads_48
theorem hd_X7_searchLoops : yX7_searchLoops.cls = RX7 ∧ yX7_searchLoops.cls ≠ "java/lang/invoke/MethodHandle" ∧ yX7_searchLoops.cls ≠ "java/lang/invoke/VarHandle" ∧ (parseMethodDescriptor yX7_searchLoops.desc).map (fun d => d.parameters.length) = some 0 := by decide +kernel
def f_X7_searchLoops (c_sr : Int32) (s_c : Int32) (l_z : Int32) (b_l : Int64) (b_b : Int64) (b_n : Int64) (l_l : Int64) (l_b : Int64) (l_n : Int64) (s_cs : Nat → Int32) (s_ha : Nat → Int32) (s_ro : Nat → Int64) (s_be : Nat → Int64) (s_se : Nat → Int64) (s_co : Nat → Int64) (l_a : Nat → Int64) : Int32 × Int32 × Int64 × Int64 × Int64 × (Nat → Int64) := (if c_sr = 0 then (bd (f_X1_search b_l b_b b_n s_c s_cs s_ha s_ro s_be s_se s_co l_a) (fun u1 => (1, u1.1, u1.2.1, u1.2.2.1, u1.2.2.2.1, u1.2.2.2.2))) else (c_sr, l_z, l_l, l_b, l_n, l_a))
set_option maxHeartbeats 4000000 in
set_option maxRecDepth 100000 in
theorem c_X7_searchLoops (l : Launch) (D : va_G) (cI cL cZ : ClassId) (ad : Nat → Nat) (c_sr t_n t_r t_w s_w s_h s_c s_p s_s p_nx p_sz r_k r_r r_p l_z q_z : Int32) (t_t b_l b_b b_n r_t l_l l_b l_n q_l q_b q_n : Int64) (t_le s_cs s_ps s_ha s_en pk ik : Nat → Int32) (s_ro s_me s_be s_se s_co pl pb pn il ib im l_a q_a : Nat → Int64) (hAd : cInj ad) (r : Int32 × Int32 × Int64 × Int64 × Int64 × (Nat → Int64)) (hr : f_X7_searchLoops c_sr s_c l_z b_l b_b b_n l_l l_b l_n s_cs s_ha s_ro s_be s_se s_co l_a = r) (hc : 0 ≤ s_c.toInt) : MV l yX7_searchLoops (Cond.code yX7_searchLoops cX7_searchLoops 1 none :: W0) 23 681 D cI cL cZ (cAd ad) [.ref (ad 0)] (cw ad cI cL cZ c_sr t_n t_r t_w s_w s_h s_c s_p s_s p_nx p_sz r_k r_r r_p l_z q_z t_t b_l b_b b_n r_t l_l l_b l_n q_l q_b q_n t_le s_cs s_ps s_ha s_en pk ik s_ro s_me s_be s_se s_co pl pb pn il ib im l_a q_a) (cw ad cI cL cZ r.1 t_n t_r t_w s_w s_h s_c s_p s_s p_nx p_sz r_k r_r r_p r.2.1 q_z t_t b_l b_b b_n r_t r.2.2.1 r.2.2.2.1 r.2.2.2.2.1 q_l q_b q_n t_le s_cs s_ps s_ha s_en pk ik s_ro s_me s_be s_se s_co pl pb pn il ib im r.2.2.2.2.2 q_a) := by
  refine mk_start (cc := cX7_searchLoops) (maxL := 1) (ret := none) (by decide) rfl (Nat.le_of_ble_eq_true rfl) ?_
  intro p e s m below meth c ls C hP hS hl
  obtain ⟨hx, hb, hml, hrt, hlocks, hown, hts, hk⟩ := C
  have hown : s.vm.findClass RX7 = some m.cls := hown
  have hl : lv_has ls 1 [(0, .ref (ad 0))] := hl
  rw [f_X7_searchLoops] at hr
  refine lv_aload_n hx hb dX7_searchLoops_0 rfl (lv_at hl 0 rfl) ?_
  refine va_get (D := D) (ci := 7) (v := .int c_sr) (C := RX7) (T := TX7) (N := 9) hx hb hts u_X7 hown hk.1 hP 0 rfl rfl 8 (by decide) (hts _ q2_85) (fun _ h9 => h9) rfl dX7_searchLoops_1 ?_
  refine lv_if_ne (tgt := 40) hx hb dX7_searchLoops_4 (by decide) (fun c4 => ?_) (fun c4 => ?_)
  · have hr := (if_neg c4).symm.trans hr
    subst hr
    exact ret_v hx hb hrt hlocks hP hS dX7_searchLoops_40
  · have hr := (if_pos c4).symm.trans hr
    refine lv_aload_n hx hb dX7_searchLoops_7 rfl (lv_at hl 0 rfl) ?_
    refine va_get (D := D) (ci := 7) (v := .ref (ad 26)) (C := RX7) (T := TX7) (N := 9) hx hb hts u_X7 hown hk.1 hP 0 rfl rfl 6 (by decide) (hts _ q2_83) (fun _ h9 => h9) rfl dX7_searchLoops_8 ?_
    refine lv_aload_n hx hb dX7_searchLoops_11 rfl (lv_at hl 0 rfl) ?_
    refine va_get (D := D) (ci := 7) (v := .ref (ad 13)) (C := RX7) (T := TX7) (N := 9) hx hb hts u_X7 hown hk.1 hP 0 rfl rfl 2 (by decide) (hts _ q2_79) (fun _ h9 => h9) rfl dX7_searchLoops_12 ?_
    refine va_get (D := D) (ci := 0) (v := .long b_l) (C := RX0) (T := TX0) (N := 3) hx hb hts u_X0 hown hk.1 hP 13 rfl rfl 0 (by decide) (hts _ q1_117) (fun _ h9 => h9) rfl dX7_searchLoops_15 ?_
    refine lv_aload_n hx hb dX7_searchLoops_18 rfl (lv_at hl 0 rfl) ?_
    refine va_get (D := D) (ci := 7) (v := .ref (ad 13)) (C := RX7) (T := TX7) (N := 9) hx hb hts u_X7 hown hk.1 hP 0 rfl rfl 2 (by decide) (hts _ q2_79) (fun _ h9 => h9) rfl dX7_searchLoops_19 ?_
    refine va_get (D := D) (ci := 0) (v := .long b_b) (C := RX0) (T := TX0) (N := 3) hx hb hts u_X0 hown hk.1 hP 13 rfl rfl 1 (by decide) (hts _ q1_121) (fun _ h9 => h9) rfl dX7_searchLoops_22 ?_
    refine lv_aload_n hx hb dX7_searchLoops_25 rfl (lv_at hl 0 rfl) ?_
    refine va_get (D := D) (ci := 7) (v := .ref (ad 13)) (C := RX7) (T := TX7) (N := 9) hx hb hts u_X7 hown hk.1 hP 0 rfl rfl 2 (by decide) (hts _ q2_79) (fun _ h9 => h9) rfl dX7_searchLoops_26 ?_
    refine va_get (D := D) (ci := 0) (v := .long b_n) (C := RX0) (T := TX0) (N := 3) hx hb hts u_X0 hown hk.1 hP 13 rfl rfl 2 (by decide) (hts _ q1_124) (fun _ h9 => h9) rfl dX7_searchLoops_29 ?_
    obtain ⟨u1, hu1⟩ : ∃ z, f_X1_search b_l b_b b_n s_c s_cs s_ha s_ro s_be s_se s_co l_a = z := ⟨_, rfl⟩
    have hr := (bd_eq hu1).symm.trans hr
    refine go_v (ru_V (n := 3) ⟨hx, hb, hml, hown, hts⟩ hk hP (c_X1_search l D cI cL cZ ad c_sr t_n t_r t_w s_w s_h s_c s_p s_s p_nx p_sz r_k r_r r_p l_z q_z t_t b_l b_b b_n r_t l_l l_b l_n q_l q_b q_n t_le s_cs s_ps s_ha s_en pk ik s_ro s_me s_be s_se s_co pl pb pn il ib im l_a q_a hAd b_l b_b b_n _ hu1 hc) (cwV 3 hts (gV q3_113 q3_114 q3_115 q1_9 q3_116) rfl rfl rfl hd_X1_search ⟨Nat.le_of_ble_eq_true rfl, Nat.le_of_ble_eq_true rfl⟩) (va_recv hk.1 hP (ci := 1) (q0 := 26) rfl rfl) rfl hl.1 rfl (Nat.le_of_ble_eq_true rfl) dX7_searchLoops_32 ⟨Nat.zero_le _, Nat.zero_le _⟩) hS (fun _ h => h) (fun H locs hP hS => ?_)
    have hP : va_P D vwCl (cw ad cI cL cZ c_sr t_n t_r t_w s_w s_h s_c s_p s_s p_nx p_sz r_k r_r r_p u1.1 q_z t_t b_l b_b b_n r_t u1.2.1 u1.2.2.1 u1.2.2.2.1 q_l q_b q_n t_le s_cs s_ps s_ha s_en pk ik s_ro s_me s_be s_se s_co pl pb pn il ib im u1.2.2.2.2 q_a) H := hP
    refine lv_aload_n hx hb dX7_searchLoops_35 rfl (lv_at hl 0 rfl) ?_
    refine lv_iconst (v := 1) hx hb dX7_searchLoops_36 (by decide) ?_
    refine va_put (D := D) (ci := 7) (v := .int 1) (ty := .boolean) (C := RX7) (T := TX7) (N := 9) hx hb hts u_X7 tyX7 tyX7_ok nmX7 hown hk.1 hP (cw_D hAd) hS 0 rfl rfl 8 (by decide) (hts _ q2_85) (fun _ h9 => h9) rfl (tyX7_ok 8 (by decide)) rfl rfl (Nat.le_of_ble_eq_true rfl) dX7_searchLoops_37 (fun H locs hP _ hS => ?_)
    have hP : va_P D vwCl (cw ad cI cL cZ 1 t_n t_r t_w s_w s_h s_c s_p s_s p_nx p_sz r_k r_r r_p u1.1 q_z t_t b_l b_b b_n r_t u1.2.1 u1.2.2.1 u1.2.2.2.1 q_l q_b q_n t_le s_cs s_ps s_ha s_en pk ik s_ro s_me s_be s_se s_co pl pb pn il ib im u1.2.2.2.2 q_a) H := hP
    subst hr
    exact ret_v hx hb hrt hlocks hP hS dX7_searchLoops_40
theorem hd_X7_many : yX7_many.cls = RX7 ∧ yX7_many.cls ≠ "java/lang/invoke/MethodHandle" ∧ yX7_many.cls ≠ "java/lang/invoke/VarHandle" ∧ (parseMethodDescriptor yX7_many.desc).map (fun d => d.parameters.length) = some 1 := by decide +kernel
def f_X7_many (p1 : Int32) (c_sr : Int32) (s_c : Int32) (l_z : Int32) (b_l : Int64) (b_b : Int64) (b_n : Int64) (l_l : Int64) (l_b : Int64) (l_n : Int64) (s_cs : Nat → Int32) (s_ha : Nat → Int32) (s_ro : Nat → Int64) (s_be : Nat → Int64) (s_se : Nat → Int64) (s_co : Nat → Int64) (l_a : Nat → Int64) : Int32 × Int32 × Int32 × Int64 × Int64 × Int64 × (Nat → Int64) := (if p1 < 1 then ((-1), c_sr, l_z, l_l, l_b, l_n, l_a) else (if p1 ≤ 10000 then (bd (f_X7_searchLoops c_sr s_c l_z b_l b_b b_n l_l l_b l_n s_cs s_ha s_ro s_be s_se s_co l_a) (fun u1 => (minI u1.2.1 p1, u1.1, u1.2.1, u1.2.2.1, u1.2.2.2.1, u1.2.2.2.2.1, u1.2.2.2.2.2))) else ((-1), c_sr, l_z, l_l, l_b, l_n, l_a)))
set_option maxHeartbeats 4000000 in
set_option maxRecDepth 100000 in
theorem c_X7_many (l : Launch) (D : va_G) (cI cL cZ : ClassId) (ad : Nat → Nat) (c_sr t_n t_r t_w s_w s_h s_c s_p s_s p_nx p_sz r_k r_r r_p l_z q_z : Int32) (t_t b_l b_b b_n r_t l_l l_b l_n q_l q_b q_n : Int64) (t_le s_cs s_ps s_ha s_en pk ik : Nat → Int32) (s_ro s_me s_be s_se s_co pl pb pn il ib im l_a q_a : Nat → Int64) (hAd : cInj ad) (p1 : Int32) (r : Int32 × Int32 × Int32 × Int64 × Int64 × Int64 × (Nat → Int64)) (hr : f_X7_many p1 c_sr s_c l_z b_l b_b b_n l_l l_b l_n s_cs s_ha s_ro s_be s_se s_co l_a = r) (hc : 0 ≤ s_c.toInt) : MI l yX7_many (Cond.code yX7_many cX7_many 2 (some .int) :: W0) 24 701 D cI cL cZ (cAd ad) [.ref (ad 0), .int p1] (cw ad cI cL cZ c_sr t_n t_r t_w s_w s_h s_c s_p s_s p_nx p_sz r_k r_r r_p l_z q_z t_t b_l b_b b_n r_t l_l l_b l_n q_l q_b q_n t_le s_cs s_ps s_ha s_en pk ik s_ro s_me s_be s_se s_co pl pb pn il ib im l_a q_a) r.1 (cw ad cI cL cZ r.2.1 t_n t_r t_w s_w s_h s_c s_p s_s p_nx p_sz r_k r_r r_p r.2.2.1 q_z t_t b_l b_b b_n r_t r.2.2.2.1 r.2.2.2.2.1 r.2.2.2.2.2.1 q_l q_b q_n t_le s_cs s_ps s_ha s_en pk ik s_ro s_me s_be s_se s_co pl pb pn il ib im r.2.2.2.2.2.2 q_a) := by
  refine mk_start (cc := cX7_many) (maxL := 2) (ret := (some .int)) (by decide) rfl (Nat.le_of_ble_eq_true rfl) ?_
  intro p e s m below meth c ls C hP hS hl
  obtain ⟨hx, hb, hml, hrt, hlocks, hown, hts, hk⟩ := C
  have hown : s.vm.findClass RX7 = some m.cls := hown
  have hl : lv_has ls 2 [(0, .ref (ad 0)), (1, .int p1)] := hl
  rw [f_X7_many] at hr
  refine lv_iload_n hx hb dX7_many_0 rfl (lv_at hl 1 rfl) ?_
  refine lv_iconst (v := 1) hx hb dX7_many_1 (by decide) ?_
  refine lv_icmp_lt (tgt := 12) hx hb dX7_many_2 (by decide) (fun c2 => ?_) (fun c2 => ?_)
  · have hr := (if_pos c2).symm.trans hr
    refine lv_iconst (v := (-1)) hx hb dX7_many_12 (by decide) ?_
    subst hr
    exact ret_i hx hb hrt hlocks hP hS dX7_many_13
  · have hr := (if_neg c2).symm.trans hr
    refine lv_iload_n hx hb dX7_many_5 rfl (lv_at hl 1 rfl) ?_
    refine lv_sipush (v := 10000) hx hb dX7_many_6 (by decide) ?_
    refine lv_icmp_le (tgt := 14) hx hb dX7_many_9 (by decide) (fun c9 => ?_) (fun c9 => ?_)
    · have hr := (if_pos c9).symm.trans hr
      refine lv_aload_n hx hb dX7_many_14 rfl (lv_at hl 0 rfl) ?_
      obtain ⟨u1, hu1⟩ : ∃ z, f_X7_searchLoops c_sr s_c l_z b_l b_b b_n l_l l_b l_n s_cs s_ha s_ro s_be s_se s_co l_a = z := ⟨_, rfl⟩
      have hr := (bd_eq hu1).symm.trans hr
      refine go_v (ru_V (n := 0) ⟨hx, hb, hml, hown, hts⟩ hk hP (c_X7_searchLoops l D cI cL cZ ad c_sr t_n t_r t_w s_w s_h s_c s_p s_s p_nx p_sz r_k r_r r_p l_z q_z t_t b_l b_b b_n r_t l_l l_b l_n q_l q_b q_n t_le s_cs s_ps s_ha s_en pk ik s_ro s_me s_be s_se s_co pl pb pn il ib im l_a q_a hAd _ hu1 hc) (cwV 0 hts (gV q3_109 q3_111 qs2_9 q1_1 q3_112) rfl rfl rfl hd_X7_searchLoops ⟨Nat.le_of_ble_eq_true rfl, Nat.le_of_ble_eq_true rfl⟩) (va_recv hk.1 hP (ci := 7) (q0 := 0) rfl rfl) rfl hl.1 rfl (Nat.le_of_ble_eq_true rfl) dX7_many_15 ⟨Nat.zero_le _, Nat.zero_le _⟩) hS (fun _ h => h) (fun H locs hP hS => ?_)
      have hP : va_P D vwCl (cw ad cI cL cZ u1.1 t_n t_r t_w s_w s_h s_c s_p s_s p_nx p_sz r_k r_r r_p u1.2.1 q_z t_t b_l b_b b_n r_t u1.2.2.1 u1.2.2.2.1 u1.2.2.2.2.1 q_l q_b q_n t_le s_cs s_ps s_ha s_en pk ik s_ro s_me s_be s_se s_co pl pb pn il ib im u1.2.2.2.2.2 q_a) H := hP
      refine lv_aload_n hx hb dX7_many_18 rfl (lv_at hl 0 rfl) ?_
      refine va_get (D := D) (ci := 7) (v := .ref (ad 26)) (C := RX7) (T := TX7) (N := 9) hx hb hts u_X7 hown hk.1 hP 0 rfl rfl 6 (by decide) (hts _ q2_83) (fun _ h9 => h9) rfl dX7_many_19 ?_
      refine va_get (D := D) (ci := 1) (v := .int u1.2.1) (C := RX1) (T := TX1) (N := 6) hx hb hts u_X1 hown hk.1 hP 26 rfl rfl 5 (by decide) (hts _ q1_215) (fun _ h9 => h9) rfl dX7_many_22 ?_
      refine lv_iload_n hx hb dX7_many_25 rfl (lv_at hl 1 rfl) ?_
      refine va_mmin hx hb (hml.trans hl.1.symm) hown (hts _ q3_147) (hts _ q2_63) (hts _ q1_7) (hts _ q2_64) (Nat.le_of_ble_eq_true rfl) (Nat.le_of_ble_eq_true rfl) (Nat.zero_le _) (Nat.zero_le _) dX7_many_26 ?_
      subst hr
      exact ret_i hx hb hrt hlocks hP hS dX7_many_29
    · have hr := (if_neg c9).symm.trans hr
      refine lv_iconst (v := (-1)) hx hb dX7_many_12 (by decide) ?_
      subst hr
      exact ret_i hx hb hrt hlocks hP hS dX7_many_13
theorem hd_X7_loop : yX7_loop.cls = RX7 ∧ yX7_loop.cls ≠ "java/lang/invoke/MethodHandle" ∧ yX7_loop.cls ≠ "java/lang/invoke/VarHandle" ∧ (parseMethodDescriptor yX7_loop.desc).map (fun d => d.parameters.length) = some 1 := by decide +kernel
def f_X7_loop (p1 : Int32) (c_sr : Int32) (s_c : Int32) (l_z : Int32) (b_l : Int64) (b_b : Int64) (b_n : Int64) (l_l : Int64) (l_b : Int64) (l_n : Int64) (s_cs : Nat → Int32) (s_ha : Nat → Int32) (s_ro : Nat → Int64) (s_be : Nat → Int64) (s_se : Nat → Int64) (s_co : Nat → Int64) (l_a : Nat → Int64) : Int64 × Int32 × Int32 × Int64 × Int64 × Int64 × (Nat → Int64) := (if p1 < 0 then ((-1), c_sr, l_z, l_l, l_b, l_n, l_a) else (if p1 < 10000 then (bd (f_X7_searchLoops c_sr s_c l_z b_l b_b b_n l_l l_b l_n s_cs s_ha s_ro s_be s_se s_co l_a) (fun u1 => (if u1.2.1 ≤ p1 then ((-9), u1.1, u1.2.1, u1.2.2.1, u1.2.2.2.1, u1.2.2.2.2.1, u1.2.2.2.2.2) else (f_X1_ring p1 u1.2.2.2.2.2, u1.1, u1.2.1, u1.2.2.1, u1.2.2.2.1, u1.2.2.2.2.1, u1.2.2.2.2.2)))) else ((-1), c_sr, l_z, l_l, l_b, l_n, l_a)))
set_option maxHeartbeats 4000000 in
set_option maxRecDepth 100000 in
theorem c_X7_loop (l : Launch) (D : va_G) (cI cL cZ : ClassId) (ad : Nat → Nat) (c_sr t_n t_r t_w s_w s_h s_c s_p s_s p_nx p_sz r_k r_r r_p l_z q_z : Int32) (t_t b_l b_b b_n r_t l_l l_b l_n q_l q_b q_n : Int64) (t_le s_cs s_ps s_ha s_en pk ik : Nat → Int32) (s_ro s_me s_be s_se s_co pl pb pn il ib im l_a q_a : Nat → Int64) (hAd : cInj ad) (p1 : Int32) (r : Int64 × Int32 × Int32 × Int64 × Int64 × Int64 × (Nat → Int64)) (hr : f_X7_loop p1 c_sr s_c l_z b_l b_b b_n l_l l_b l_n s_cs s_ha s_ro s_be s_se s_co l_a = r) (hc : 0 ≤ s_c.toInt) : ML l yX7_loop (Cond.code yX7_loop cX7_loop 2 (some .long) :: W0) 24 701 D cI cL cZ (cAd ad) [.ref (ad 0), .int p1] (cw ad cI cL cZ c_sr t_n t_r t_w s_w s_h s_c s_p s_s p_nx p_sz r_k r_r r_p l_z q_z t_t b_l b_b b_n r_t l_l l_b l_n q_l q_b q_n t_le s_cs s_ps s_ha s_en pk ik s_ro s_me s_be s_se s_co pl pb pn il ib im l_a q_a) r.1 (cw ad cI cL cZ r.2.1 t_n t_r t_w s_w s_h s_c s_p s_s p_nx p_sz r_k r_r r_p r.2.2.1 q_z t_t b_l b_b b_n r_t r.2.2.2.1 r.2.2.2.2.1 r.2.2.2.2.2.1 q_l q_b q_n t_le s_cs s_ps s_ha s_en pk ik s_ro s_me s_be s_se s_co pl pb pn il ib im r.2.2.2.2.2.2 q_a) := by
  refine mk_start (cc := cX7_loop) (maxL := 2) (ret := (some .long)) (by decide) rfl (Nat.le_of_ble_eq_true rfl) ?_
  intro p e s m below meth c ls C hP hS hl
  obtain ⟨hx, hb, hml, hrt, hlocks, hown, hts, hk⟩ := C
  have hown : s.vm.findClass RX7 = some m.cls := hown
  have hl : lv_has ls 2 [(0, .ref (ad 0)), (1, .int p1)] := hl
  rw [f_X7_loop] at hr
  refine lv_iload_n hx hb dX7_loop_0 rfl (lv_at hl 1 rfl) ?_
  refine lv_if_lt (tgt := 11) hx hb dX7_loop_1 (by decide) (fun c1 => ?_) (fun c1 => ?_)
  · have hr := (if_pos c1).symm.trans hr
    refine lv_ldc2 hx hb hown (hts _ q3_152) dX7_loop_11 ?_
    subst hr
    exact ret_l hx hb hrt hlocks hP hS dX7_loop_14
  · have hr := (if_neg c1).symm.trans hr
    refine lv_iload_n hx hb dX7_loop_4 rfl (lv_at hl 1 rfl) ?_
    refine lv_sipush (v := 10000) hx hb dX7_loop_5 (by decide) ?_
    refine lv_icmp_lt (tgt := 15) hx hb dX7_loop_8 (by decide) (fun c8 => ?_) (fun c8 => ?_)
    · have hr := (if_pos c8).symm.trans hr
      refine lv_aload_n hx hb dX7_loop_15 rfl (lv_at hl 0 rfl) ?_
      obtain ⟨u1, hu1⟩ : ∃ z, f_X7_searchLoops c_sr s_c l_z b_l b_b b_n l_l l_b l_n s_cs s_ha s_ro s_be s_se s_co l_a = z := ⟨_, rfl⟩
      have hr := (bd_eq hu1).symm.trans hr
      refine go_v (ru_V (n := 0) ⟨hx, hb, hml, hown, hts⟩ hk hP (c_X7_searchLoops l D cI cL cZ ad c_sr t_n t_r t_w s_w s_h s_c s_p s_s p_nx p_sz r_k r_r r_p l_z q_z t_t b_l b_b b_n r_t l_l l_b l_n q_l q_b q_n t_le s_cs s_ps s_ha s_en pk ik s_ro s_me s_be s_se s_co pl pb pn il ib im l_a q_a hAd _ hu1 hc) (cwV 0 hts (gV q3_109 q3_111 qs2_9 q1_1 q3_112) rfl rfl rfl hd_X7_searchLoops ⟨Nat.le_of_ble_eq_true rfl, Nat.le_of_ble_eq_true rfl⟩) (va_recv hk.1 hP (ci := 7) (q0 := 0) rfl rfl) rfl hl.1 rfl (Nat.le_of_ble_eq_true rfl) dX7_loop_16 ⟨Nat.zero_le _, Nat.zero_le _⟩) hS (fun _ h => h) (fun H locs hP hS => ?_)
      have hP : va_P D vwCl (cw ad cI cL cZ u1.1 t_n t_r t_w s_w s_h s_c s_p s_s p_nx p_sz r_k r_r r_p u1.2.1 q_z t_t b_l b_b b_n r_t u1.2.2.1 u1.2.2.2.1 u1.2.2.2.2.1 q_l q_b q_n t_le s_cs s_ps s_ha s_en pk ik s_ro s_me s_be s_se s_co pl pb pn il ib im u1.2.2.2.2.2 q_a) H := hP
      refine lv_iload_n hx hb dX7_loop_19 rfl (lv_at hl 1 rfl) ?_
      refine lv_aload_n hx hb dX7_loop_20 rfl (lv_at hl 0 rfl) ?_
      refine va_get (D := D) (ci := 7) (v := .ref (ad 26)) (C := RX7) (T := TX7) (N := 9) hx hb hts u_X7 hown hk.1 hP 0 rfl rfl 6 (by decide) (hts _ q2_83) (fun _ h9 => h9) rfl dX7_loop_21 ?_
      refine va_get (D := D) (ci := 1) (v := .int u1.2.1) (C := RX1) (T := TX1) (N := 6) hx hb hts u_X1 hown hk.1 hP 26 rfl rfl 5 (by decide) (hts _ q1_215) (fun _ h9 => h9) rfl dX7_loop_24 ?_
      refine lv_icmp_ge (tgt := 41) hx hb dX7_loop_27 (by decide) (fun c27 => ?_) (fun c27 => ?_)
      · have hr := (if_pos c27).symm.trans hr
        refine lv_ldc2 hx hb hown (hts _ q3_158) dX7_loop_41 ?_
        subst hr
        exact ret_l hx hb hrt hlocks hP hS dX7_loop_44
      · have hr := (if_neg c27).symm.trans hr
        refine lv_aload_n hx hb dX7_loop_30 rfl (lv_at hl 0 rfl) ?_
        refine va_get (D := D) (ci := 7) (v := .ref (ad 26)) (C := RX7) (T := TX7) (N := 9) hx hb hts u_X7 hown hk.1 hP 0 rfl rfl 6 (by decide) (hts _ q2_83) (fun _ h9 => h9) rfl dX7_loop_31 ?_
        refine lv_iload_n hx hb dX7_loop_34 rfl (lv_at hl 1 rfl) ?_
        refine go_l (ru_V (n := 1) ⟨hx, hb, hml, hown, hts⟩ hk hP (c_X1_ring l D cI cL cZ ad u1.1 t_n t_r t_w s_w s_h s_c s_p s_s p_nx p_sz r_k r_r r_p u1.2.1 q_z t_t b_l b_b b_n r_t u1.2.2.1 u1.2.2.2.1 u1.2.2.2.2.1 q_l q_b q_n t_le s_cs s_ps s_ha s_en pk ik s_ro s_me s_be s_se s_co pl pb pn il ib im u1.2.2.2.2.2 q_a hAd p1 _ rfl) (cwV 1 hts (gV q3_153 q3_154 q3_155 q1_9 q3_156) rfl rfl rfl hd_X1_ring ⟨Nat.le_of_ble_eq_true rfl, Nat.le_of_ble_eq_true rfl⟩) (va_recv hk.1 hP (ci := 1) (q0 := 26) rfl rfl) rfl hl.1 rfl (Nat.le_of_ble_eq_true rfl) dX7_loop_35 ⟨Nat.zero_le _, Nat.zero_le _⟩) hS (fun _ h => h) (fun H locs hP hS => ?_)
        have hP : va_P D vwCl (cw ad cI cL cZ u1.1 t_n t_r t_w s_w s_h s_c s_p s_s p_nx p_sz r_k r_r r_p u1.2.1 q_z t_t b_l b_b b_n r_t u1.2.2.1 u1.2.2.2.1 u1.2.2.2.2.1 q_l q_b q_n t_le s_cs s_ps s_ha s_en pk ik s_ro s_me s_be s_se s_co pl pb pn il ib im u1.2.2.2.2.2 q_a) H := hP
        refine lv_goto (tgt := 44) hx hb dX7_loop_38 (by decide) ?_
        subst hr
        exact ret_l hx hb hrt hlocks hP hS dX7_loop_44
    · have hr := (if_neg c8).symm.trans hr
      refine lv_ldc2 hx hb hown (hts _ q3_152) dX7_loop_11 ?_
      subst hr
      exact ret_l hx hb hrt hlocks hP hS dX7_loop_14
theorem hd_X7_forced : yX7_forced.cls = RX7 ∧ yX7_forced.cls ≠ "java/lang/invoke/MethodHandle" ∧ yX7_forced.cls ≠ "java/lang/invoke/VarHandle" ∧ (parseMethodDescriptor yX7_forced.desc).map (fun d => d.parameters.length) = some 1 := by decide +kernel
def f_X7_forced (p1 : Int32) (c_sr : Int32) (s_c : Int32) (s_s : Int32) (l_z : Int32) (b_l : Int64) (b_b : Int64) (b_n : Int64) (l_l : Int64) (l_b : Int64) (l_n : Int64) (s_cs : Nat → Int32) (s_ha : Nat → Int32) (s_ro : Nat → Int64) (s_be : Nat → Int64) (s_se : Nat → Int64) (s_co : Nat → Int64) (l_a : Nat → Int64) : Int64 × Int32 × Int32 × Int64 × Int64 × Int64 × (Nat → Int64) := (if p1 < 0 then ((-1), c_sr, l_z, l_l, l_b, l_n, l_a) else (if p1 ≤ 1 then (bd (f_X7_searchLoops c_sr s_c l_z b_l b_b b_n l_l l_b l_n s_cs s_ha s_ro s_be s_se s_co l_a) (fun u1 => (if u1.2.1 = 0 then ((-9), u1.1, u1.2.1, u1.2.2.1, u1.2.2.2.1, u1.2.2.2.2.1, u1.2.2.2.2.2) else (if p1 = 0 then (f_X1_inAll s_s u1.2.1 u1.2.2.2.2.2, u1.1, u1.2.1, u1.2.2.1, u1.2.2.2.1, u1.2.2.2.2.1, u1.2.2.2.2.2) else (f_X1_inNone s_s u1.2.1 u1.2.2.2.2.2, u1.1, u1.2.1, u1.2.2.1, u1.2.2.2.1, u1.2.2.2.2.1, u1.2.2.2.2.2))))) else ((-1), c_sr, l_z, l_l, l_b, l_n, l_a)))
set_option maxHeartbeats 4000000 in
set_option maxRecDepth 100000 in
theorem c_X7_forced (l : Launch) (D : va_G) (cI cL cZ : ClassId) (ad : Nat → Nat) (c_sr t_n t_r t_w s_w s_h s_c s_p s_s p_nx p_sz r_k r_r r_p l_z q_z : Int32) (t_t b_l b_b b_n r_t l_l l_b l_n q_l q_b q_n : Int64) (t_le s_cs s_ps s_ha s_en pk ik : Nat → Int32) (s_ro s_me s_be s_se s_co pl pb pn il ib im l_a q_a : Nat → Int64) (hAd : cInj ad) (p1 : Int32) (r : Int64 × Int32 × Int32 × Int64 × Int64 × Int64 × (Nat → Int64)) (hr : f_X7_forced p1 c_sr s_c s_s l_z b_l b_b b_n l_l l_b l_n s_cs s_ha s_ro s_be s_se s_co l_a = r) (hc : 0 ≤ s_c.toInt) : ML l yX7_forced (Cond.code yX7_forced cX7_forced 2 (some .long) :: W0) 24 701 D cI cL cZ (cAd ad) [.ref (ad 0), .int p1] (cw ad cI cL cZ c_sr t_n t_r t_w s_w s_h s_c s_p s_s p_nx p_sz r_k r_r r_p l_z q_z t_t b_l b_b b_n r_t l_l l_b l_n q_l q_b q_n t_le s_cs s_ps s_ha s_en pk ik s_ro s_me s_be s_se s_co pl pb pn il ib im l_a q_a) r.1 (cw ad cI cL cZ r.2.1 t_n t_r t_w s_w s_h s_c s_p s_s p_nx p_sz r_k r_r r_p r.2.2.1 q_z t_t b_l b_b b_n r_t r.2.2.2.1 r.2.2.2.2.1 r.2.2.2.2.2.1 q_l q_b q_n t_le s_cs s_ps s_ha s_en pk ik s_ro s_me s_be s_se s_co pl pb pn il ib im r.2.2.2.2.2.2 q_a) := by
  refine mk_start (cc := cX7_forced) (maxL := 2) (ret := (some .long)) (by decide) rfl (Nat.le_of_ble_eq_true rfl) ?_
  intro p e s m below meth c ls C hP hS hl
  obtain ⟨hx, hb, hml, hrt, hlocks, hown, hts, hk⟩ := C
  have hown : s.vm.findClass RX7 = some m.cls := hown
  have hl : lv_has ls 2 [(0, .ref (ad 0)), (1, .int p1)] := hl
  rw [f_X7_forced] at hr
  refine lv_iload_n hx hb dX7_forced_0 rfl (lv_at hl 1 rfl) ?_
  refine lv_if_lt (tgt := 9) hx hb dX7_forced_1 (by decide) (fun c1 => ?_) (fun c1 => ?_)
  · have hr := (if_pos c1).symm.trans hr
    refine lv_ldc2 hx hb hown (hts _ q3_152) dX7_forced_9 ?_
    subst hr
    exact ret_l hx hb hrt hlocks hP hS dX7_forced_12
  · have hr := (if_neg c1).symm.trans hr
    refine lv_iload_n hx hb dX7_forced_4 rfl (lv_at hl 1 rfl) ?_
    refine lv_iconst (v := 1) hx hb dX7_forced_5 (by decide) ?_
    refine lv_icmp_le (tgt := 13) hx hb dX7_forced_6 (by decide) (fun c6 => ?_) (fun c6 => ?_)
    · have hr := (if_pos c6).symm.trans hr
      refine lv_aload_n hx hb dX7_forced_13 rfl (lv_at hl 0 rfl) ?_
      obtain ⟨u1, hu1⟩ : ∃ z, f_X7_searchLoops c_sr s_c l_z b_l b_b b_n l_l l_b l_n s_cs s_ha s_ro s_be s_se s_co l_a = z := ⟨_, rfl⟩
      have hr := (bd_eq hu1).symm.trans hr
      refine go_v (ru_V (n := 0) ⟨hx, hb, hml, hown, hts⟩ hk hP (c_X7_searchLoops l D cI cL cZ ad c_sr t_n t_r t_w s_w s_h s_c s_p s_s p_nx p_sz r_k r_r r_p l_z q_z t_t b_l b_b b_n r_t l_l l_b l_n q_l q_b q_n t_le s_cs s_ps s_ha s_en pk ik s_ro s_me s_be s_se s_co pl pb pn il ib im l_a q_a hAd _ hu1 hc) (cwV 0 hts (gV q3_109 q3_111 qs2_9 q1_1 q3_112) rfl rfl rfl hd_X7_searchLoops ⟨Nat.le_of_ble_eq_true rfl, Nat.le_of_ble_eq_true rfl⟩) (va_recv hk.1 hP (ci := 7) (q0 := 0) rfl rfl) rfl hl.1 rfl (Nat.le_of_ble_eq_true rfl) dX7_forced_14 ⟨Nat.zero_le _, Nat.zero_le _⟩) hS (fun _ h => h) (fun H locs hP hS => ?_)
      have hP : va_P D vwCl (cw ad cI cL cZ u1.1 t_n t_r t_w s_w s_h s_c s_p s_s p_nx p_sz r_k r_r r_p u1.2.1 q_z t_t b_l b_b b_n r_t u1.2.2.1 u1.2.2.2.1 u1.2.2.2.2.1 q_l q_b q_n t_le s_cs s_ps s_ha s_en pk ik s_ro s_me s_be s_se s_co pl pb pn il ib im u1.2.2.2.2.2 q_a) H := hP
      refine lv_aload_n hx hb dX7_forced_17 rfl (lv_at hl 0 rfl) ?_
      refine va_get (D := D) (ci := 7) (v := .ref (ad 26)) (C := RX7) (T := TX7) (N := 9) hx hb hts u_X7 hown hk.1 hP 0 rfl rfl 6 (by decide) (hts _ q2_83) (fun _ h9 => h9) rfl dX7_forced_18 ?_
      refine va_get (D := D) (ci := 1) (v := .int u1.2.1) (C := RX1) (T := TX1) (N := 6) hx hb hts u_X1 hown hk.1 hP 26 rfl rfl 5 (by decide) (hts _ q1_215) (fun _ h9 => h9) rfl dX7_forced_21 ?_
      refine lv_if_ne (tgt := 31) hx hb dX7_forced_24 (by decide) (fun c24 => ?_) (fun c24 => ?_)
      · have hr := (if_neg c24).symm.trans hr
        refine lv_iload_n hx hb dX7_forced_31 rfl (lv_at hl 1 rfl) ?_
        refine lv_if_ne (tgt := 45) hx hb dX7_forced_32 (by decide) (fun c32 => ?_) (fun c32 => ?_)
        · have hr := (if_neg c32).symm.trans hr
          refine lv_aload_n hx hb dX7_forced_45 rfl (lv_at hl 0 rfl) ?_
          refine va_get (D := D) (ci := 7) (v := .ref (ad 26)) (C := RX7) (T := TX7) (N := 9) hx hb hts u_X7 hown hk.1 hP 0 rfl rfl 6 (by decide) (hts _ q2_83) (fun _ h9 => h9) rfl dX7_forced_46 ?_
          refine go_l (ru_V (n := 0) ⟨hx, hb, hml, hown, hts⟩ hk hP (c_X1_inNone l D cI cL cZ ad u1.1 t_n t_r t_w s_w s_h s_c s_p s_s p_nx p_sz r_k r_r r_p u1.2.1 q_z t_t b_l b_b b_n r_t u1.2.2.1 u1.2.2.2.1 u1.2.2.2.2.1 q_l q_b q_n t_le s_cs s_ps s_ha s_en pk ik s_ro s_me s_be s_se s_co pl pb pn il ib im u1.2.2.2.2.2 q_a hAd _ rfl) (cwV 0 hts (gV q3_171 q3_172 q3_173 q1_9 q3_174) rfl rfl rfl hd_X1_inNone ⟨Nat.le_of_ble_eq_true rfl, Nat.le_of_ble_eq_true rfl⟩) (va_recv hk.1 hP (ci := 1) (q0 := 26) rfl rfl) rfl hl.1 rfl (Nat.le_of_ble_eq_true rfl) dX7_forced_49 ⟨Nat.zero_le _, Nat.zero_le _⟩) hS (fun _ h => h) (fun H locs hP hS => ?_)
          have hP : va_P D vwCl (cw ad cI cL cZ u1.1 t_n t_r t_w s_w s_h s_c s_p s_s p_nx p_sz r_k r_r r_p u1.2.1 q_z t_t b_l b_b b_n r_t u1.2.2.1 u1.2.2.2.1 u1.2.2.2.2.1 q_l q_b q_n t_le s_cs s_ps s_ha s_en pk ik s_ro s_me s_be s_se s_co pl pb pn il ib im u1.2.2.2.2.2 q_a) H := hP
          subst hr
          exact ret_l hx hb hrt hlocks hP hS dX7_forced_52
        · have hr := (if_pos c32).symm.trans hr
          refine lv_aload_n hx hb dX7_forced_35 rfl (lv_at hl 0 rfl) ?_
          refine va_get (D := D) (ci := 7) (v := .ref (ad 26)) (C := RX7) (T := TX7) (N := 9) hx hb hts u_X7 hown hk.1 hP 0 rfl rfl 6 (by decide) (hts _ q2_83) (fun _ h9 => h9) rfl dX7_forced_36 ?_
          refine go_l (ru_V (n := 0) ⟨hx, hb, hml, hown, hts⟩ hk hP (c_X1_inAll l D cI cL cZ ad u1.1 t_n t_r t_w s_w s_h s_c s_p s_s p_nx p_sz r_k r_r r_p u1.2.1 q_z t_t b_l b_b b_n r_t u1.2.2.1 u1.2.2.2.1 u1.2.2.2.2.1 q_l q_b q_n t_le s_cs s_ps s_ha s_en pk ik s_ro s_me s_be s_se s_co pl pb pn il ib im u1.2.2.2.2.2 q_a hAd _ rfl) (cwV 0 hts (gV q3_163 q3_164 q3_165 q1_9 q3_166) rfl rfl rfl hd_X1_inAll ⟨Nat.le_of_ble_eq_true rfl, Nat.le_of_ble_eq_true rfl⟩) (va_recv hk.1 hP (ci := 1) (q0 := 26) rfl rfl) rfl hl.1 rfl (Nat.le_of_ble_eq_true rfl) dX7_forced_39 ⟨Nat.zero_le _, Nat.zero_le _⟩) hS (fun _ h => h) (fun H locs hP hS => ?_)
          have hP : va_P D vwCl (cw ad cI cL cZ u1.1 t_n t_r t_w s_w s_h s_c s_p s_s p_nx p_sz r_k r_r r_p u1.2.1 q_z t_t b_l b_b b_n r_t u1.2.2.1 u1.2.2.2.1 u1.2.2.2.2.1 q_l q_b q_n t_le s_cs s_ps s_ha s_en pk ik s_ro s_me s_be s_se s_co pl pb pn il ib im u1.2.2.2.2.2 q_a) H := hP
          refine lv_goto (tgt := 52) hx hb dX7_forced_42 (by decide) ?_
          subst hr
          exact ret_l hx hb hrt hlocks hP hS dX7_forced_52
      · have hr := (if_pos c24).symm.trans hr
        refine lv_ldc2 hx hb hown (hts _ q3_158) dX7_forced_27 ?_
        subst hr
        exact ret_l hx hb hrt hlocks hP hS dX7_forced_30
    · have hr := (if_neg c6).symm.trans hr
      refine lv_ldc2 hx hb hown (hts _ q3_152) dX7_forced_9 ?_
      subst hr
      exact ret_l hx hb hrt hlocks hP hS dX7_forced_12
theorem hd_X7_inside : yX7_inside.cls = RX7 ∧ yX7_inside.cls ≠ "java/lang/invoke/MethodHandle" ∧ yX7_inside.cls ≠ "java/lang/invoke/VarHandle" ∧ (parseMethodDescriptor yX7_inside.desc).map (fun d => d.parameters.length) = some 1 := by decide +kernel
def f_X7_inside (p1 : Int32) (c_sr : Int32) (s_w : Int32) (s_h : Int32) (s_c : Int32) (l_z : Int32) (b_l : Int64) (b_b : Int64) (b_n : Int64) (l_l : Int64) (l_b : Int64) (l_n : Int64) (s_cs : Nat → Int32) (s_ha : Nat → Int32) (s_ro : Nat → Int64) (s_be : Nat → Int64) (s_se : Nat → Int64) (s_co : Nat → Int64) (l_a : Nat → Int64) : Int32 × Int32 × Int32 × Int64 × Int64 × Int64 × (Nat → Int64) := (if p1 < 0 then ((-1), c_sr, l_z, l_l, l_b, l_n, l_a) else (if p1 < 10000 then (bd (f_X7_searchLoops c_sr s_c l_z b_l b_b b_n l_l l_b l_n s_cs s_ha s_ro s_be s_se s_co l_a) (fun u1 => (if u1.2.1 ≤ p1 then ((-9), u1.1, u1.2.1, u1.2.2.1, u1.2.2.2.1, u1.2.2.2.2.1, u1.2.2.2.2.2) else (f_X4_cellsWithin (f_X1_ring p1 u1.2.2.2.2.2) s_w s_h, u1.1, u1.2.1, u1.2.2.1, u1.2.2.2.1, u1.2.2.2.2.1, u1.2.2.2.2.2)))) else ((-1), c_sr, l_z, l_l, l_b, l_n, l_a)))
set_option maxHeartbeats 4000000 in
set_option maxRecDepth 100000 in
theorem c_X7_inside (l : Launch) (D : va_G) (cI cL cZ : ClassId) (ad : Nat → Nat) (c_sr t_n t_r t_w s_w s_h s_c s_p s_s p_nx p_sz r_k r_r r_p l_z q_z : Int32) (t_t b_l b_b b_n r_t l_l l_b l_n q_l q_b q_n : Int64) (t_le s_cs s_ps s_ha s_en pk ik : Nat → Int32) (s_ro s_me s_be s_se s_co pl pb pn il ib im l_a q_a : Nat → Int64) (hAd : cInj ad) (p1 : Int32) (r : Int32 × Int32 × Int32 × Int64 × Int64 × Int64 × (Nat → Int64)) (hr : f_X7_inside p1 c_sr s_w s_h s_c l_z b_l b_b b_n l_l l_b l_n s_cs s_ha s_ro s_be s_se s_co l_a = r) (hc : 0 ≤ s_c.toInt) : MI l yX7_inside (Cond.code yX7_inside cX7_inside 2 (some .int) :: W0) 24 701 D cI cL cZ (cAd ad) [.ref (ad 0), .int p1] (cw ad cI cL cZ c_sr t_n t_r t_w s_w s_h s_c s_p s_s p_nx p_sz r_k r_r r_p l_z q_z t_t b_l b_b b_n r_t l_l l_b l_n q_l q_b q_n t_le s_cs s_ps s_ha s_en pk ik s_ro s_me s_be s_se s_co pl pb pn il ib im l_a q_a) r.1 (cw ad cI cL cZ r.2.1 t_n t_r t_w s_w s_h s_c s_p s_s p_nx p_sz r_k r_r r_p r.2.2.1 q_z t_t b_l b_b b_n r_t r.2.2.2.1 r.2.2.2.2.1 r.2.2.2.2.2.1 q_l q_b q_n t_le s_cs s_ps s_ha s_en pk ik s_ro s_me s_be s_se s_co pl pb pn il ib im r.2.2.2.2.2.2 q_a) := by
  refine mk_start (cc := cX7_inside) (maxL := 2) (ret := (some .int)) (by decide) rfl (Nat.le_of_ble_eq_true rfl) ?_
  intro p e s m below meth c ls C hP hS hl
  obtain ⟨hx, hb, hml, hrt, hlocks, hown, hts, hk⟩ := C
  have hown : s.vm.findClass RX7 = some m.cls := hown
  have hl : lv_has ls 2 [(0, .ref (ad 0)), (1, .int p1)] := hl
  rw [f_X7_inside] at hr
  refine lv_iload_n hx hb dX7_inside_0 rfl (lv_at hl 1 rfl) ?_
  refine lv_if_lt (tgt := 11) hx hb dX7_inside_1 (by decide) (fun c1 => ?_) (fun c1 => ?_)
  · have hr := (if_pos c1).symm.trans hr
    refine lv_iconst (v := (-1)) hx hb dX7_inside_11 (by decide) ?_
    subst hr
    exact ret_i hx hb hrt hlocks hP hS dX7_inside_12
  · have hr := (if_neg c1).symm.trans hr
    refine lv_iload_n hx hb dX7_inside_4 rfl (lv_at hl 1 rfl) ?_
    refine lv_sipush (v := 10000) hx hb dX7_inside_5 (by decide) ?_
    refine lv_icmp_lt (tgt := 13) hx hb dX7_inside_8 (by decide) (fun c8 => ?_) (fun c8 => ?_)
    · have hr := (if_pos c8).symm.trans hr
      refine lv_aload_n hx hb dX7_inside_13 rfl (lv_at hl 0 rfl) ?_
      obtain ⟨u1, hu1⟩ : ∃ z, f_X7_searchLoops c_sr s_c l_z b_l b_b b_n l_l l_b l_n s_cs s_ha s_ro s_be s_se s_co l_a = z := ⟨_, rfl⟩
      have hr := (bd_eq hu1).symm.trans hr
      refine go_v (ru_V (n := 0) ⟨hx, hb, hml, hown, hts⟩ hk hP (c_X7_searchLoops l D cI cL cZ ad c_sr t_n t_r t_w s_w s_h s_c s_p s_s p_nx p_sz r_k r_r r_p l_z q_z t_t b_l b_b b_n r_t l_l l_b l_n q_l q_b q_n t_le s_cs s_ps s_ha s_en pk ik s_ro s_me s_be s_se s_co pl pb pn il ib im l_a q_a hAd _ hu1 hc) (cwV 0 hts (gV q3_109 q3_111 qs2_9 q1_1 q3_112) rfl rfl rfl hd_X7_searchLoops ⟨Nat.le_of_ble_eq_true rfl, Nat.le_of_ble_eq_true rfl⟩) (va_recv hk.1 hP (ci := 7) (q0 := 0) rfl rfl) rfl hl.1 rfl (Nat.le_of_ble_eq_true rfl) dX7_inside_14 ⟨Nat.zero_le _, Nat.zero_le _⟩) hS (fun _ h => h) (fun H locs hP hS => ?_)
      have hP : va_P D vwCl (cw ad cI cL cZ u1.1 t_n t_r t_w s_w s_h s_c s_p s_s p_nx p_sz r_k r_r r_p u1.2.1 q_z t_t b_l b_b b_n r_t u1.2.2.1 u1.2.2.2.1 u1.2.2.2.2.1 q_l q_b q_n t_le s_cs s_ps s_ha s_en pk ik s_ro s_me s_be s_se s_co pl pb pn il ib im u1.2.2.2.2.2 q_a) H := hP
      refine lv_iload_n hx hb dX7_inside_17 rfl (lv_at hl 1 rfl) ?_
      refine lv_aload_n hx hb dX7_inside_18 rfl (lv_at hl 0 rfl) ?_
      refine va_get (D := D) (ci := 7) (v := .ref (ad 26)) (C := RX7) (T := TX7) (N := 9) hx hb hts u_X7 hown hk.1 hP 0 rfl rfl 6 (by decide) (hts _ q2_83) (fun _ h9 => h9) rfl dX7_inside_19 ?_
      refine va_get (D := D) (ci := 1) (v := .int u1.2.1) (C := RX1) (T := TX1) (N := 6) hx hb hts u_X1 hown hk.1 hP 26 rfl rfl 5 (by decide) (hts _ q1_215) (fun _ h9 => h9) rfl dX7_inside_22 ?_
      refine lv_icmp_ge (tgt := 46) hx hb dX7_inside_25 (by decide) (fun c25 => ?_) (fun c25 => ?_)
      · have hr := (if_pos c25).symm.trans hr
        refine lv_bipush (v := (-9)) hx hb dX7_inside_46 (by decide) ?_
        subst hr
        exact ret_i hx hb hrt hlocks hP hS dX7_inside_48
      · have hr := (if_neg c25).symm.trans hr
        refine lv_aload_n hx hb dX7_inside_28 rfl (lv_at hl 0 rfl) ?_
        refine va_get (D := D) (ci := 7) (v := .ref (ad 3)) (C := RX7) (T := TX7) (N := 9) hx hb hts u_X7 hown hk.1 hP 0 rfl rfl 1 (by decide) (hts _ q2_78) (fun _ h9 => h9) rfl dX7_inside_29 ?_
        refine lv_aload_n hx hb dX7_inside_32 rfl (lv_at hl 0 rfl) ?_
        refine va_get (D := D) (ci := 7) (v := .ref (ad 26)) (C := RX7) (T := TX7) (N := 9) hx hb hts u_X7 hown hk.1 hP 0 rfl rfl 6 (by decide) (hts _ q2_83) (fun _ h9 => h9) rfl dX7_inside_33 ?_
        refine lv_iload_n hx hb dX7_inside_36 rfl (lv_at hl 1 rfl) ?_
        refine go_l (ru_V (n := 1) ⟨hx, hb, hml, hown, hts⟩ hk hP (c_X1_ring l D cI cL cZ ad u1.1 t_n t_r t_w s_w s_h s_c s_p s_s p_nx p_sz r_k r_r r_p u1.2.1 q_z t_t b_l b_b b_n r_t u1.2.2.1 u1.2.2.2.1 u1.2.2.2.2.1 q_l q_b q_n t_le s_cs s_ps s_ha s_en pk ik s_ro s_me s_be s_se s_co pl pb pn il ib im u1.2.2.2.2.2 q_a hAd p1 _ rfl) (cwV 1 hts (gV q3_153 q3_154 q3_155 q1_9 q3_156) rfl rfl rfl hd_X1_ring ⟨Nat.le_of_ble_eq_true rfl, Nat.le_of_ble_eq_true rfl⟩) (va_recv hk.1 hP (ci := 1) (q0 := 26) rfl rfl) rfl hl.1 rfl (Nat.le_of_ble_eq_true rfl) dX7_inside_37 ⟨Nat.zero_le _, Nat.zero_le _⟩) hS (fun _ h => h) (fun H locs hP hS => ?_)
        have hP : va_P D vwCl (cw ad cI cL cZ u1.1 t_n t_r t_w s_w s_h s_c s_p s_s p_nx p_sz r_k r_r r_p u1.2.1 q_z t_t b_l b_b b_n r_t u1.2.2.1 u1.2.2.2.1 u1.2.2.2.2.1 q_l q_b q_n t_le s_cs s_ps s_ha s_en pk ik s_ro s_me s_be s_se s_co pl pb pn il ib im u1.2.2.2.2.2 q_a) H := hP
        refine go_i (ru_V (n := 1) ⟨hx, hb, hml, hown, hts⟩ hk hP (c_X4_cellsWithin l D cI cL cZ ad u1.1 t_n t_r t_w s_w s_h s_c s_p s_s p_nx p_sz r_k r_r r_p u1.2.1 q_z t_t b_l b_b b_n r_t u1.2.2.1 u1.2.2.2.1 u1.2.2.2.2.1 q_l q_b q_n t_le s_cs s_ps s_ha s_en pk ik s_ro s_me s_be s_se s_co pl pb pn il ib im u1.2.2.2.2.2 q_a hAd (f_X1_ring p1 u1.2.2.2.2.2) _ rfl) (cwV 1 hts (gV q3_179 q3_180 q3_181 q1_3 q3_182) rfl rfl rfl hd_X4_cellsWithin ⟨Nat.le_of_ble_eq_true rfl, Nat.le_of_ble_eq_true rfl⟩) (va_recv hk.1 hP (ci := 4) (q0 := 3) rfl rfl) rfl hl.1 rfl (Nat.le_of_ble_eq_true rfl) dX7_inside_40 ⟨Nat.zero_le _, Nat.zero_le _⟩) hS (fun _ h => h) (fun H locs hP hS => ?_)
        have hP : va_P D vwCl (cw ad cI cL cZ u1.1 t_n t_r t_w s_w s_h s_c s_p s_s p_nx p_sz r_k r_r r_p u1.2.1 q_z t_t b_l b_b b_n r_t u1.2.2.1 u1.2.2.2.1 u1.2.2.2.2.1 q_l q_b q_n t_le s_cs s_ps s_ha s_en pk ik s_ro s_me s_be s_se s_co pl pb pn il ib im u1.2.2.2.2.2 q_a) H := hP
        refine lv_goto (tgt := 48) hx hb dX7_inside_43 (by decide) ?_
        subst hr
        exact ret_i hx hb hrt hlocks hP hS dX7_inside_48
    · have hr := (if_neg c8).symm.trans hr
      refine lv_iconst (v := (-1)) hx hb dX7_inside_11 (by decide) ?_
      subst hr
      exact ret_i hx hb hrt hlocks hP hS dX7_inside_12
theorem hd_X7_numbersThat : yX7_numbersThat.cls = RX7 ∧ yX7_numbersThat.cls ≠ "java/lang/invoke/MethodHandle" ∧ yX7_numbersThat.cls ≠ "java/lang/invoke/VarHandle" ∧ (parseMethodDescriptor yX7_numbersThat.desc).map (fun d => d.parameters.length) = some 1 := by decide +kernel
def F_X7_numbersThat_43 (y1 : Int32) (s_c : Int32) (b_l : Int64) (b_b : Int64) (b_n : Int64) (s_cs : Nat → Int32) (s_ha : Nat → Int32) (s_ro : Nat → Int64) (s_be : Nat → Int64) (s_se : Nat → Int64) (s_co : Nat → Int64) {β : Type} (k0 : Int32 → Int32 → Int64 → Int64 → Int64 → (Nat → Int64) → β) : Nat → Int32 → Int32 → Int32 → Int64 → Int64 → Int64 → (Nat → Int64) → β
  | 0, x3, x4, q_z, q_l, q_b, q_n, q_a => k0 x3 q_z q_l q_b q_n q_a
  | n + 1, x3, x4, q_z, q_l, q_b, q_n, q_a => (if s_c ≤ x4 then k0 x3 q_z q_l q_b q_n q_a else (if 0 ≤ (f_X0_numberOf x4 b_n) then (bd (f_X1_search_b b_l b_b (f_X0_withNumber b_n x4 ((-1))) s_c s_cs s_ha s_ro s_be s_se s_co q_a) (fun u2 => (if y1 = 0 then (if u2.1 = 1 then F_X7_numbersThat_43 y1 s_c b_l b_b b_n s_cs s_ha s_ro s_be s_se s_co k0 n (x3 ||| (1 <<< (x4 &&& 31))) (x4 + 1) u2.1 u2.2.1 u2.2.2.1 u2.2.2.2.1 u2.2.2.2.2 else F_X7_numbersThat_43 y1 s_c b_l b_b b_n s_cs s_ha s_ro s_be s_se s_co k0 n x3 (x4 + 1) u2.1 u2.2.1 u2.2.2.1 u2.2.2.2.1 u2.2.2.2.2) else (if u2.1 ≤ 0 then F_X7_numbersThat_43 y1 s_c b_l b_b b_n s_cs s_ha s_ro s_be s_se s_co k0 n x3 (x4 + 1) u2.1 u2.2.1 u2.2.2.1 u2.2.2.2.1 u2.2.2.2.2 else F_X7_numbersThat_43 y1 s_c b_l b_b b_n s_cs s_ha s_ro s_be s_se s_co k0 n (x3 ||| (1 <<< (x4 &&& 31))) (x4 + 1) u2.1 u2.2.1 u2.2.2.1 u2.2.2.2.1 u2.2.2.2.2)))) else F_X7_numbersThat_43 y1 s_c b_l b_b b_n s_cs s_ha s_ro s_be s_se s_co k0 n x3 (x4 + 1) q_z q_l q_b q_n q_a))
def f_X7_numbersThat (p1 : Int32) (c_sr : Int32) (s_c : Int32) (l_z : Int32) (q_z : Int32) (b_l : Int64) (b_b : Int64) (b_n : Int64) (l_l : Int64) (l_b : Int64) (l_n : Int64) (q_l : Int64) (q_b : Int64) (q_n : Int64) (s_cs : Nat → Int32) (s_ha : Nat → Int32) (s_ro : Nat → Int64) (s_be : Nat → Int64) (s_se : Nat → Int64) (s_co : Nat → Int64) (l_a : Nat → Int64) (q_a : Nat → Int64) : Int32 × Int32 × Int32 × Int32 × Int64 × Int64 × Int64 × Int64 × Int64 × Int64 × (Nat → Int64) × (Nat → Int64) := (if p1 < 0 then ((-1), c_sr, l_z, q_z, l_l, l_b, l_n, q_l, q_b, q_n, l_a, q_a) else (if p1 ≤ 1 then (bd (f_X7_searchLoops c_sr s_c l_z b_l b_b b_n l_l l_b l_n s_cs s_ha s_ro s_be s_se s_co l_a) (fun u1 => (if p1 = 0 then (if u1.2.1 = 1 then F_X7_numbersThat_43 p1 s_c b_l b_b b_n s_cs s_ha s_ro s_be s_se s_co (fun z9 z10 z11 z12 z13 z14 => (z9, u1.1, u1.2.1, z10, u1.2.2.1, u1.2.2.2.1, u1.2.2.2.2.1, z11, z12, z13, u1.2.2.2.2.2, z14)) (fu s_c (0 : Int32)) 0 0 q_z q_l q_b q_n q_a else (0, u1.1, u1.2.1, q_z, u1.2.2.1, u1.2.2.2.1, u1.2.2.2.2.1, q_l, q_b, q_n, u1.2.2.2.2.2, q_a)) else (if u1.2.1 = 0 then F_X7_numbersThat_43 p1 s_c b_l b_b b_n s_cs s_ha s_ro s_be s_se s_co (fun z3 z4 z5 z6 z7 z8 => (z3, u1.1, u1.2.1, z4, u1.2.2.1, u1.2.2.2.1, u1.2.2.2.2.1, z5, z6, z7, u1.2.2.2.2.2, z8)) (fu s_c (0 : Int32)) 0 0 q_z q_l q_b q_n q_a else (0, u1.1, u1.2.1, q_z, u1.2.2.1, u1.2.2.2.1, u1.2.2.2.2.1, q_l, q_b, q_n, u1.2.2.2.2.2, q_a))))) else ((-1), c_sr, l_z, q_z, l_l, l_b, l_n, q_l, q_b, q_n, l_a, q_a)))
set_option maxHeartbeats 4000000 in
set_option maxRecDepth 100000 in
theorem lp_X7_numbersThat_43 (l : Launch) (D : va_G) (cI cL cZ : ClassId) (ad : Nat → Nat) (c_sr t_n t_r t_w s_w s_h s_c s_p s_s p_nx p_sz r_k r_r r_p l_z : Int32) (t_t b_l b_b b_n r_t l_l l_b l_n : Int64) (t_le s_cs s_ps s_ha s_en pk ik : Nat → Int32) (s_ro s_me s_be s_se s_co pl pb pn il ib im l_a : Nat → Int64) {p : Program} {e : Env} {s : State} {m : MethodId} {args : Array Value} {below : List Frame} {meth : Method} {c : Code} {Q : State → Prop} (C : Cx p s m args meth c cX7_numbersThat 5 (some .int) W0 RX7 D cI cL cZ) (hAd : cInj ad) (y1 : Int32) (hc : 0 ≤ s_c.toInt) {β : Type} (k0 : Int32 → Int32 → Int64 → Int64 → Int64 → (Nat → Int64) → β) (r : β)
    (h0 : ∀ (e3 q_z : Int32) (q_l q_b q_n : Int64) (q_a : Nat → Int64) (H : Heap) (locs : List Loc) (ls : Array Slot), k0 e3 q_z q_l q_b q_n q_a = r → va_P D vwCl (cw ad cI cL cZ c_sr t_n t_r t_w s_w s_h s_c s_p s_s p_nx p_sz r_k r_r r_p l_z q_z t_t b_l b_b b_n r_t l_l l_b l_n q_l q_b q_n t_le s_cs s_ps s_ha s_en pk ik s_ro s_me s_be s_se s_co pl pb pn il ib im l_a q_a) H → va_S (cAd ad) s.heap H locs → lv_has ls 5 [(3, .int e3)] → W p l e (rmS 24 701) s m args below meth c H locs 0 0 Q (F0 m 145 ls [])) :
    ∀ (n : Nat) (x3 x4 q_z : Int32) (q_l q_b q_n : Int64) (q_a : Nat → Int64) (H : Heap) (locs : List Loc) (ls : Array Slot), fuU n s_c x4 → F_X7_numbersThat_43 y1 s_c b_l b_b b_n s_cs s_ha s_ro s_be s_se s_co k0 n x3 x4 q_z q_l q_b q_n q_a = r → va_P D vwCl (cw ad cI cL cZ c_sr t_n t_r t_w s_w s_h s_c s_p s_s p_nx p_sz r_k r_r r_p l_z q_z t_t b_l b_b b_n r_t l_l l_b l_n q_l q_b q_n t_le s_cs s_ps s_ha s_en pk ik s_ro s_me s_be s_se s_co pl pb pn il ib im l_a q_a) H → va_S (cAd ad) s.heap H locs → lv_has ls 5 [(0, .ref (ad 0)), (1, .int y1), (3, .int x3), (4, .int x4)] → W p l e (rmS 24 701) s m args below meth c H locs 0 0 Q (F0 m 43 ls []) := by
  obtain ⟨hx, hb, hml, hrt, hlocks, hown, hts, hk⟩ := C
  intro n
  induction n with
  | zero =>
    intro x3 x4 q_z q_l q_b q_n q_a H locs ls hf
    exact absurd hf.1 (Nat.lt_irrefl 0)
  | succ n ih =>
    intro x3 x4 q_z q_l q_b q_n q_a H locs ls hf hr hP hS hl
    rw [F_X7_numbersThat_43] at hr
    refine lv_iload hx hb dX7_numbersThat_43 (lv_at hl 3 rfl) ?_
    refine lv_aload_n hx hb dX7_numbersThat_45 rfl (lv_at hl 0 rfl) ?_
    refine va_get (D := D) (ci := 7) (v := .ref (ad 3)) (C := RX7) (T := TX7) (N := 9) hx hb hts u_X7 hown hk.1 hP 0 rfl rfl 1 (by decide) (hts _ q2_78) (fun _ h9 => h9) rfl dX7_numbersThat_46 ?_
    refine va_get (D := D) (ci := 4) (v := .int s_c) (C := RX4) (T := TX4) (N := 14) hx hb hts u_X4 hown hk.1 hP 3 rfl rfl 2 (by decide) (hts _ q1_63) (fun _ h9 => h9) rfl dX7_numbersThat_49 ?_
    refine lv_icmp_ge (tgt := 145) hx hb dX7_numbersThat_52 (by decide) (fun c52 => ?_) (fun c52 => ?_)
    · have hr := (if_pos c52).symm.trans hr
      exact h0 x3 q_z q_l q_b q_n q_a _ _ _ hr hP hS (lv_sub hl [2] rfl)
    · have hr := (if_neg c52).symm.trans hr
      refine lv_aload_n hx hb dX7_numbersThat_55 rfl (lv_at hl 0 rfl) ?_
      refine va_get (D := D) (ci := 7) (v := .ref (ad 13)) (C := RX7) (T := TX7) (N := 9) hx hb hts u_X7 hown hk.1 hP 0 rfl rfl 2 (by decide) (hts _ q2_79) (fun _ h9 => h9) rfl dX7_numbersThat_56 ?_
      refine lv_iload hx hb dX7_numbersThat_59 (lv_at hl 3 rfl) ?_
      refine go_i (ru_V (n := 1) ⟨hx, hb, hml, hown, hts⟩ hk hP (c_X0_numberOf l D cI cL cZ ad c_sr t_n t_r t_w s_w s_h s_c s_p s_s p_nx p_sz r_k r_r r_p l_z q_z t_t b_l b_b b_n r_t l_l l_b l_n q_l q_b q_n t_le s_cs s_ps s_ha s_en pk ik s_ro s_me s_be s_se s_co pl pb pn il ib im l_a q_a hAd x4 _ rfl) (cwV 1 hts (gV q2_163 q2_164 q2_165 q1_4 q2_166) rfl rfl rfl hd_X0_numberOf ⟨Nat.le_of_ble_eq_true rfl, Nat.le_of_ble_eq_true rfl⟩) (va_recv hk.1 hP (ci := 0) (q0 := 13) rfl rfl) rfl hl.1 rfl (Nat.le_of_ble_eq_true rfl) dX7_numbersThat_61 ⟨Nat.zero_le _, Nat.zero_le _⟩) hS (fun _ h => h) (fun H locs hP hS => ?_)
      have hP : va_P D vwCl (cw ad cI cL cZ c_sr t_n t_r t_w s_w s_h s_c s_p s_s p_nx p_sz r_k r_r r_p l_z q_z t_t b_l b_b b_n r_t l_l l_b l_n q_l q_b q_n t_le s_cs s_ps s_ha s_en pk ik s_ro s_me s_be s_se s_co pl pb pn il ib im l_a q_a) H := hP
      refine lv_if_ge (tgt := 70) hx hb dX7_numbersThat_64 (by decide) (fun c64 => ?_) (fun c64 => ?_)
      · have hr := (if_pos c64).symm.trans hr
        refine lv_aload_n hx hb dX7_numbersThat_70 rfl (lv_at hl 0 rfl) ?_
        refine va_get (D := D) (ci := 7) (v := .ref (ad 28)) (C := RX7) (T := TX7) (N := 9) hx hb hts u_X7 hown hk.1 hP 0 rfl rfl 7 (by decide) (hts _ q2_84) (fun _ h9 => h9) rfl dX7_numbersThat_71 ?_
        refine lv_aload_n hx hb dX7_numbersThat_74 rfl (lv_at hl 0 rfl) ?_
        refine va_get (D := D) (ci := 7) (v := .ref (ad 13)) (C := RX7) (T := TX7) (N := 9) hx hb hts u_X7 hown hk.1 hP 0 rfl rfl 2 (by decide) (hts _ q2_79) (fun _ h9 => h9) rfl dX7_numbersThat_75 ?_
        refine va_get (D := D) (ci := 0) (v := .long b_l) (C := RX0) (T := TX0) (N := 3) hx hb hts u_X0 hown hk.1 hP 13 rfl rfl 0 (by decide) (hts _ q1_117) (fun _ h9 => h9) rfl dX7_numbersThat_78 ?_
        refine lv_aload_n hx hb dX7_numbersThat_81 rfl (lv_at hl 0 rfl) ?_
        refine va_get (D := D) (ci := 7) (v := .ref (ad 13)) (C := RX7) (T := TX7) (N := 9) hx hb hts u_X7 hown hk.1 hP 0 rfl rfl 2 (by decide) (hts _ q2_79) (fun _ h9 => h9) rfl dX7_numbersThat_82 ?_
        refine va_get (D := D) (ci := 0) (v := .long b_b) (C := RX0) (T := TX0) (N := 3) hx hb hts u_X0 hown hk.1 hP 13 rfl rfl 1 (by decide) (hts _ q1_121) (fun _ h9 => h9) rfl dX7_numbersThat_85 ?_
        refine lv_aload_n hx hb dX7_numbersThat_88 rfl (lv_at hl 0 rfl) ?_
        refine va_get (D := D) (ci := 7) (v := .ref (ad 13)) (C := RX7) (T := TX7) (N := 9) hx hb hts u_X7 hown hk.1 hP 0 rfl rfl 2 (by decide) (hts _ q2_79) (fun _ h9 => h9) rfl dX7_numbersThat_89 ?_
        refine va_get (D := D) (ci := 0) (v := .long b_n) (C := RX0) (T := TX0) (N := 3) hx hb hts u_X0 hown hk.1 hP 13 rfl rfl 2 (by decide) (hts _ q1_124) (fun _ h9 => h9) rfl dX7_numbersThat_92 ?_
        refine lv_iload hx hb dX7_numbersThat_95 (lv_at hl 3 rfl) ?_
        refine lv_iconst (v := (-1)) hx hb dX7_numbersThat_97 (by decide) ?_
        refine go_l (ru_S (n := 3) ⟨hx, hb, hml, hown, hts⟩ hk hP (c_X0_withNumber l D cI cL cZ (cAd ad) (cw ad cI cL cZ c_sr t_n t_r t_w s_w s_h s_c s_p s_s p_nx p_sz r_k r_r r_p l_z q_z t_t b_l b_b b_n r_t l_l l_b l_n q_l q_b q_n t_le s_cs s_ps s_ha s_en pk ik s_ro s_me s_be s_se s_co pl pb pn il ib im l_a q_a) b_n x4 ((-1)) _ rfl) (va_cwS 3 hts (gS q2_223 q2_138 q1_4 q2_139) rfl rfl rfl hd_X0_withNumber ⟨Nat.le_of_ble_eq_true rfl, Nat.le_of_ble_eq_true rfl⟩) rfl hl.1 rfl (Nat.le_of_ble_eq_true rfl) dX7_numbersThat_98 ⟨Nat.zero_le _, Nat.zero_le _⟩) hS (fun _ h => h) (fun H locs hP hS => ?_)
        have hP : va_P D vwCl (cw ad cI cL cZ c_sr t_n t_r t_w s_w s_h s_c s_p s_s p_nx p_sz r_k r_r r_p l_z q_z t_t b_l b_b b_n r_t l_l l_b l_n q_l q_b q_n t_le s_cs s_ps s_ha s_en pk ik s_ro s_me s_be s_se s_co pl pb pn il ib im l_a q_a) H := hP
        obtain ⟨u2, hu2⟩ : ∃ z, f_X1_search_b b_l b_b (f_X0_withNumber b_n x4 ((-1))) s_c s_cs s_ha s_ro s_be s_se s_co q_a = z := ⟨_, rfl⟩
        have hr := (bd_eq hu2).symm.trans hr
        refine go_v (ru_V (n := 3) ⟨hx, hb, hml, hown, hts⟩ hk hP (c_X1_search_b l D cI cL cZ ad c_sr t_n t_r t_w s_w s_h s_c s_p s_s p_nx p_sz r_k r_r r_p l_z q_z t_t b_l b_b b_n r_t l_l l_b l_n q_l q_b q_n t_le s_cs s_ps s_ha s_en pk ik s_ro s_me s_be s_se s_co pl pb pn il ib im l_a q_a hAd b_l b_b (f_X0_withNumber b_n x4 ((-1))) _ hu2 hc) (cwV 3 hts (gV q3_113 q3_114 q3_115 q1_9 q3_116) rfl rfl rfl hd_X1_search ⟨Nat.le_of_ble_eq_true rfl, Nat.le_of_ble_eq_true rfl⟩) (va_recv hk.1 hP (ci := 1) (q0 := 28) rfl rfl) rfl hl.1 rfl (Nat.le_of_ble_eq_true rfl) dX7_numbersThat_101 ⟨Nat.zero_le _, Nat.zero_le _⟩) hS (fun _ h => h) (fun H locs hP hS => ?_)
        have hP : va_P D vwCl (cw ad cI cL cZ c_sr t_n t_r t_w s_w s_h s_c s_p s_s p_nx p_sz r_k r_r r_p l_z u2.1 t_t b_l b_b b_n r_t l_l l_b l_n u2.2.1 u2.2.2.1 u2.2.2.2.1 t_le s_cs s_ps s_ha s_en pk ik s_ro s_me s_be s_se s_co pl pb pn il ib im l_a u2.2.2.2.2) H := hP
        refine lv_iload_n hx hb dX7_numbersThat_104 rfl (lv_at hl 1 rfl) ?_
        refine lv_if_ne (tgt := 122) hx hb dX7_numbersThat_105 (by decide) (fun c105 => ?_) (fun c105 => ?_)
        · have hr := (if_neg c105).symm.trans hr
          refine lv_aload_n hx hb dX7_numbersThat_122 rfl (lv_at hl 0 rfl) ?_
          refine va_get (D := D) (ci := 7) (v := .ref (ad 28)) (C := RX7) (T := TX7) (N := 9) hx hb hts u_X7 hown hk.1 hP 0 rfl rfl 7 (by decide) (hts _ q2_84) (fun _ h9 => h9) rfl dX7_numbersThat_123 ?_
          refine va_get (D := D) (ci := 1) (v := .int u2.1) (C := RX1) (T := TX1) (N := 6) hx hb hts u_X1 hown hk.1 hP 28 rfl rfl 5 (by decide) (hts _ q1_215) (fun _ h9 => h9) rfl dX7_numbersThat_126 ?_
          refine lv_if_le (tgt := 139) hx hb dX7_numbersThat_129 (by decide) (fun c129 => ?_) (fun c129 => ?_)
          · have hr := (if_pos c129).symm.trans hr
            refine lv_iinc (v := x4 + 1) (lv' := [(4, .int (x4 + 1)), (0, .ref (ad 0)), (1, .int y1), (3, .int x3)]) hx hb dX7_numbersThat_139 hl (k := 3) rfl rfl (by decide) rfl (fun ls hl => ?_)
            refine lv_goto (tgt := 43) hx hb dX7_numbersThat_142 (by decide) ?_
            exact ih x3 (x4 + 1) u2.1 u2.2.1 u2.2.2.1 u2.2.2.2.1 u2.2.2.2.2 _ _ _ (fuU_s hf c52) hr hP hS (lv_sub hl [1, 2, 3, 0] rfl)
          · have hr := (if_neg c129).symm.trans hr
            refine lv_iload_n hx hb dX7_numbersThat_132 rfl (lv_at hl 2 rfl) ?_
            refine lv_iconst (v := 1) hx hb dX7_numbersThat_133 (by decide) ?_
            refine lv_iload hx hb dX7_numbersThat_134 (lv_at hl 3 rfl) ?_
            refine lv_ishl hx hb dX7_numbersThat_136 ?_
            refine lv_ior hx hb dX7_numbersThat_137 ?_
            refine lv_istore_n (lv' := [(3, .int (x3 ||| (1 <<< (x4 &&& 31)))), (0, .ref (ad 0)), (1, .int y1), (4, .int x4)]) hx hb dX7_numbersThat_138 rfl hl (by decide) rfl (fun ls hl => ?_)
            refine lv_iinc (v := x4 + 1) (lv' := [(4, .int (x4 + 1)), (3, .int (x3 ||| (1 <<< (x4 &&& 31)))), (0, .ref (ad 0)), (1, .int y1)]) hx hb dX7_numbersThat_139 hl (k := 3) rfl rfl (by decide) rfl (fun ls hl => ?_)
            refine lv_goto (tgt := 43) hx hb dX7_numbersThat_142 (by decide) ?_
            exact ih (x3 ||| (1 <<< (x4 &&& 31))) (x4 + 1) u2.1 u2.2.1 u2.2.2.1 u2.2.2.2.1 u2.2.2.2.2 _ _ _ (fuU_s hf c52) hr hP hS (lv_sub hl [2, 3, 1, 0] rfl)
        · have hr := (if_pos c105).symm.trans hr
          refine lv_aload_n hx hb dX7_numbersThat_108 rfl (lv_at hl 0 rfl) ?_
          refine va_get (D := D) (ci := 7) (v := .ref (ad 28)) (C := RX7) (T := TX7) (N := 9) hx hb hts u_X7 hown hk.1 hP 0 rfl rfl 7 (by decide) (hts _ q2_84) (fun _ h9 => h9) rfl dX7_numbersThat_109 ?_
          refine va_get (D := D) (ci := 1) (v := .int u2.1) (C := RX1) (T := TX1) (N := 6) hx hb hts u_X1 hown hk.1 hP 28 rfl rfl 5 (by decide) (hts _ q1_215) (fun _ h9 => h9) rfl dX7_numbersThat_112 ?_
          refine lv_iconst (v := 1) hx hb dX7_numbersThat_115 (by decide) ?_
          refine lv_icmp_ne (tgt := 139) hx hb dX7_numbersThat_116 (by decide) (fun c116 => ?_) (fun c116 => ?_)
          · have hr := (if_neg c116).symm.trans hr
            refine lv_iinc (v := x4 + 1) (lv' := [(4, .int (x4 + 1)), (0, .ref (ad 0)), (1, .int y1), (3, .int x3)]) hx hb dX7_numbersThat_139 hl (k := 3) rfl rfl (by decide) rfl (fun ls hl => ?_)
            refine lv_goto (tgt := 43) hx hb dX7_numbersThat_142 (by decide) ?_
            exact ih x3 (x4 + 1) u2.1 u2.2.1 u2.2.2.1 u2.2.2.2.1 u2.2.2.2.2 _ _ _ (fuU_s hf c52) hr hP hS (lv_sub hl [1, 2, 3, 0] rfl)
          · have hr := (if_pos c116).symm.trans hr
            refine lv_goto (tgt := 132) hx hb dX7_numbersThat_119 (by decide) ?_
            refine lv_iload_n hx hb dX7_numbersThat_132 rfl (lv_at hl 2 rfl) ?_
            refine lv_iconst (v := 1) hx hb dX7_numbersThat_133 (by decide) ?_
            refine lv_iload hx hb dX7_numbersThat_134 (lv_at hl 3 rfl) ?_
            refine lv_ishl hx hb dX7_numbersThat_136 ?_
            refine lv_ior hx hb dX7_numbersThat_137 ?_
            refine lv_istore_n (lv' := [(3, .int (x3 ||| (1 <<< (x4 &&& 31)))), (0, .ref (ad 0)), (1, .int y1), (4, .int x4)]) hx hb dX7_numbersThat_138 rfl hl (by decide) rfl (fun ls hl => ?_)
            refine lv_iinc (v := x4 + 1) (lv' := [(4, .int (x4 + 1)), (3, .int (x3 ||| (1 <<< (x4 &&& 31)))), (0, .ref (ad 0)), (1, .int y1)]) hx hb dX7_numbersThat_139 hl (k := 3) rfl rfl (by decide) rfl (fun ls hl => ?_)
            refine lv_goto (tgt := 43) hx hb dX7_numbersThat_142 (by decide) ?_
            exact ih (x3 ||| (1 <<< (x4 &&& 31))) (x4 + 1) u2.1 u2.2.1 u2.2.2.1 u2.2.2.2.1 u2.2.2.2.2 _ _ _ (fuU_s hf c52) hr hP hS (lv_sub hl [2, 3, 1, 0] rfl)
      · have hr := (if_neg c64).symm.trans hr
        refine lv_goto (tgt := 139) hx hb dX7_numbersThat_67 (by decide) ?_
        refine lv_iinc (v := x4 + 1) (lv' := [(4, .int (x4 + 1)), (0, .ref (ad 0)), (1, .int y1), (3, .int x3)]) hx hb dX7_numbersThat_139 hl (k := 3) rfl rfl (by decide) rfl (fun ls hl => ?_)
        refine lv_goto (tgt := 43) hx hb dX7_numbersThat_142 (by decide) ?_
        exact ih x3 (x4 + 1) q_z q_l q_b q_n q_a _ _ _ (fuU_s hf c52) hr hP hS (lv_sub hl [1, 2, 3, 0] rfl)
set_option maxHeartbeats 4000000 in
set_option maxRecDepth 100000 in
theorem c_X7_numbersThat (l : Launch) (D : va_G) (cI cL cZ : ClassId) (ad : Nat → Nat) (c_sr t_n t_r t_w s_w s_h s_c s_p s_s p_nx p_sz r_k r_r r_p l_z q_z : Int32) (t_t b_l b_b b_n r_t l_l l_b l_n q_l q_b q_n : Int64) (t_le s_cs s_ps s_ha s_en pk ik : Nat → Int32) (s_ro s_me s_be s_se s_co pl pb pn il ib im l_a q_a : Nat → Int64) (hAd : cInj ad) (p1 : Int32) (r : Int32 × Int32 × Int32 × Int32 × Int64 × Int64 × Int64 × Int64 × Int64 × Int64 × (Nat → Int64) × (Nat → Int64)) (hr : f_X7_numbersThat p1 c_sr s_c l_z q_z b_l b_b b_n l_l l_b l_n q_l q_b q_n s_cs s_ha s_ro s_be s_se s_co l_a q_a = r) (hc : 0 ≤ s_c.toInt) : MI l yX7_numbersThat (Cond.code yX7_numbersThat cX7_numbersThat 5 (some .int) :: W0) 24 701 D cI cL cZ (cAd ad) [.ref (ad 0), .int p1] (cw ad cI cL cZ c_sr t_n t_r t_w s_w s_h s_c s_p s_s p_nx p_sz r_k r_r r_p l_z q_z t_t b_l b_b b_n r_t l_l l_b l_n q_l q_b q_n t_le s_cs s_ps s_ha s_en pk ik s_ro s_me s_be s_se s_co pl pb pn il ib im l_a q_a) r.1 (cw ad cI cL cZ r.2.1 t_n t_r t_w s_w s_h s_c s_p s_s p_nx p_sz r_k r_r r_p r.2.2.1 r.2.2.2.1 t_t b_l b_b b_n r_t r.2.2.2.2.1 r.2.2.2.2.2.1 r.2.2.2.2.2.2.1 r.2.2.2.2.2.2.2.1 r.2.2.2.2.2.2.2.2.1 r.2.2.2.2.2.2.2.2.2.1 t_le s_cs s_ps s_ha s_en pk ik s_ro s_me s_be s_se s_co pl pb pn il ib im r.2.2.2.2.2.2.2.2.2.2.1 r.2.2.2.2.2.2.2.2.2.2.2) := by
  refine mk_start (cc := cX7_numbersThat) (maxL := 5) (ret := (some .int)) (by decide) rfl (Nat.le_of_ble_eq_true rfl) ?_
  intro p e s m below meth c ls C hP hS hl
  obtain ⟨hx, hb, hml, hrt, hlocks, hown, hts, hk⟩ := C
  have hown : s.vm.findClass RX7 = some m.cls := hown
  have hl : lv_has ls 5 [(0, .ref (ad 0)), (1, .int p1)] := hl
  rw [f_X7_numbersThat] at hr
  refine lv_iload_n hx hb dX7_numbersThat_0 rfl (lv_at hl 1 rfl) ?_
  refine lv_if_lt (tgt := 9) hx hb dX7_numbersThat_1 (by decide) (fun c1 => ?_) (fun c1 => ?_)
  · have hr := (if_pos c1).symm.trans hr
    refine lv_iconst (v := (-1)) hx hb dX7_numbersThat_9 (by decide) ?_
    subst hr
    exact ret_i hx hb hrt hlocks hP hS dX7_numbersThat_10
  · have hr := (if_neg c1).symm.trans hr
    refine lv_iload_n hx hb dX7_numbersThat_4 rfl (lv_at hl 1 rfl) ?_
    refine lv_iconst (v := 1) hx hb dX7_numbersThat_5 (by decide) ?_
    refine lv_icmp_le (tgt := 11) hx hb dX7_numbersThat_6 (by decide) (fun c6 => ?_) (fun c6 => ?_)
    · have hr := (if_pos c6).symm.trans hr
      refine lv_aload_n hx hb dX7_numbersThat_11 rfl (lv_at hl 0 rfl) ?_
      obtain ⟨u1, hu1⟩ : ∃ z, f_X7_searchLoops c_sr s_c l_z b_l b_b b_n l_l l_b l_n s_cs s_ha s_ro s_be s_se s_co l_a = z := ⟨_, rfl⟩
      have hr := (bd_eq hu1).symm.trans hr
      refine go_v (ru_V (n := 0) ⟨hx, hb, hml, hown, hts⟩ hk hP (c_X7_searchLoops l D cI cL cZ ad c_sr t_n t_r t_w s_w s_h s_c s_p s_s p_nx p_sz r_k r_r r_p l_z q_z t_t b_l b_b b_n r_t l_l l_b l_n q_l q_b q_n t_le s_cs s_ps s_ha s_en pk ik s_ro s_me s_be s_se s_co pl pb pn il ib im l_a q_a hAd _ hu1 hc) (cwV 0 hts (gV q3_109 q3_111 qs2_9 q1_1 q3_112) rfl rfl rfl hd_X7_searchLoops ⟨Nat.le_of_ble_eq_true rfl, Nat.le_of_ble_eq_true rfl⟩) (va_recv hk.1 hP (ci := 7) (q0 := 0) rfl rfl) rfl hl.1 rfl (Nat.le_of_ble_eq_true rfl) dX7_numbersThat_12 ⟨Nat.zero_le _, Nat.zero_le _⟩) hS (fun _ h => h) (fun H locs hP hS => ?_)
      have hP : va_P D vwCl (cw ad cI cL cZ u1.1 t_n t_r t_w s_w s_h s_c s_p s_s p_nx p_sz r_k r_r r_p u1.2.1 q_z t_t b_l b_b b_n r_t u1.2.2.1 u1.2.2.2.1 u1.2.2.2.2.1 q_l q_b q_n t_le s_cs s_ps s_ha s_en pk ik s_ro s_me s_be s_se s_co pl pb pn il ib im u1.2.2.2.2.2 q_a) H := hP
      refine lv_iload_n hx hb dX7_numbersThat_15 rfl (lv_at hl 1 rfl) ?_
      refine lv_if_ne (tgt := 23) hx hb dX7_numbersThat_16 (by decide) (fun c16 => ?_) (fun c16 => ?_)
      · have hr := (if_neg c16).symm.trans hr
        refine lv_iconst (v := 0) hx hb dX7_numbersThat_23 (by decide) ?_
        refine lv_istore_n (lv' := [(2, .int 0), (0, .ref (ad 0)), (1, .int p1)]) hx hb dX7_numbersThat_24 rfl hl (by decide) rfl (fun ls hl => ?_)
        refine lv_aload_n hx hb dX7_numbersThat_25 rfl (lv_at hl 1 rfl) ?_
        refine va_get (D := D) (ci := 7) (v := .ref (ad 26)) (C := RX7) (T := TX7) (N := 9) hx hb hts u_X7 hown hk.1 hP 0 rfl rfl 6 (by decide) (hts _ q2_83) (fun _ h9 => h9) rfl dX7_numbersThat_26 ?_
        refine va_get (D := D) (ci := 1) (v := .int u1.2.1) (C := RX1) (T := TX1) (N := 6) hx hb hts u_X1 hown hk.1 hP 26 rfl rfl 5 (by decide) (hts _ q1_215) (fun _ h9 => h9) rfl dX7_numbersThat_29 ?_
        refine lv_iload_n hx hb dX7_numbersThat_32 rfl (lv_at hl 0 rfl) ?_
        refine lv_icmp_eq (tgt := 38) hx hb dX7_numbersThat_33 (by decide) (fun c33 => ?_) (fun c33 => ?_)
        · have hr := (if_pos c33).symm.trans hr
          refine lv_iconst (v := 0) hx hb dX7_numbersThat_38 (by decide) ?_
          refine lv_istore_n (lv' := [(3, .int 0), (2, .int 0), (0, .ref (ad 0)), (1, .int p1)]) hx hb dX7_numbersThat_39 rfl hl (by decide) rfl (fun ls hl => ?_)
          refine lv_iconst (v := 0) hx hb dX7_numbersThat_40 (by decide) ?_
          refine lv_istore (lv' := [(4, .int 0), (3, .int 0), (2, .int 0), (0, .ref (ad 0)), (1, .int p1)]) hx hb dX7_numbersThat_41 hl (by decide) rfl (fun ls hl => ?_)
          refine lp_X7_numbersThat_43 l D cI cL cZ ad u1.1 t_n t_r t_w s_w s_h s_c s_p s_s p_nx p_sz r_k r_r r_p u1.2.1 t_t b_l b_b b_n r_t u1.2.2.1 u1.2.2.2.1 u1.2.2.2.2.1 t_le s_cs s_ps s_ha s_en pk ik s_ro s_me s_be s_se s_co pl pb pn il ib im u1.2.2.2.2.2 ⟨hx, hb, hml, hrt, hlocks, hown, hts, hk⟩ hAd p1 hc _ _ (fun z3 z4 z5 z6 z7 z8 H locs ls hr hP hS hl => ?_) (fu s_c (0 : Int32)) 0 0 q_z q_l q_b q_n q_a _ _ _ (fuU_0 (by decide)) hr hP hS (lv_sub hl [3, 4, 1, 0] rfl)
          refine lv_iload_n hx hb dX7_numbersThat_145 rfl (lv_at hl 0 rfl) ?_
          subst hr
          exact ret_i hx hb hrt hlocks hP hS dX7_numbersThat_146
        · have hr := (if_neg c33).symm.trans hr
          refine lv_iconst (v := 0) hx hb dX7_numbersThat_36 (by decide) ?_
          subst hr
          exact ret_i hx hb hrt hlocks hP hS dX7_numbersThat_37
      · have hr := (if_pos c16).symm.trans hr
        refine lv_iconst (v := 1) hx hb dX7_numbersThat_19 (by decide) ?_
        refine lv_goto (tgt := 24) hx hb dX7_numbersThat_20 (by decide) ?_
        refine lv_istore_n (lv' := [(2, .int 1), (0, .ref (ad 0)), (1, .int p1)]) hx hb dX7_numbersThat_24 rfl hl (by decide) rfl (fun ls hl => ?_)
        refine lv_aload_n hx hb dX7_numbersThat_25 rfl (lv_at hl 1 rfl) ?_
        refine va_get (D := D) (ci := 7) (v := .ref (ad 26)) (C := RX7) (T := TX7) (N := 9) hx hb hts u_X7 hown hk.1 hP 0 rfl rfl 6 (by decide) (hts _ q2_83) (fun _ h9 => h9) rfl dX7_numbersThat_26 ?_
        refine va_get (D := D) (ci := 1) (v := .int u1.2.1) (C := RX1) (T := TX1) (N := 6) hx hb hts u_X1 hown hk.1 hP 26 rfl rfl 5 (by decide) (hts _ q1_215) (fun _ h9 => h9) rfl dX7_numbersThat_29 ?_
        refine lv_iload_n hx hb dX7_numbersThat_32 rfl (lv_at hl 0 rfl) ?_
        refine lv_icmp_eq (tgt := 38) hx hb dX7_numbersThat_33 (by decide) (fun c33 => ?_) (fun c33 => ?_)
        · have hr := (if_pos c33).symm.trans hr
          refine lv_iconst (v := 0) hx hb dX7_numbersThat_38 (by decide) ?_
          refine lv_istore_n (lv' := [(3, .int 0), (2, .int 1), (0, .ref (ad 0)), (1, .int p1)]) hx hb dX7_numbersThat_39 rfl hl (by decide) rfl (fun ls hl => ?_)
          refine lv_iconst (v := 0) hx hb dX7_numbersThat_40 (by decide) ?_
          refine lv_istore (lv' := [(4, .int 0), (3, .int 0), (2, .int 1), (0, .ref (ad 0)), (1, .int p1)]) hx hb dX7_numbersThat_41 hl (by decide) rfl (fun ls hl => ?_)
          refine lp_X7_numbersThat_43 l D cI cL cZ ad u1.1 t_n t_r t_w s_w s_h s_c s_p s_s p_nx p_sz r_k r_r r_p u1.2.1 t_t b_l b_b b_n r_t u1.2.2.1 u1.2.2.2.1 u1.2.2.2.2.1 t_le s_cs s_ps s_ha s_en pk ik s_ro s_me s_be s_se s_co pl pb pn il ib im u1.2.2.2.2.2 ⟨hx, hb, hml, hrt, hlocks, hown, hts, hk⟩ hAd p1 hc _ _ (fun z9 z10 z11 z12 z13 z14 H locs ls hr hP hS hl => ?_) (fu s_c (0 : Int32)) 0 0 q_z q_l q_b q_n q_a _ _ _ (fuU_0 (by decide)) hr hP hS (lv_sub hl [3, 4, 1, 0] rfl)
          refine lv_iload_n hx hb dX7_numbersThat_145 rfl (lv_at hl 0 rfl) ?_
          subst hr
          exact ret_i hx hb hrt hlocks hP hS dX7_numbersThat_146
        · have hr := (if_neg c33).symm.trans hr
          refine lv_iconst (v := 0) hx hb dX7_numbersThat_36 (by decide) ?_
          subst hr
          exact ret_i hx hb hrt hlocks hP hS dX7_numbersThat_37
    · have hr := (if_neg c6).symm.trans hr
      refine lv_iconst (v := (-1)) hx hb dX7_numbersThat_9 (by decide) ?_
      subst hr
      exact ret_i hx hb hrt hlocks hP hS dX7_numbersThat_10
theorem hd_X7_tryNext : yX7_tryNext.cls = RX7 ∧ yX7_tryNext.cls ≠ "java/lang/invoke/MethodHandle" ∧ yX7_tryNext.cls ≠ "java/lang/invoke/VarHandle" ∧ (parseMethodDescriptor yX7_tryNext.desc).map (fun d => d.parameters.length) = some 0 := by decide +kernel
def F_X7_tryNext_11 (s_s : Int32) (l_z : Int32) (b_l : Int64) (b_b : Int64) (l_a : Nat → Int64) {β : Type} (k0 : Int32 → β) : Nat → Int32 → Int32 → Int32 → β
  | 0, x1, x2, x3 => k0 x1
  | n + 1, x1, x2, x3 => (if s_s ≤ x3 then k0 x1 else (if (f_X0_stateOf x3 b_l b_b) = 0 then (bd (minI (f_X1_howManyHave x3 l_z l_a) (l_z - (f_X1_howManyHave x3 l_z l_a))) (fun v2 => (if v2 ≤ x2 then F_X7_tryNext_11 s_s l_z b_l b_b l_a k0 n x1 x2 (x3 + 1) else F_X7_tryNext_11 s_s l_z b_l b_b l_a k0 n x3 v2 (x3 + 1)))) else F_X7_tryNext_11 s_s l_z b_l b_b l_a k0 n x1 x2 (x3 + 1)))
def f_X7_tryNext (c_sr : Int32) (s_c : Int32) (s_s : Int32) (l_z : Int32) (b_l : Int64) (b_b : Int64) (b_n : Int64) (l_l : Int64) (l_b : Int64) (l_n : Int64) (s_cs : Nat → Int32) (s_ha : Nat → Int32) (s_ro : Nat → Int64) (s_be : Nat → Int64) (s_se : Nat → Int64) (s_co : Nat → Int64) (l_a : Nat → Int64) : Int32 × Int32 × Int32 × Int64 × Int64 × Int64 × (Nat → Int64) := (bd (f_X7_searchLoops c_sr s_c l_z b_l b_b b_n l_l l_b l_n s_cs s_ha s_ro s_be s_se s_co l_a) (fun u1 => F_X7_tryNext_11 s_s u1.2.1 b_l b_b u1.2.2.2.2.2 (fun z3 => (z3, u1.1, u1.2.1, u1.2.2.1, u1.2.2.2.1, u1.2.2.2.2.1, u1.2.2.2.2.2)) (fu s_s (0 : Int32)) ((-9)) 0 0))
set_option maxHeartbeats 4000000 in
set_option maxRecDepth 100000 in
theorem lp_X7_tryNext_11 (l : Launch) (D : va_G) (cI cL cZ : ClassId) (ad : Nat → Nat) (c_sr t_n t_r t_w s_w s_h s_c s_p s_s p_nx p_sz r_k r_r r_p l_z q_z : Int32) (t_t b_l b_b b_n r_t l_l l_b l_n q_l q_b q_n : Int64) (t_le s_cs s_ps s_ha s_en pk ik : Nat → Int32) (s_ro s_me s_be s_se s_co pl pb pn il ib im l_a q_a : Nat → Int64) {p : Program} {e : Env} {s : State} {m : MethodId} {args : Array Value} {below : List Frame} {meth : Method} {c : Code} {Q : State → Prop} (C : Cx p s m args meth c cX7_tryNext 6 (some .int) W0 RX7 D cI cL cZ) (hAd : cInj ad) {β : Type} (k0 : Int32 → β) (r : β)
    (h0 : ∀ (e1 : Int32) (H : Heap) (locs : List Loc) (ls : Array Slot), k0 e1 = r → va_P D vwCl (cw ad cI cL cZ c_sr t_n t_r t_w s_w s_h s_c s_p s_s p_nx p_sz r_k r_r r_p l_z q_z t_t b_l b_b b_n r_t l_l l_b l_n q_l q_b q_n t_le s_cs s_ps s_ha s_en pk ik s_ro s_me s_be s_se s_co pl pb pn il ib im l_a q_a) H → va_S (cAd ad) s.heap H locs → lv_has ls 6 [(1, .int e1)] → W p l e (rmS 24 701) s m args below meth c H locs 0 0 Q (F0 m 80 ls [])) :
    ∀ (n : Nat) (x1 x2 x3 : Int32) (H : Heap) (locs : List Loc) (ls : Array Slot), fuU n s_s x3 → F_X7_tryNext_11 s_s l_z b_l b_b l_a k0 n x1 x2 x3 = r → va_P D vwCl (cw ad cI cL cZ c_sr t_n t_r t_w s_w s_h s_c s_p s_s p_nx p_sz r_k r_r r_p l_z q_z t_t b_l b_b b_n r_t l_l l_b l_n q_l q_b q_n t_le s_cs s_ps s_ha s_en pk ik s_ro s_me s_be s_se s_co pl pb pn il ib im l_a q_a) H → va_S (cAd ad) s.heap H locs → lv_has ls 6 [(0, .ref (ad 0)), (1, .int x1), (2, .int x2), (3, .int x3)] → W p l e (rmS 24 701) s m args below meth c H locs 0 0 Q (F0 m 11 ls []) := by
  obtain ⟨hx, hb, hml, hrt, hlocks, hown, hts, hk⟩ := C
  intro n
  induction n with
  | zero =>
    intro x1 x2 x3 H locs ls hf
    exact absurd hf.1 (Nat.lt_irrefl 0)
  | succ n ih =>
    intro x1 x2 x3 H locs ls hf hr hP hS hl
    rw [F_X7_tryNext_11] at hr
    refine lv_iload_n hx hb dX7_tryNext_11 rfl (lv_at hl 3 rfl) ?_
    refine lv_aload_n hx hb dX7_tryNext_12 rfl (lv_at hl 0 rfl) ?_
    refine va_get (D := D) (ci := 7) (v := .ref (ad 3)) (C := RX7) (T := TX7) (N := 9) hx hb hts u_X7 hown hk.1 hP 0 rfl rfl 1 (by decide) (hts _ q2_78) (fun _ h9 => h9) rfl dX7_tryNext_13 ?_
    refine va_get (D := D) (ci := 4) (v := .int s_s) (C := RX4) (T := TX4) (N := 14) hx hb hts u_X4 hown hk.1 hP 3 rfl rfl 4 (by decide) (hts _ q1_68) (fun _ h9 => h9) rfl dX7_tryNext_16 ?_
    refine lv_icmp_ge (tgt := 80) hx hb dX7_tryNext_19 (by decide) (fun c19 => ?_) (fun c19 => ?_)
    · have hr := (if_pos c19).symm.trans hr
      exact h0 x1 _ _ _ hr hP hS (lv_sub hl [1] rfl)
    · have hr := (if_neg c19).symm.trans hr
      refine lv_aload_n hx hb dX7_tryNext_22 rfl (lv_at hl 0 rfl) ?_
      refine va_get (D := D) (ci := 7) (v := .ref (ad 13)) (C := RX7) (T := TX7) (N := 9) hx hb hts u_X7 hown hk.1 hP 0 rfl rfl 2 (by decide) (hts _ q2_79) (fun _ h9 => h9) rfl dX7_tryNext_23 ?_
      refine lv_iload_n hx hb dX7_tryNext_26 rfl (lv_at hl 3 rfl) ?_
      refine go_i (ru_V (n := 1) ⟨hx, hb, hml, hown, hts⟩ hk hP (c_X0_stateOf l D cI cL cZ ad c_sr t_n t_r t_w s_w s_h s_c s_p s_s p_nx p_sz r_k r_r r_p l_z q_z t_t b_l b_b b_n r_t l_l l_b l_n q_l q_b q_n t_le s_cs s_ps s_ha s_en pk ik s_ro s_me s_be s_se s_co pl pb pn il ib im l_a q_a hAd x3 _ rfl) (cwV 1 hts (gV q2_178 q2_179 q2_180 q1_4 q2_181) rfl rfl rfl hd_X0_stateOf ⟨Nat.le_of_ble_eq_true rfl, Nat.le_of_ble_eq_true rfl⟩) (va_recv hk.1 hP (ci := 0) (q0 := 13) rfl rfl) rfl hl.1 rfl (Nat.le_of_ble_eq_true rfl) dX7_tryNext_27 ⟨Nat.zero_le _, Nat.zero_le _⟩) hS (fun _ h => h) (fun H locs hP hS => ?_)
      have hP : va_P D vwCl (cw ad cI cL cZ c_sr t_n t_r t_w s_w s_h s_c s_p s_s p_nx p_sz r_k r_r r_p l_z q_z t_t b_l b_b b_n r_t l_l l_b l_n q_l q_b q_n t_le s_cs s_ps s_ha s_en pk ik s_ro s_me s_be s_se s_co pl pb pn il ib im l_a q_a) H := hP
      refine lv_if_eq (tgt := 36) hx hb dX7_tryNext_30 (by decide) (fun c30 => ?_) (fun c30 => ?_)
      · have hr := (if_pos c30).symm.trans hr
        refine lv_aload_n hx hb dX7_tryNext_36 rfl (lv_at hl 0 rfl) ?_
        refine va_get (D := D) (ci := 7) (v := .ref (ad 26)) (C := RX7) (T := TX7) (N := 9) hx hb hts u_X7 hown hk.1 hP 0 rfl rfl 6 (by decide) (hts _ q2_83) (fun _ h9 => h9) rfl dX7_tryNext_37 ?_
        refine lv_iload_n hx hb dX7_tryNext_40 rfl (lv_at hl 3 rfl) ?_
        refine go_i (ru_V (n := 1) ⟨hx, hb, hml, hown, hts⟩ hk hP (c_X1_howManyHave l D cI cL cZ ad c_sr t_n t_r t_w s_w s_h s_c s_p s_s p_nx p_sz r_k r_r r_p l_z q_z t_t b_l b_b b_n r_t l_l l_b l_n q_l q_b q_n t_le s_cs s_ps s_ha s_en pk ik s_ro s_me s_be s_se s_co pl pb pn il ib im l_a q_a hAd x3 _ rfl) (cwV 1 hts (gV q3_191 q3_192 q3_193 q1_9 q3_194) rfl rfl rfl hd_X1_howManyHave ⟨Nat.le_of_ble_eq_true rfl, Nat.le_of_ble_eq_true rfl⟩) (va_recv hk.1 hP (ci := 1) (q0 := 26) rfl rfl) rfl hl.1 rfl (Nat.le_of_ble_eq_true rfl) dX7_tryNext_41 ⟨Nat.zero_le _, Nat.zero_le _⟩) hS (fun _ h => h) (fun H locs hP hS => ?_)
        have hP : va_P D vwCl (cw ad cI cL cZ c_sr t_n t_r t_w s_w s_h s_c s_p s_s p_nx p_sz r_k r_r r_p l_z q_z t_t b_l b_b b_n r_t l_l l_b l_n q_l q_b q_n t_le s_cs s_ps s_ha s_en pk ik s_ro s_me s_be s_se s_co pl pb pn il ib im l_a q_a) H := hP
        refine lv_istore (lv' := [(4, .int (f_X1_howManyHave x3 l_z l_a)), (0, .ref (ad 0)), (1, .int x1), (2, .int x2), (3, .int x3)]) hx hb dX7_tryNext_44 hl (by decide) rfl (fun ls hl => ?_)
        refine lv_iload hx hb dX7_tryNext_46 (lv_at hl 0 rfl) ?_
        refine lv_aload_n hx hb dX7_tryNext_48 rfl (lv_at hl 1 rfl) ?_
        refine va_get (D := D) (ci := 7) (v := .ref (ad 26)) (C := RX7) (T := TX7) (N := 9) hx hb hts u_X7 hown hk.1 hP 0 rfl rfl 6 (by decide) (hts _ q2_83) (fun _ h9 => h9) rfl dX7_tryNext_49 ?_
        refine va_get (D := D) (ci := 1) (v := .int l_z) (C := RX1) (T := TX1) (N := 6) hx hb hts u_X1 hown hk.1 hP 26 rfl rfl 5 (by decide) (hts _ q1_215) (fun _ h9 => h9) rfl dX7_tryNext_52 ?_
        refine lv_iload hx hb dX7_tryNext_55 (lv_at hl 0 rfl) ?_
        refine lv_isub hx hb dX7_tryNext_57 ?_
        refine va_mmin hx hb (hml.trans hl.1.symm) hown (hts _ q3_147) (hts _ q2_63) (hts _ q1_7) (hts _ q2_64) (Nat.le_of_ble_eq_true rfl) (Nat.le_of_ble_eq_true rfl) (Nat.zero_le _) (Nat.zero_le _) dX7_tryNext_58 ?_
        refine lv_topi (fun v2 ev2 => ?_)
        have hr := (bd_eq ev2.symm).symm.trans hr
        refine lv_istore (lv' := [(5, .int v2), (4, .int (f_X1_howManyHave x3 l_z l_a)), (0, .ref (ad 0)), (1, .int x1), (2, .int x2), (3, .int x3)]) hx hb dX7_tryNext_61 hl (by decide) rfl (fun ls hl => ?_)
        refine lv_iload hx hb dX7_tryNext_63 (lv_at hl 0 rfl) ?_
        refine lv_iload_n hx hb dX7_tryNext_65 rfl (lv_at hl 4 rfl) ?_
        refine lv_icmp_le (tgt := 74) hx hb dX7_tryNext_66 (by decide) (fun c66 => ?_) (fun c66 => ?_)
        · have hr := (if_pos c66).symm.trans hr
          refine lv_iinc (v := x3 + 1) (lv' := [(3, .int (x3 + 1)), (5, .int v2), (4, .int (f_X1_howManyHave x3 l_z l_a)), (0, .ref (ad 0)), (1, .int x1), (2, .int x2)]) hx hb dX7_tryNext_74 hl (k := 5) rfl rfl (by decide) rfl (fun ls hl => ?_)
          refine lv_goto (tgt := 11) hx hb dX7_tryNext_77 (by decide) ?_
          exact ih x1 x2 (x3 + 1) _ _ _ (fuU_s hf c19) hr hP hS (lv_sub hl [3, 4, 5, 0] rfl)
        · have hr := (if_neg c66).symm.trans hr
          refine lv_iload hx hb dX7_tryNext_69 (lv_at hl 0 rfl) ?_
          refine lv_istore_n (lv' := [(2, .int v2), (5, .int v2), (4, .int (f_X1_howManyHave x3 l_z l_a)), (0, .ref (ad 0)), (1, .int x1), (3, .int x3)]) hx hb dX7_tryNext_71 rfl hl (by decide) rfl (fun ls hl => ?_)
          refine lv_iload_n hx hb dX7_tryNext_72 rfl (lv_at hl 5 rfl) ?_
          refine lv_istore_n (lv' := [(1, .int x3), (2, .int v2), (5, .int v2), (4, .int (f_X1_howManyHave x3 l_z l_a)), (0, .ref (ad 0)), (3, .int x3)]) hx hb dX7_tryNext_73 rfl hl (by decide) rfl (fun ls hl => ?_)
          refine lv_iinc (v := x3 + 1) (lv' := [(3, .int (x3 + 1)), (1, .int x3), (2, .int v2), (5, .int v2), (4, .int (f_X1_howManyHave x3 l_z l_a)), (0, .ref (ad 0))]) hx hb dX7_tryNext_74 hl (k := 5) rfl rfl (by decide) rfl (fun ls hl => ?_)
          refine lv_goto (tgt := 11) hx hb dX7_tryNext_77 (by decide) ?_
          exact ih x3 v2 (x3 + 1) _ _ _ (fuU_s hf c19) hr hP hS (lv_sub hl [5, 1, 2, 0] rfl)
      · have hr := (if_neg c30).symm.trans hr
        refine lv_goto (tgt := 74) hx hb dX7_tryNext_33 (by decide) ?_
        refine lv_iinc (v := x3 + 1) (lv' := [(3, .int (x3 + 1)), (0, .ref (ad 0)), (1, .int x1), (2, .int x2)]) hx hb dX7_tryNext_74 hl (k := 3) rfl rfl (by decide) rfl (fun ls hl => ?_)
        refine lv_goto (tgt := 11) hx hb dX7_tryNext_77 (by decide) ?_
        exact ih x1 x2 (x3 + 1) _ _ _ (fuU_s hf c19) hr hP hS (lv_sub hl [1, 2, 3, 0] rfl)
set_option maxHeartbeats 4000000 in
set_option maxRecDepth 100000 in
theorem c_X7_tryNext (l : Launch) (D : va_G) (cI cL cZ : ClassId) (ad : Nat → Nat) (c_sr t_n t_r t_w s_w s_h s_c s_p s_s p_nx p_sz r_k r_r r_p l_z q_z : Int32) (t_t b_l b_b b_n r_t l_l l_b l_n q_l q_b q_n : Int64) (t_le s_cs s_ps s_ha s_en pk ik : Nat → Int32) (s_ro s_me s_be s_se s_co pl pb pn il ib im l_a q_a : Nat → Int64) (hAd : cInj ad) (r : Int32 × Int32 × Int32 × Int64 × Int64 × Int64 × (Nat → Int64)) (hr : f_X7_tryNext c_sr s_c s_s l_z b_l b_b b_n l_l l_b l_n s_cs s_ha s_ro s_be s_se s_co l_a = r) (hc : 0 ≤ s_c.toInt) : MI l yX7_tryNext (Cond.code yX7_tryNext cX7_tryNext 6 (some .int) :: W0) 24 701 D cI cL cZ (cAd ad) [.ref (ad 0)] (cw ad cI cL cZ c_sr t_n t_r t_w s_w s_h s_c s_p s_s p_nx p_sz r_k r_r r_p l_z q_z t_t b_l b_b b_n r_t l_l l_b l_n q_l q_b q_n t_le s_cs s_ps s_ha s_en pk ik s_ro s_me s_be s_se s_co pl pb pn il ib im l_a q_a) r.1 (cw ad cI cL cZ r.2.1 t_n t_r t_w s_w s_h s_c s_p s_s p_nx p_sz r_k r_r r_p r.2.2.1 q_z t_t b_l b_b b_n r_t r.2.2.2.1 r.2.2.2.2.1 r.2.2.2.2.2.1 q_l q_b q_n t_le s_cs s_ps s_ha s_en pk ik s_ro s_me s_be s_se s_co pl pb pn il ib im r.2.2.2.2.2.2 q_a) := by
  refine mk_start (cc := cX7_tryNext) (maxL := 6) (ret := (some .int)) (by decide) rfl (Nat.le_of_ble_eq_true rfl) ?_
  intro p e s m below meth c ls C hP hS hl
  obtain ⟨hx, hb, hml, hrt, hlocks, hown, hts, hk⟩ := C
  have hown : s.vm.findClass RX7 = some m.cls := hown
  have hl : lv_has ls 6 [(0, .ref (ad 0))] := hl
  rw [f_X7_tryNext] at hr
  refine lv_aload_n hx hb dX7_tryNext_0 rfl (lv_at hl 0 rfl) ?_
  obtain ⟨u1, hu1⟩ : ∃ z, f_X7_searchLoops c_sr s_c l_z b_l b_b b_n l_l l_b l_n s_cs s_ha s_ro s_be s_se s_co l_a = z := ⟨_, rfl⟩
  have hr := (bd_eq hu1).symm.trans hr
  refine go_v (ru_V (n := 0) ⟨hx, hb, hml, hown, hts⟩ hk hP (c_X7_searchLoops l D cI cL cZ ad c_sr t_n t_r t_w s_w s_h s_c s_p s_s p_nx p_sz r_k r_r r_p l_z q_z t_t b_l b_b b_n r_t l_l l_b l_n q_l q_b q_n t_le s_cs s_ps s_ha s_en pk ik s_ro s_me s_be s_se s_co pl pb pn il ib im l_a q_a hAd _ hu1 hc) (cwV 0 hts (gV q3_109 q3_111 qs2_9 q1_1 q3_112) rfl rfl rfl hd_X7_searchLoops ⟨Nat.le_of_ble_eq_true rfl, Nat.le_of_ble_eq_true rfl⟩) (va_recv hk.1 hP (ci := 7) (q0 := 0) rfl rfl) rfl hl.1 rfl (Nat.le_of_ble_eq_true rfl) dX7_tryNext_1 ⟨Nat.zero_le _, Nat.zero_le _⟩) hS (fun _ h => h) (fun H locs hP hS => ?_)
  have hP : va_P D vwCl (cw ad cI cL cZ u1.1 t_n t_r t_w s_w s_h s_c s_p s_s p_nx p_sz r_k r_r r_p u1.2.1 q_z t_t b_l b_b b_n r_t u1.2.2.1 u1.2.2.2.1 u1.2.2.2.2.1 q_l q_b q_n t_le s_cs s_ps s_ha s_en pk ik s_ro s_me s_be s_se s_co pl pb pn il ib im u1.2.2.2.2.2 q_a) H := hP
  refine lv_bipush (v := (-9)) hx hb dX7_tryNext_4 (by decide) ?_
  refine lv_istore_n (lv' := [(1, .int ((-9))), (0, .ref (ad 0))]) hx hb dX7_tryNext_6 rfl hl (by decide) rfl (fun ls hl => ?_)
  refine lv_iconst (v := 0) hx hb dX7_tryNext_7 (by decide) ?_
  refine lv_istore_n (lv' := [(2, .int 0), (1, .int ((-9))), (0, .ref (ad 0))]) hx hb dX7_tryNext_8 rfl hl (by decide) rfl (fun ls hl => ?_)
  refine lv_iconst (v := 0) hx hb dX7_tryNext_9 (by decide) ?_
  refine lv_istore_n (lv' := [(3, .int 0), (2, .int 0), (1, .int ((-9))), (0, .ref (ad 0))]) hx hb dX7_tryNext_10 rfl hl (by decide) rfl (fun ls hl => ?_)
  refine lp_X7_tryNext_11 l D cI cL cZ ad u1.1 t_n t_r t_w s_w s_h s_c s_p s_s p_nx p_sz r_k r_r r_p u1.2.1 q_z t_t b_l b_b b_n r_t u1.2.2.1 u1.2.2.2.1 u1.2.2.2.2.1 q_l q_b q_n t_le s_cs s_ps s_ha s_en pk ik s_ro s_me s_be s_se s_co pl pb pn il ib im u1.2.2.2.2.2 q_a ⟨hx, hb, hml, hrt, hlocks, hown, hts, hk⟩ hAd _ _ (fun z3 H locs ls hr hP hS hl => ?_) (fu s_s (0 : Int32)) ((-9)) 0 0 _ _ _ (fuU_0 (by decide)) hr hP hS (lv_sub hl [3, 2, 1, 0] rfl)
  refine lv_iload_n hx hb dX7_tryNext_80 rfl (lv_at hl 0 rfl) ?_
  subst hr
  exact ret_i hx hb hrt hlocks hP hS dX7_tryNext_81
