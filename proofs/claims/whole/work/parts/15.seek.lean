theorem hd_X3_seek : yX3_seek.cls = RX3 ∧ yX3_seek.cls ≠ "java/lang/invoke/MethodHandle" ∧ yX3_seek.cls ≠ "java/lang/invoke/VarHandle" ∧ (parseMethodDescriptor yX3_seek.desc).map (fun d => d.parameters.length) = some 0 := by decide +kernel
def F_X3_seek_17 (s_c : Int32) (b_l : Int64) (b_b : Int64) (b_n : Int64) (s_ro : Nat → Int64) {β : Type} (k0 : Int32 → Int32 → Int64 → β) : Nat → Int32 → Int32 → Int32 → Int64 → β
  | 0, x1, r_k, r_p, r_t => k0 r_k r_p r_t
  | n + 1, x1, r_k, r_p, r_t => (if s_c ≤ x1 then k0 r_k r_p r_t else (if r_k = 0 then (bd (f_X3_lookAtCell (f_X0_numberOf x1 b_n) (f_X4_roundCell x1 s_ro) r_k b_l b_b r_t) (fun u1 => F_X3_seek_17 s_c b_l b_b b_n s_ro k0 n (x1 + 1) u1.1 x1 u1.2)) else k0 r_k r_p r_t))
def F_X3_seek_80 (s_p : Int32) (b_l : Int64) (b_b : Int64) (s_me : Nat → Int64) {β : Type} (k0 : Int32 → Int32 → Int64 → β) : Nat → Int32 → Int32 → Int32 → Int64 → β
  | 0, x1, r_k, r_p, r_t => k0 r_k r_p r_t
  | n + 1, x1, r_k, r_p, r_t => (if s_p ≤ x1 then k0 r_k r_p r_t else (if r_k = 0 then (bd (f_X3_lookAtPoint (f_X4_atPoint x1 s_me) r_k b_l b_b r_t) (fun u5 => F_X3_seek_80 s_p b_l b_b s_me k0 n (x1 + 1) u5.1 x1 u5.2)) else k0 r_k r_p r_t))
def F_X3_seek_135 (s_c : Int32) (s_p : Int32) (s_s : Int32) (b_l : Int64) (b_b : Int64) (b_n : Int64) (s_en : Nat → Int32) (s_ro : Nat → Int64) (s_me : Nat → Int64) (s_be : Nat → Int64) {β : Type} (k0 : Int32 → Int32 → Int64 → β) : Nat → Int32 → Int32 → Int32 → Int64 → β
  | 0, x1, r_k, r_p, r_t => k0 r_k r_p r_t
  | n + 1, x1, r_k, r_p, r_t => (if s_s ≤ x1 then k0 r_k r_p r_t else (if r_k = 0 then (bd (f_X3_lookAtChain x1 (f_X0_stateOf x1 b_l b_b) s_c s_p r_k b_l b_n r_t s_en s_ro s_me s_be) (fun u9 => F_X3_seek_135 s_c s_p s_s b_l b_b b_n s_en s_ro s_me s_be k0 n (x1 + 1) u9.1 x1 u9.2)) else k0 r_k r_p r_t))
def F_X3_seek_191 (s_s : Int32) (b_l : Int64) (b_b : Int64) (s_ha : Nat → Int32) (s_ro : Nat → Int64) {β : Type} (k0 : Int32 → Int32 → Int64 → β) : Nat → Int32 → Int32 → Int32 → Int64 → β
  | 0, x1, r_k, r_p, r_t => k0 r_k r_p r_t
  | n + 1, x1, r_k, r_p, r_t => (if s_s ≤ x1 then k0 r_k r_p r_t else (if r_k = 0 then (bd (f_X3_lookAtHands x1 (f_X0_stateOf x1 b_l b_b) r_k b_l b_b r_t s_ha s_ro) (fun u13 => F_X3_seek_191 s_s b_l b_b s_ha s_ro k0 n (x1 + 1) u13.1 x1 u13.2)) else k0 r_k r_p r_t))
def f_X3_seek (s_c : Int32) (s_p : Int32) (s_s : Int32) (r_p : Int32) (b_l : Int64) (b_b : Int64) (b_n : Int64) (s_ha : Nat → Int32) (s_en : Nat → Int32) (s_ro : Nat → Int64) (s_me : Nat → Int64) (s_be : Nat → Int64) : Int32 × Int32 × Int32 × Int64 := F_X3_seek_17 s_c b_l b_b b_n s_ro (fun z2 z3 z4 => (if z2 = 0 then F_X3_seek_80 s_p b_l b_b s_me (fun z29 z30 z31 => (if z29 = 0 then F_X3_seek_135 s_c s_p s_s b_l b_b b_n s_en s_ro s_me s_be (fun z41 z42 z43 => (if z41 = 0 then F_X3_seek_191 s_s b_l b_b s_ha s_ro (fun z47 z48 z49 => (z47, 3, z48, z49)) (fu s_s (0 : Int32)) 0 z41 z42 z43 else F_X3_seek_191 s_s b_l b_b s_ha s_ro (fun z44 z45 z46 => (z44, 2, z45, z46)) (fu s_s (0 : Int32)) 0 z41 z42 z43)) (fu s_s (0 : Int32)) 0 z29 z30 z31 else F_X3_seek_135 s_c s_p s_s b_l b_b b_n s_en s_ro s_me s_be (fun z32 z33 z34 => (if z32 = 0 then F_X3_seek_191 s_s b_l b_b s_ha s_ro (fun z38 z39 z40 => (z38, 3, z39, z40)) (fu s_s (0 : Int32)) 0 z32 z33 z34 else F_X3_seek_191 s_s b_l b_b s_ha s_ro (fun z35 z36 z37 => (z35, 1, z36, z37)) (fu s_s (0 : Int32)) 0 z32 z33 z34)) (fu s_s (0 : Int32)) 0 z29 z30 z31)) (fu s_p (0 : Int32)) 0 z2 z3 z4 else F_X3_seek_80 s_p b_l b_b s_me (fun z6 z7 z8 => (if z6 = 0 then F_X3_seek_135 s_c s_p s_s b_l b_b b_n s_en s_ro s_me s_be (fun z20 z21 z22 => (if z20 = 0 then F_X3_seek_191 s_s b_l b_b s_ha s_ro (fun z26 z27 z28 => (z26, 3, z27, z28)) (fu s_s (0 : Int32)) 0 z20 z21 z22 else F_X3_seek_191 s_s b_l b_b s_ha s_ro (fun z23 z24 z25 => (z23, 2, z24, z25)) (fu s_s (0 : Int32)) 0 z20 z21 z22)) (fu s_s (0 : Int32)) 0 z6 z7 z8 else F_X3_seek_135 s_c s_p s_s b_l b_b b_n s_en s_ro s_me s_be (fun z10 z11 z12 => (if z10 = 0 then F_X3_seek_191 s_s b_l b_b s_ha s_ro (fun z17 z18 z19 => (z17, 3, z18, z19)) (fu s_s (0 : Int32)) 0 z10 z11 z12 else F_X3_seek_191 s_s b_l b_b s_ha s_ro (fun z14 z15 z16 => (z14, 0, z15, z16)) (fu s_s (0 : Int32)) 0 z10 z11 z12)) (fu s_s (0 : Int32)) 0 z6 z7 z8)) (fu s_p (0 : Int32)) 0 z2 z3 z4)) (fu s_c (0 : Int32)) 0 0 r_p 0
set_option maxHeartbeats 4000000 in
set_option maxRecDepth 100000 in
theorem lp_X3_seek_17 (l : Launch) (D : va_G) (cI cL cZ : ClassId) (ad : Nat → Nat) (c_sr t_n t_r t_w s_w s_h s_c s_p s_s p_nx p_sz r_r l_z q_z : Int32) (t_t b_l b_b b_n l_l l_b l_n q_l q_b q_n : Int64) (t_le s_cs s_ps s_ha s_en pk ik : Nat → Int32) (s_ro s_me s_be s_se s_co pl pb pn il ib im l_a q_a : Nat → Int64) {p : Program} {e : Env} {s : State} {m : MethodId} {args : Array Value} {below : List Frame} {meth : Method} {c : Code} {Q : State → Prop} (C : Cx p s m args meth c cX3_seek 2 none W0 RX3 D cI cL cZ) (hAd : cInj ad) {β : Type} (k0 : Int32 → Int32 → Int64 → β) (r : β)
    (h0 : ∀ (r_k r_p : Int32) (r_t : Int64) (H : Heap) (locs : List Loc) (ls : Array Slot), k0 r_k r_p r_t = r → va_P D vwCl (cw ad cI cL cZ c_sr t_n t_r t_w s_w s_h s_c s_p s_s p_nx p_sz r_k r_r r_p l_z q_z t_t b_l b_b b_n r_t l_l l_b l_n q_l q_b q_n t_le s_cs s_ps s_ha s_en pk ik s_ro s_me s_be s_se s_co pl pb pn il ib im l_a q_a) H → va_S (cAd ad) s.heap H locs → lv_has ls 2 [(0, .ref (ad 25))] → W p l e (rmS 5 130) s m args below meth c H locs 0 0 Q (F0 m 66 ls [])) :
    ∀ (n : Nat) (x1 r_k r_p : Int32) (r_t : Int64) (H : Heap) (locs : List Loc) (ls : Array Slot), fuU n s_c x1 → F_X3_seek_17 s_c b_l b_b b_n s_ro k0 n x1 r_k r_p r_t = r → va_P D vwCl (cw ad cI cL cZ c_sr t_n t_r t_w s_w s_h s_c s_p s_s p_nx p_sz r_k r_r r_p l_z q_z t_t b_l b_b b_n r_t l_l l_b l_n q_l q_b q_n t_le s_cs s_ps s_ha s_en pk ik s_ro s_me s_be s_se s_co pl pb pn il ib im l_a q_a) H → va_S (cAd ad) s.heap H locs → lv_has ls 2 [(0, .ref (ad 25)), (1, .int x1)] → W p l e (rmS 5 130) s m args below meth c H locs 0 0 Q (F0 m 17 ls []) := by
  obtain ⟨hx, hb, hml, hrt, hlocks, hown, hts, hk⟩ := C
  intro n
  induction n with
  | zero =>
    intro x1 r_k r_p r_t H locs ls hf
    exact absurd hf.1 (Nat.lt_irrefl 0)
  | succ n ih =>
    intro x1 r_k r_p r_t H locs ls hf hr hP hS hl
    rw [F_X3_seek_17] at hr
    refine lv_iload_n hx hb dX3_seek_17 rfl (lv_at hl 1 rfl) ?_
    refine lv_aload_n hx hb dX3_seek_18 rfl (lv_at hl 0 rfl) ?_
    refine va_get (D := D) (ci := 3) (v := .ref (ad 3)) (C := RX3) (T := TX3) (N := 6) hx hb hts u_X3 hown hk.1 hP 25 rfl rfl 0 (by decide) (hts _ q1_179) (fun _ h9 => h9) rfl dX3_seek_19 ?_
    refine va_get (D := D) (ci := 4) (v := .int s_c) (C := RX4) (T := TX4) (N := 14) hx hb hts u_X4 hown hk.1 hP 3 rfl rfl 2 (by decide) (hts _ q1_62) (fun _ h9 => h9) rfl dX3_seek_22 ?_
    refine lv_icmp_ge (tgt := 66) hx hb dX3_seek_25 (by decide) (fun c25 => ?_) (fun c25 => ?_)
    · have hr := (if_pos c25).symm.trans hr
      exact h0 r_k r_p r_t _ _ _ hr hP hS (lv_sub hl [0] rfl)
    · have hr := (if_neg c25).symm.trans hr
      refine lv_aload_n hx hb dX3_seek_28 rfl (lv_at hl 0 rfl) ?_
      refine va_get (D := D) (ci := 3) (v := .int r_k) (C := RX3) (T := TX3) (N := 6) hx hb hts u_X3 hown hk.1 hP 25 rfl rfl 2 (by decide) (hts _ q1_181) (fun _ h9 => h9) rfl dX3_seek_29 ?_
      refine lv_if_ne (tgt := 66) hx hb dX3_seek_32 (by decide) (fun c32 => ?_) (fun c32 => ?_)
      · have hr := (if_neg c32).symm.trans hr
        exact h0 r_k r_p r_t _ _ _ hr hP hS (lv_sub hl [0] rfl)
      · have hr := (if_pos c32).symm.trans hr
        refine lv_aload_n hx hb dX3_seek_35 rfl (lv_at hl 0 rfl) ?_
        refine lv_iload_n hx hb dX3_seek_36 rfl (lv_at hl 1 rfl) ?_
        refine va_put (D := D) (ci := 3) (v := .int x1) (ty := .int) (C := RX3) (T := TX3) (N := 6) hx hb hts u_X3 tyX3 tyX3_ok nmX3 hown hk.1 hP (cw_D hAd) hS 25 rfl rfl 4 (by decide) (hts _ q1_185) (fun _ h9 => h9) rfl (tyX3_ok 4 (by decide)) rfl rfl (Nat.le_of_ble_eq_true rfl) dX3_seek_37 (fun H locs hP _ hS => ?_)
        have hP : va_P D vwCl (cw ad cI cL cZ c_sr t_n t_r t_w s_w s_h s_c s_p s_s p_nx p_sz r_k r_r x1 l_z q_z t_t b_l b_b b_n r_t l_l l_b l_n q_l q_b q_n t_le s_cs s_ps s_ha s_en pk ik s_ro s_me s_be s_se s_co pl pb pn il ib im l_a q_a) H := hP
        refine lv_aload_n hx hb dX3_seek_40 rfl (lv_at hl 0 rfl) ?_
        refine lv_aload_n hx hb dX3_seek_41 rfl (lv_at hl 0 rfl) ?_
        refine va_get (D := D) (ci := 3) (v := .ref (ad 13)) (C := RX3) (T := TX3) (N := 6) hx hb hts u_X3 hown hk.1 hP 25 rfl rfl 1 (by decide) (hts _ q1_180) (fun _ h9 => h9) rfl dX3_seek_42 ?_
        refine lv_iload_n hx hb dX3_seek_45 rfl (lv_at hl 1 rfl) ?_
        refine go_i (ru_V (n := 1) ⟨hx, hb, hml, hown, hts⟩ hk hP (c_X0_numberOf l D cI cL cZ ad c_sr t_n t_r t_w s_w s_h s_c s_p s_s p_nx p_sz r_k r_r x1 l_z q_z t_t b_l b_b b_n r_t l_l l_b l_n q_l q_b q_n t_le s_cs s_ps s_ha s_en pk ik s_ro s_me s_be s_se s_co pl pb pn il ib im l_a q_a hAd x1 _ rfl) (cwV 1 hts (gV q2_232 q2_164 q2_165 q1_4 q2_166) rfl rfl rfl hd_X0_numberOf ⟨Nat.le_of_ble_eq_true rfl, Nat.le_of_ble_eq_true rfl⟩) (va_recv hk.1 hP (ci := 0) (q0 := 13) rfl rfl) rfl hl.1 rfl (Nat.le_of_ble_eq_true rfl) dX3_seek_46 ⟨Nat.zero_le _, Nat.zero_le _⟩) hS (fun _ h => h) (fun H locs hP hS => ?_)
        have hP : va_P D vwCl (cw ad cI cL cZ c_sr t_n t_r t_w s_w s_h s_c s_p s_s p_nx p_sz r_k r_r x1 l_z q_z t_t b_l b_b b_n r_t l_l l_b l_n q_l q_b q_n t_le s_cs s_ps s_ha s_en pk ik s_ro s_me s_be s_se s_co pl pb pn il ib im l_a q_a) H := hP
        refine lv_aload_n hx hb dX3_seek_49 rfl (lv_at hl 0 rfl) ?_
        refine va_get (D := D) (ci := 3) (v := .ref (ad 3)) (C := RX3) (T := TX3) (N := 6) hx hb hts u_X3 hown hk.1 hP 25 rfl rfl 0 (by decide) (hts _ q1_179) (fun _ h9 => h9) rfl dX3_seek_50 ?_
        refine lv_iload_n hx hb dX3_seek_53 rfl (lv_at hl 1 rfl) ?_
        refine go_l (ru_V (n := 1) ⟨hx, hb, hml, hown, hts⟩ hk hP (c_X4_roundCell l D cI cL cZ ad c_sr t_n t_r t_w s_w s_h s_c s_p s_s p_nx p_sz r_k r_r x1 l_z q_z t_t b_l b_b b_n r_t l_l l_b l_n q_l q_b q_n t_le s_cs s_ps s_ha s_en pk ik s_ro s_me s_be s_se s_co pl pb pn il ib im l_a q_a hAd x1 _ rfl) (cwV 1 hts (gV q2_233 q2_15 q2_16 q1_3 q2_17) rfl rfl rfl hd_X4_roundCell ⟨Nat.le_of_ble_eq_true rfl, Nat.le_of_ble_eq_true rfl⟩) (va_recv hk.1 hP (ci := 4) (q0 := 3) rfl rfl) rfl hl.1 rfl (Nat.le_of_ble_eq_true rfl) dX3_seek_54 ⟨Nat.zero_le _, Nat.zero_le _⟩) hS (fun _ h => h) (fun H locs hP hS => ?_)
        have hP : va_P D vwCl (cw ad cI cL cZ c_sr t_n t_r t_w s_w s_h s_c s_p s_s p_nx p_sz r_k r_r x1 l_z q_z t_t b_l b_b b_n r_t l_l l_b l_n q_l q_b q_n t_le s_cs s_ps s_ha s_en pk ik s_ro s_me s_be s_se s_co pl pb pn il ib im l_a q_a) H := hP
        obtain ⟨u1, hu1⟩ : ∃ z, f_X3_lookAtCell (f_X0_numberOf x1 b_n) (f_X4_roundCell x1 s_ro) r_k b_l b_b r_t = z := ⟨_, rfl⟩
        have hr := (bd_eq hu1).symm.trans hr
        refine go_v (ru_V (n := 2) ⟨hx, hb, hml, hown, hts⟩ hk hP (c_X3_lookAtCell l D cI cL cZ ad c_sr t_n t_r t_w s_w s_h s_c s_p s_s p_nx p_sz r_k r_r x1 l_z q_z t_t b_l b_b b_n r_t l_l l_b l_n q_l q_b q_n t_le s_cs s_ps s_ha s_en pk ik s_ro s_me s_be s_se s_co pl pb pn il ib im l_a q_a hAd (f_X0_numberOf x1 b_n) (f_X4_roundCell x1 s_ro) _ hu1) (cwV 2 hts (gV q2_234 q2_236 qs1_12 q1_8 q2_237) rfl rfl rfl hd_X3_lookAtCell ⟨Nat.le_of_ble_eq_true rfl, Nat.le_of_ble_eq_true rfl⟩) (va_recv hk.1 hP (ci := 3) (q0 := 25) rfl rfl) rfl hl.1 rfl (Nat.le_of_ble_eq_true rfl) dX3_seek_57 ⟨Nat.zero_le _, Nat.zero_le _⟩) hS (fun _ h => h) (fun H locs hP hS => ?_)
        have hP : va_P D vwCl (cw ad cI cL cZ c_sr t_n t_r t_w s_w s_h s_c s_p s_s p_nx p_sz u1.1 r_r x1 l_z q_z t_t b_l b_b b_n u1.2 l_l l_b l_n q_l q_b q_n t_le s_cs s_ps s_ha s_en pk ik s_ro s_me s_be s_se s_co pl pb pn il ib im l_a q_a) H := hP
        refine lv_iinc (v := x1 + 1) (lv' := [(1, .int (x1 + 1)), (0, .ref (ad 25))]) hx hb dX3_seek_60 hl (k := 1) rfl rfl (by decide) rfl (fun ls hl => ?_)
        refine lv_goto (tgt := 17) hx hb dX3_seek_63 (by decide) ?_
        exact ih (x1 + 1) u1.1 x1 u1.2 _ _ _ (fuU_s hf c25) hr hP hS (lv_sub hl [1, 0] rfl)
set_option maxHeartbeats 4000000 in
set_option maxRecDepth 100000 in
theorem lp_X3_seek_80 (l : Launch) (D : va_G) (cI cL cZ : ClassId) (ad : Nat → Nat) (c_sr t_n t_r t_w s_w s_h s_c s_p s_s p_nx p_sz r_r l_z q_z : Int32) (t_t b_l b_b b_n l_l l_b l_n q_l q_b q_n : Int64) (t_le s_cs s_ps s_ha s_en pk ik : Nat → Int32) (s_ro s_me s_be s_se s_co pl pb pn il ib im l_a q_a : Nat → Int64) {p : Program} {e : Env} {s : State} {m : MethodId} {args : Array Value} {below : List Frame} {meth : Method} {c : Code} {Q : State → Prop} (C : Cx p s m args meth c cX3_seek 2 none W0 RX3 D cI cL cZ) (hAd : cInj ad) {β : Type} (k0 : Int32 → Int32 → Int64 → β) (r : β)
    (h0 : ∀ (r_k r_p : Int32) (r_t : Int64) (H : Heap) (locs : List Loc) (ls : Array Slot), k0 r_k r_p r_t = r → va_P D vwCl (cw ad cI cL cZ c_sr t_n t_r t_w s_w s_h s_c s_p s_s p_nx p_sz r_k r_r r_p l_z q_z t_t b_l b_b b_n r_t l_l l_b l_n q_l q_b q_n t_le s_cs s_ps s_ha s_en pk ik s_ro s_me s_be s_se s_co pl pb pn il ib im l_a q_a) H → va_S (cAd ad) s.heap H locs → lv_has ls 2 [(0, .ref (ad 25))] → W p l e (rmS 5 130) s m args below meth c H locs 0 0 Q (F0 m 121 ls [])) :
    ∀ (n : Nat) (x1 r_k r_p : Int32) (r_t : Int64) (H : Heap) (locs : List Loc) (ls : Array Slot), fuU n s_p x1 → F_X3_seek_80 s_p b_l b_b s_me k0 n x1 r_k r_p r_t = r → va_P D vwCl (cw ad cI cL cZ c_sr t_n t_r t_w s_w s_h s_c s_p s_s p_nx p_sz r_k r_r r_p l_z q_z t_t b_l b_b b_n r_t l_l l_b l_n q_l q_b q_n t_le s_cs s_ps s_ha s_en pk ik s_ro s_me s_be s_se s_co pl pb pn il ib im l_a q_a) H → va_S (cAd ad) s.heap H locs → lv_has ls 2 [(0, .ref (ad 25)), (1, .int x1)] → W p l e (rmS 5 130) s m args below meth c H locs 0 0 Q (F0 m 80 ls []) := by
  obtain ⟨hx, hb, hml, hrt, hlocks, hown, hts, hk⟩ := C
  intro n
  induction n with
  | zero =>
    intro x1 r_k r_p r_t H locs ls hf
    exact absurd hf.1 (Nat.lt_irrefl 0)
  | succ n ih =>
    intro x1 r_k r_p r_t H locs ls hf hr hP hS hl
    rw [F_X3_seek_80] at hr
    refine lv_iload_n hx hb dX3_seek_80 rfl (lv_at hl 1 rfl) ?_
    refine lv_aload_n hx hb dX3_seek_81 rfl (lv_at hl 0 rfl) ?_
    refine va_get (D := D) (ci := 3) (v := .ref (ad 3)) (C := RX3) (T := TX3) (N := 6) hx hb hts u_X3 hown hk.1 hP 25 rfl rfl 0 (by decide) (hts _ q1_179) (fun _ h9 => h9) rfl dX3_seek_82 ?_
    refine va_get (D := D) (ci := 4) (v := .int s_p) (C := RX4) (T := TX4) (N := 14) hx hb hts u_X4 hown hk.1 hP 3 rfl rfl 3 (by decide) (hts _ q1_65) (fun _ h9 => h9) rfl dX3_seek_85 ?_
    refine lv_icmp_ge (tgt := 121) hx hb dX3_seek_88 (by decide) (fun c88 => ?_) (fun c88 => ?_)
    · have hr := (if_pos c88).symm.trans hr
      exact h0 r_k r_p r_t _ _ _ hr hP hS (lv_sub hl [0] rfl)
    · have hr := (if_neg c88).symm.trans hr
      refine lv_aload_n hx hb dX3_seek_91 rfl (lv_at hl 0 rfl) ?_
      refine va_get (D := D) (ci := 3) (v := .int r_k) (C := RX3) (T := TX3) (N := 6) hx hb hts u_X3 hown hk.1 hP 25 rfl rfl 2 (by decide) (hts _ q1_181) (fun _ h9 => h9) rfl dX3_seek_92 ?_
      refine lv_if_ne (tgt := 121) hx hb dX3_seek_95 (by decide) (fun c95 => ?_) (fun c95 => ?_)
      · have hr := (if_neg c95).symm.trans hr
        exact h0 r_k r_p r_t _ _ _ hr hP hS (lv_sub hl [0] rfl)
      · have hr := (if_pos c95).symm.trans hr
        refine lv_aload_n hx hb dX3_seek_98 rfl (lv_at hl 0 rfl) ?_
        refine lv_iload_n hx hb dX3_seek_99 rfl (lv_at hl 1 rfl) ?_
        refine va_put (D := D) (ci := 3) (v := .int x1) (ty := .int) (C := RX3) (T := TX3) (N := 6) hx hb hts u_X3 tyX3 tyX3_ok nmX3 hown hk.1 hP (cw_D hAd) hS 25 rfl rfl 4 (by decide) (hts _ q1_185) (fun _ h9 => h9) rfl (tyX3_ok 4 (by decide)) rfl rfl (Nat.le_of_ble_eq_true rfl) dX3_seek_100 (fun H locs hP _ hS => ?_)
        have hP : va_P D vwCl (cw ad cI cL cZ c_sr t_n t_r t_w s_w s_h s_c s_p s_s p_nx p_sz r_k r_r x1 l_z q_z t_t b_l b_b b_n r_t l_l l_b l_n q_l q_b q_n t_le s_cs s_ps s_ha s_en pk ik s_ro s_me s_be s_se s_co pl pb pn il ib im l_a q_a) H := hP
        refine lv_aload_n hx hb dX3_seek_103 rfl (lv_at hl 0 rfl) ?_
        refine lv_aload_n hx hb dX3_seek_104 rfl (lv_at hl 0 rfl) ?_
        refine va_get (D := D) (ci := 3) (v := .ref (ad 3)) (C := RX3) (T := TX3) (N := 6) hx hb hts u_X3 hown hk.1 hP 25 rfl rfl 0 (by decide) (hts _ q1_179) (fun _ h9 => h9) rfl dX3_seek_105 ?_
        refine lv_iload_n hx hb dX3_seek_108 rfl (lv_at hl 1 rfl) ?_
        refine go_l (ru_V (n := 1) ⟨hx, hb, hml, hown, hts⟩ hk hP (c_X4_atPoint l D cI cL cZ ad c_sr t_n t_r t_w s_w s_h s_c s_p s_s p_nx p_sz r_k r_r x1 l_z q_z t_t b_l b_b b_n r_t l_l l_b l_n q_l q_b q_n t_le s_cs s_ps s_ha s_en pk ik s_ro s_me s_be s_se s_co pl pb pn il ib im l_a q_a hAd x1 _ rfl) (cwV 1 hts (gV q3_13 q2_47 q2_48 q1_3 q2_49) rfl rfl rfl hd_X4_atPoint ⟨Nat.le_of_ble_eq_true rfl, Nat.le_of_ble_eq_true rfl⟩) (va_recv hk.1 hP (ci := 4) (q0 := 3) rfl rfl) rfl hl.1 rfl (Nat.le_of_ble_eq_true rfl) dX3_seek_109 ⟨Nat.zero_le _, Nat.zero_le _⟩) hS (fun _ h => h) (fun H locs hP hS => ?_)
        have hP : va_P D vwCl (cw ad cI cL cZ c_sr t_n t_r t_w s_w s_h s_c s_p s_s p_nx p_sz r_k r_r x1 l_z q_z t_t b_l b_b b_n r_t l_l l_b l_n q_l q_b q_n t_le s_cs s_ps s_ha s_en pk ik s_ro s_me s_be s_se s_co pl pb pn il ib im l_a q_a) H := hP
        obtain ⟨u5, hu5⟩ : ∃ z, f_X3_lookAtPoint (f_X4_atPoint x1 s_me) r_k b_l b_b r_t = z := ⟨_, rfl⟩
        have hr := (bd_eq hu5).symm.trans hr
        refine go_v (ru_V (n := 1) ⟨hx, hb, hml, hown, hts⟩ hk hP (c_X3_lookAtPoint l D cI cL cZ ad c_sr t_n t_r t_w s_w s_h s_c s_p s_s p_nx p_sz r_k r_r x1 l_z q_z t_t b_l b_b b_n r_t l_l l_b l_n q_l q_b q_n t_le s_cs s_ps s_ha s_en pk ik s_ro s_me s_be s_se s_co pl pb pn il ib im l_a q_a hAd (f_X4_atPoint x1 s_me) _ hu5) (cwV 1 hts (gV q3_14 q3_16 qs1_15 q1_8 q3_17) rfl rfl rfl hd_X3_lookAtPoint ⟨Nat.le_of_ble_eq_true rfl, Nat.le_of_ble_eq_true rfl⟩) (va_recv hk.1 hP (ci := 3) (q0 := 25) rfl rfl) rfl hl.1 rfl (Nat.le_of_ble_eq_true rfl) dX3_seek_112 ⟨Nat.zero_le _, Nat.zero_le _⟩) hS (fun _ h => h) (fun H locs hP hS => ?_)
        have hP : va_P D vwCl (cw ad cI cL cZ c_sr t_n t_r t_w s_w s_h s_c s_p s_s p_nx p_sz u5.1 r_r x1 l_z q_z t_t b_l b_b b_n u5.2 l_l l_b l_n q_l q_b q_n t_le s_cs s_ps s_ha s_en pk ik s_ro s_me s_be s_se s_co pl pb pn il ib im l_a q_a) H := hP
        refine lv_iinc (v := x1 + 1) (lv' := [(1, .int (x1 + 1)), (0, .ref (ad 25))]) hx hb dX3_seek_115 hl (k := 1) rfl rfl (by decide) rfl (fun ls hl => ?_)
        refine lv_goto (tgt := 80) hx hb dX3_seek_118 (by decide) ?_
        exact ih (x1 + 1) u5.1 x1 u5.2 _ _ _ (fuU_s hf c88) hr hP hS (lv_sub hl [1, 0] rfl)
set_option maxHeartbeats 4000000 in
set_option maxRecDepth 100000 in
theorem lp_X3_seek_135 (l : Launch) (D : va_G) (cI cL cZ : ClassId) (ad : Nat → Nat) (c_sr t_n t_r t_w s_w s_h s_c s_p s_s p_nx p_sz r_r l_z q_z : Int32) (t_t b_l b_b b_n l_l l_b l_n q_l q_b q_n : Int64) (t_le s_cs s_ps s_ha s_en pk ik : Nat → Int32) (s_ro s_me s_be s_se s_co pl pb pn il ib im l_a q_a : Nat → Int64) {p : Program} {e : Env} {s : State} {m : MethodId} {args : Array Value} {below : List Frame} {meth : Method} {c : Code} {Q : State → Prop} (C : Cx p s m args meth c cX3_seek 2 none W0 RX3 D cI cL cZ) (hAd : cInj ad) {β : Type} (k0 : Int32 → Int32 → Int64 → β) (r : β)
    (h0 : ∀ (r_k r_p : Int32) (r_t : Int64) (H : Heap) (locs : List Loc) (ls : Array Slot), k0 r_k r_p r_t = r → va_P D vwCl (cw ad cI cL cZ c_sr t_n t_r t_w s_w s_h s_c s_p s_s p_nx p_sz r_k r_r r_p l_z q_z t_t b_l b_b b_n r_t l_l l_b l_n q_l q_b q_n t_le s_cs s_ps s_ha s_en pk ik s_ro s_me s_be s_se s_co pl pb pn il ib im l_a q_a) H → va_S (cAd ad) s.heap H locs → lv_has ls 2 [(0, .ref (ad 25))] → W p l e (rmS 5 130) s m args below meth c H locs 0 0 Q (F0 m 177 ls [])) :
    ∀ (n : Nat) (x1 r_k r_p : Int32) (r_t : Int64) (H : Heap) (locs : List Loc) (ls : Array Slot), fuU n s_s x1 → F_X3_seek_135 s_c s_p s_s b_l b_b b_n s_en s_ro s_me s_be k0 n x1 r_k r_p r_t = r → va_P D vwCl (cw ad cI cL cZ c_sr t_n t_r t_w s_w s_h s_c s_p s_s p_nx p_sz r_k r_r r_p l_z q_z t_t b_l b_b b_n r_t l_l l_b l_n q_l q_b q_n t_le s_cs s_ps s_ha s_en pk ik s_ro s_me s_be s_se s_co pl pb pn il ib im l_a q_a) H → va_S (cAd ad) s.heap H locs → lv_has ls 2 [(0, .ref (ad 25)), (1, .int x1)] → W p l e (rmS 5 130) s m args below meth c H locs 0 0 Q (F0 m 135 ls []) := by
  obtain ⟨hx, hb, hml, hrt, hlocks, hown, hts, hk⟩ := C
  intro n
  induction n with
  | zero =>
    intro x1 r_k r_p r_t H locs ls hf
    exact absurd hf.1 (Nat.lt_irrefl 0)
  | succ n ih =>
    intro x1 r_k r_p r_t H locs ls hf hr hP hS hl
    rw [F_X3_seek_135] at hr
    refine lv_iload_n hx hb dX3_seek_135 rfl (lv_at hl 1 rfl) ?_
    refine lv_aload_n hx hb dX3_seek_136 rfl (lv_at hl 0 rfl) ?_
    refine va_get (D := D) (ci := 3) (v := .ref (ad 3)) (C := RX3) (T := TX3) (N := 6) hx hb hts u_X3 hown hk.1 hP 25 rfl rfl 0 (by decide) (hts _ q1_179) (fun _ h9 => h9) rfl dX3_seek_137 ?_
    refine va_get (D := D) (ci := 4) (v := .int s_s) (C := RX4) (T := TX4) (N := 14) hx hb hts u_X4 hown hk.1 hP 3 rfl rfl 4 (by decide) (hts _ q1_67) (fun _ h9 => h9) rfl dX3_seek_140 ?_
    refine lv_icmp_ge (tgt := 177) hx hb dX3_seek_143 (by decide) (fun c143 => ?_) (fun c143 => ?_)
    · have hr := (if_pos c143).symm.trans hr
      exact h0 r_k r_p r_t _ _ _ hr hP hS (lv_sub hl [0] rfl)
    · have hr := (if_neg c143).symm.trans hr
      refine lv_aload_n hx hb dX3_seek_146 rfl (lv_at hl 0 rfl) ?_
      refine va_get (D := D) (ci := 3) (v := .int r_k) (C := RX3) (T := TX3) (N := 6) hx hb hts u_X3 hown hk.1 hP 25 rfl rfl 2 (by decide) (hts _ q1_181) (fun _ h9 => h9) rfl dX3_seek_147 ?_
      refine lv_if_ne (tgt := 177) hx hb dX3_seek_150 (by decide) (fun c150 => ?_) (fun c150 => ?_)
      · have hr := (if_neg c150).symm.trans hr
        exact h0 r_k r_p r_t _ _ _ hr hP hS (lv_sub hl [0] rfl)
      · have hr := (if_pos c150).symm.trans hr
        refine lv_aload_n hx hb dX3_seek_153 rfl (lv_at hl 0 rfl) ?_
        refine lv_iload_n hx hb dX3_seek_154 rfl (lv_at hl 1 rfl) ?_
        refine va_put (D := D) (ci := 3) (v := .int x1) (ty := .int) (C := RX3) (T := TX3) (N := 6) hx hb hts u_X3 tyX3 tyX3_ok nmX3 hown hk.1 hP (cw_D hAd) hS 25 rfl rfl 4 (by decide) (hts _ q1_185) (fun _ h9 => h9) rfl (tyX3_ok 4 (by decide)) rfl rfl (Nat.le_of_ble_eq_true rfl) dX3_seek_155 (fun H locs hP _ hS => ?_)
        have hP : va_P D vwCl (cw ad cI cL cZ c_sr t_n t_r t_w s_w s_h s_c s_p s_s p_nx p_sz r_k r_r x1 l_z q_z t_t b_l b_b b_n r_t l_l l_b l_n q_l q_b q_n t_le s_cs s_ps s_ha s_en pk ik s_ro s_me s_be s_se s_co pl pb pn il ib im l_a q_a) H := hP
        refine lv_aload_n hx hb dX3_seek_158 rfl (lv_at hl 0 rfl) ?_
        refine lv_iload_n hx hb dX3_seek_159 rfl (lv_at hl 1 rfl) ?_
        refine lv_aload_n hx hb dX3_seek_160 rfl (lv_at hl 0 rfl) ?_
        refine va_get (D := D) (ci := 3) (v := .ref (ad 13)) (C := RX3) (T := TX3) (N := 6) hx hb hts u_X3 hown hk.1 hP 25 rfl rfl 1 (by decide) (hts _ q1_180) (fun _ h9 => h9) rfl dX3_seek_161 ?_
        refine lv_iload_n hx hb dX3_seek_164 rfl (lv_at hl 1 rfl) ?_
        refine go_i (ru_V (n := 1) ⟨hx, hb, hml, hown, hts⟩ hk hP (c_X0_stateOf l D cI cL cZ ad c_sr t_n t_r t_w s_w s_h s_c s_p s_s p_nx p_sz r_k r_r x1 l_z q_z t_t b_l b_b b_n r_t l_l l_b l_n q_l q_b q_n t_le s_cs s_ps s_ha s_en pk ik s_ro s_me s_be s_se s_co pl pb pn il ib im l_a q_a hAd x1 _ rfl) (cwV 1 hts (gV q3_18 q2_179 q2_180 q1_4 q2_181) rfl rfl rfl hd_X0_stateOf ⟨Nat.le_of_ble_eq_true rfl, Nat.le_of_ble_eq_true rfl⟩) (va_recv hk.1 hP (ci := 0) (q0 := 13) rfl rfl) rfl hl.1 rfl (Nat.le_of_ble_eq_true rfl) dX3_seek_165 ⟨Nat.zero_le _, Nat.zero_le _⟩) hS (fun _ h => h) (fun H locs hP hS => ?_)
        have hP : va_P D vwCl (cw ad cI cL cZ c_sr t_n t_r t_w s_w s_h s_c s_p s_s p_nx p_sz r_k r_r x1 l_z q_z t_t b_l b_b b_n r_t l_l l_b l_n q_l q_b q_n t_le s_cs s_ps s_ha s_en pk ik s_ro s_me s_be s_se s_co pl pb pn il ib im l_a q_a) H := hP
        obtain ⟨u9, hu9⟩ : ∃ z, f_X3_lookAtChain x1 (f_X0_stateOf x1 b_l b_b) s_c s_p r_k b_l b_n r_t s_en s_ro s_me s_be = z := ⟨_, rfl⟩
        have hr := (bd_eq hu9).symm.trans hr
        refine go_v (ru_V (n := 2) ⟨hx, hb, hml, hown, hts⟩ hk hP (c_X3_lookAtChain l D cI cL cZ ad c_sr t_n t_r t_w s_w s_h s_c s_p s_s p_nx p_sz r_k r_r x1 l_z q_z t_t b_l b_b b_n r_t l_l l_b l_n q_l q_b q_n t_le s_cs s_ps s_ha s_en pk ik s_ro s_me s_be s_se s_co pl pb pn il ib im l_a q_a hAd x1 (f_X0_stateOf x1 b_l b_b) _ hu9) (cwV 2 hts (gV q3_19 q3_21 qs2_0 q1_8 q3_22) rfl rfl rfl hd_X3_lookAtChain ⟨Nat.le_of_ble_eq_true rfl, Nat.le_of_ble_eq_true rfl⟩) (va_recv hk.1 hP (ci := 3) (q0 := 25) rfl rfl) rfl hl.1 rfl (Nat.le_of_ble_eq_true rfl) dX3_seek_168 ⟨Nat.zero_le _, Nat.zero_le _⟩) hS (fun _ h => h) (fun H locs hP hS => ?_)
        have hP : va_P D vwCl (cw ad cI cL cZ c_sr t_n t_r t_w s_w s_h s_c s_p s_s p_nx p_sz u9.1 r_r x1 l_z q_z t_t b_l b_b b_n u9.2 l_l l_b l_n q_l q_b q_n t_le s_cs s_ps s_ha s_en pk ik s_ro s_me s_be s_se s_co pl pb pn il ib im l_a q_a) H := hP
        refine lv_iinc (v := x1 + 1) (lv' := [(1, .int (x1 + 1)), (0, .ref (ad 25))]) hx hb dX3_seek_171 hl (k := 1) rfl rfl (by decide) rfl (fun ls hl => ?_)
        refine lv_goto (tgt := 135) hx hb dX3_seek_174 (by decide) ?_
        exact ih (x1 + 1) u9.1 x1 u9.2 _ _ _ (fuU_s hf c143) hr hP hS (lv_sub hl [1, 0] rfl)
set_option maxHeartbeats 4000000 in
set_option maxRecDepth 100000 in
theorem lp_X3_seek_191 (l : Launch) (D : va_G) (cI cL cZ : ClassId) (ad : Nat → Nat) (c_sr t_n t_r t_w s_w s_h s_c s_p s_s p_nx p_sz r_r l_z q_z : Int32) (t_t b_l b_b b_n l_l l_b l_n q_l q_b q_n : Int64) (t_le s_cs s_ps s_ha s_en pk ik : Nat → Int32) (s_ro s_me s_be s_se s_co pl pb pn il ib im l_a q_a : Nat → Int64) {p : Program} {e : Env} {s : State} {m : MethodId} {args : Array Value} {below : List Frame} {meth : Method} {c : Code} {Q : State → Prop} (C : Cx p s m args meth c cX3_seek 2 none W0 RX3 D cI cL cZ) (hAd : cInj ad) {β : Type} (k0 : Int32 → Int32 → Int64 → β) (r : β)
    (h0 : ∀ (r_k r_p : Int32) (r_t : Int64) (H : Heap) (locs : List Loc) (ls : Array Slot), k0 r_k r_p r_t = r → va_P D vwCl (cw ad cI cL cZ c_sr t_n t_r t_w s_w s_h s_c s_p s_s p_nx p_sz r_k r_r r_p l_z q_z t_t b_l b_b b_n r_t l_l l_b l_n q_l q_b q_n t_le s_cs s_ps s_ha s_en pk ik s_ro s_me s_be s_se s_co pl pb pn il ib im l_a q_a) H → va_S (cAd ad) s.heap H locs → lv_has ls 2 [] → W p l e (rmS 5 130) s m args below meth c H locs 0 0 Q (F0 m 233 ls [])) :
    ∀ (n : Nat) (x1 r_k r_p : Int32) (r_t : Int64) (H : Heap) (locs : List Loc) (ls : Array Slot), fuU n s_s x1 → F_X3_seek_191 s_s b_l b_b s_ha s_ro k0 n x1 r_k r_p r_t = r → va_P D vwCl (cw ad cI cL cZ c_sr t_n t_r t_w s_w s_h s_c s_p s_s p_nx p_sz r_k r_r r_p l_z q_z t_t b_l b_b b_n r_t l_l l_b l_n q_l q_b q_n t_le s_cs s_ps s_ha s_en pk ik s_ro s_me s_be s_se s_co pl pb pn il ib im l_a q_a) H → va_S (cAd ad) s.heap H locs → lv_has ls 2 [(0, .ref (ad 25)), (1, .int x1)] → W p l e (rmS 5 130) s m args below meth c H locs 0 0 Q (F0 m 191 ls []) := by
  obtain ⟨hx, hb, hml, hrt, hlocks, hown, hts, hk⟩ := C
  intro n
  induction n with
  | zero =>
    intro x1 r_k r_p r_t H locs ls hf
    exact absurd hf.1 (Nat.lt_irrefl 0)
  | succ n ih =>
    intro x1 r_k r_p r_t H locs ls hf hr hP hS hl
    rw [F_X3_seek_191] at hr
    refine lv_iload_n hx hb dX3_seek_191 rfl (lv_at hl 1 rfl) ?_
    refine lv_aload_n hx hb dX3_seek_192 rfl (lv_at hl 0 rfl) ?_
    refine va_get (D := D) (ci := 3) (v := .ref (ad 3)) (C := RX3) (T := TX3) (N := 6) hx hb hts u_X3 hown hk.1 hP 25 rfl rfl 0 (by decide) (hts _ q1_179) (fun _ h9 => h9) rfl dX3_seek_193 ?_
    refine va_get (D := D) (ci := 4) (v := .int s_s) (C := RX4) (T := TX4) (N := 14) hx hb hts u_X4 hown hk.1 hP 3 rfl rfl 4 (by decide) (hts _ q1_67) (fun _ h9 => h9) rfl dX3_seek_196 ?_
    refine lv_icmp_ge (tgt := 233) hx hb dX3_seek_199 (by decide) (fun c199 => ?_) (fun c199 => ?_)
    · have hr := (if_pos c199).symm.trans hr
      exact h0 r_k r_p r_t _ _ _ hr hP hS (lv_sub hl [] rfl)
    · have hr := (if_neg c199).symm.trans hr
      refine lv_aload_n hx hb dX3_seek_202 rfl (lv_at hl 0 rfl) ?_
      refine va_get (D := D) (ci := 3) (v := .int r_k) (C := RX3) (T := TX3) (N := 6) hx hb hts u_X3 hown hk.1 hP 25 rfl rfl 2 (by decide) (hts _ q1_181) (fun _ h9 => h9) rfl dX3_seek_203 ?_
      refine lv_if_ne (tgt := 233) hx hb dX3_seek_206 (by decide) (fun c206 => ?_) (fun c206 => ?_)
      · have hr := (if_neg c206).symm.trans hr
        exact h0 r_k r_p r_t _ _ _ hr hP hS (lv_sub hl [] rfl)
      · have hr := (if_pos c206).symm.trans hr
        refine lv_aload_n hx hb dX3_seek_209 rfl (lv_at hl 0 rfl) ?_
        refine lv_iload_n hx hb dX3_seek_210 rfl (lv_at hl 1 rfl) ?_
        refine va_put (D := D) (ci := 3) (v := .int x1) (ty := .int) (C := RX3) (T := TX3) (N := 6) hx hb hts u_X3 tyX3 tyX3_ok nmX3 hown hk.1 hP (cw_D hAd) hS 25 rfl rfl 4 (by decide) (hts _ q1_185) (fun _ h9 => h9) rfl (tyX3_ok 4 (by decide)) rfl rfl (Nat.le_of_ble_eq_true rfl) dX3_seek_211 (fun H locs hP _ hS => ?_)
        have hP : va_P D vwCl (cw ad cI cL cZ c_sr t_n t_r t_w s_w s_h s_c s_p s_s p_nx p_sz r_k r_r x1 l_z q_z t_t b_l b_b b_n r_t l_l l_b l_n q_l q_b q_n t_le s_cs s_ps s_ha s_en pk ik s_ro s_me s_be s_se s_co pl pb pn il ib im l_a q_a) H := hP
        refine lv_aload_n hx hb dX3_seek_214 rfl (lv_at hl 0 rfl) ?_
        refine lv_iload_n hx hb dX3_seek_215 rfl (lv_at hl 1 rfl) ?_
        refine lv_aload_n hx hb dX3_seek_216 rfl (lv_at hl 0 rfl) ?_
        refine va_get (D := D) (ci := 3) (v := .ref (ad 13)) (C := RX3) (T := TX3) (N := 6) hx hb hts u_X3 hown hk.1 hP 25 rfl rfl 1 (by decide) (hts _ q1_180) (fun _ h9 => h9) rfl dX3_seek_217 ?_
        refine lv_iload_n hx hb dX3_seek_220 rfl (lv_at hl 1 rfl) ?_
        refine go_i (ru_V (n := 1) ⟨hx, hb, hml, hown, hts⟩ hk hP (c_X0_stateOf l D cI cL cZ ad c_sr t_n t_r t_w s_w s_h s_c s_p s_s p_nx p_sz r_k r_r x1 l_z q_z t_t b_l b_b b_n r_t l_l l_b l_n q_l q_b q_n t_le s_cs s_ps s_ha s_en pk ik s_ro s_me s_be s_se s_co pl pb pn il ib im l_a q_a hAd x1 _ rfl) (cwV 1 hts (gV q3_18 q2_179 q2_180 q1_4 q2_181) rfl rfl rfl hd_X0_stateOf ⟨Nat.le_of_ble_eq_true rfl, Nat.le_of_ble_eq_true rfl⟩) (va_recv hk.1 hP (ci := 0) (q0 := 13) rfl rfl) rfl hl.1 rfl (Nat.le_of_ble_eq_true rfl) dX3_seek_221 ⟨Nat.zero_le _, Nat.zero_le _⟩) hS (fun _ h => h) (fun H locs hP hS => ?_)
        have hP : va_P D vwCl (cw ad cI cL cZ c_sr t_n t_r t_w s_w s_h s_c s_p s_s p_nx p_sz r_k r_r x1 l_z q_z t_t b_l b_b b_n r_t l_l l_b l_n q_l q_b q_n t_le s_cs s_ps s_ha s_en pk ik s_ro s_me s_be s_se s_co pl pb pn il ib im l_a q_a) H := hP
        obtain ⟨u13, hu13⟩ : ∃ z, f_X3_lookAtHands x1 (f_X0_stateOf x1 b_l b_b) r_k b_l b_b r_t s_ha s_ro = z := ⟨_, rfl⟩
        have hr := (bd_eq hu13).symm.trans hr
        refine go_v (ru_V (n := 2) ⟨hx, hb, hml, hown, hts⟩ hk hP (c_X3_lookAtHands l D cI cL cZ ad c_sr t_n t_r t_w s_w s_h s_c s_p s_s p_nx p_sz r_k r_r x1 l_z q_z t_t b_l b_b b_n r_t l_l l_b l_n q_l q_b q_n t_le s_cs s_ps s_ha s_en pk ik s_ro s_me s_be s_se s_co pl pb pn il ib im l_a q_a hAd x1 (f_X0_stateOf x1 b_l b_b) _ hu13) (cwV 2 hts (gV q3_54 q3_56 qs2_5 q1_8 q3_57) rfl rfl rfl hd_X3_lookAtHands ⟨Nat.le_of_ble_eq_true rfl, Nat.le_of_ble_eq_true rfl⟩) (va_recv hk.1 hP (ci := 3) (q0 := 25) rfl rfl) rfl hl.1 rfl (Nat.le_of_ble_eq_true rfl) dX3_seek_224 ⟨Nat.zero_le _, Nat.zero_le _⟩) hS (fun _ h => h) (fun H locs hP hS => ?_)
        have hP : va_P D vwCl (cw ad cI cL cZ c_sr t_n t_r t_w s_w s_h s_c s_p s_s p_nx p_sz u13.1 r_r x1 l_z q_z t_t b_l b_b b_n u13.2 l_l l_b l_n q_l q_b q_n t_le s_cs s_ps s_ha s_en pk ik s_ro s_me s_be s_se s_co pl pb pn il ib im l_a q_a) H := hP
        refine lv_iinc (v := x1 + 1) (lv' := [(1, .int (x1 + 1)), (0, .ref (ad 25))]) hx hb dX3_seek_227 hl (k := 1) rfl rfl (by decide) rfl (fun ls hl => ?_)
        refine lv_goto (tgt := 191) hx hb dX3_seek_230 (by decide) ?_
        exact ih (x1 + 1) u13.1 x1 u13.2 _ _ _ (fuU_s hf c199) hr hP hS (lv_sub hl [1, 0] rfl)
set_option maxHeartbeats 4000000 in
set_option maxRecDepth 100000 in
theorem c_X3_seek (l : Launch) (D : va_G) (cI cL cZ : ClassId) (ad : Nat → Nat) (c_sr t_n t_r t_w s_w s_h s_c s_p s_s p_nx p_sz r_k r_r r_p l_z q_z : Int32) (t_t b_l b_b b_n r_t l_l l_b l_n q_l q_b q_n : Int64) (t_le s_cs s_ps s_ha s_en pk ik : Nat → Int32) (s_ro s_me s_be s_se s_co pl pb pn il ib im l_a q_a : Nat → Int64) (hAd : cInj ad) (r : Int32 × Int32 × Int32 × Int64) (hr : f_X3_seek s_c s_p s_s r_p b_l b_b b_n s_ha s_en s_ro s_me s_be = r) : MV l yX3_seek (Cond.code yX3_seek cX3_seek 2 none :: W0) 5 130 D cI cL cZ (cAd ad) [.ref (ad 25)] (cw ad cI cL cZ c_sr t_n t_r t_w s_w s_h s_c s_p s_s p_nx p_sz r_k r_r r_p l_z q_z t_t b_l b_b b_n r_t l_l l_b l_n q_l q_b q_n t_le s_cs s_ps s_ha s_en pk ik s_ro s_me s_be s_se s_co pl pb pn il ib im l_a q_a) (cw ad cI cL cZ c_sr t_n t_r t_w s_w s_h s_c s_p s_s p_nx p_sz r.1 r.2.1 r.2.2.1 l_z q_z t_t b_l b_b b_n r.2.2.2 l_l l_b l_n q_l q_b q_n t_le s_cs s_ps s_ha s_en pk ik s_ro s_me s_be s_se s_co pl pb pn il ib im l_a q_a) := by
  refine mk_start (cc := cX3_seek) (maxL := 2) (ret := none) (by decide) rfl (Nat.le_of_ble_eq_true rfl) ?_
  intro p e s m below meth c ls C hP hS hl
  obtain ⟨hx, hb, hml, hrt, hlocks, hown, hts, hk⟩ := C
  have hown : s.vm.findClass RX3 = some m.cls := hown
  have hl : lv_has ls 2 [(0, .ref (ad 25))] := hl
  rw [f_X3_seek] at hr
  refine lv_aload_n hx hb dX3_seek_0 rfl (lv_at hl 0 rfl) ?_
  refine lv_iconst (v := 0) hx hb dX3_seek_1 (by decide) ?_
  refine va_put (D := D) (ci := 3) (v := .int 0) (ty := .int) (C := RX3) (T := TX3) (N := 6) hx hb hts u_X3 tyX3 tyX3_ok nmX3 hown hk.1 hP (cw_D hAd) hS 25 rfl rfl 2 (by decide) (hts _ q1_181) (fun _ h9 => h9) rfl (tyX3_ok 2 (by decide)) rfl rfl (Nat.le_of_ble_eq_true rfl) dX3_seek_2 (fun H locs hP _ hS => ?_)
  have hP : va_P D vwCl (cw ad cI cL cZ c_sr t_n t_r t_w s_w s_h s_c s_p s_s p_nx p_sz 0 r_r r_p l_z q_z t_t b_l b_b b_n r_t l_l l_b l_n q_l q_b q_n t_le s_cs s_ps s_ha s_en pk ik s_ro s_me s_be s_se s_co pl pb pn il ib im l_a q_a) H := hP
  refine lv_aload_n hx hb dX3_seek_5 rfl (lv_at hl 0 rfl) ?_
  refine lv_lconst (v := 0) hx hb dX3_seek_6 (by decide) ?_
  refine va_put (D := D) (ci := 3) (v := .long 0) (ty := .long) (C := RX3) (T := TX3) (N := 6) hx hb hts u_X3 tyX3 tyX3_ok nmX3 hown hk.1 hP (cw_D hAd) hS 25 rfl rfl 5 (by decide) (hts _ q1_187) (fun _ h9 => h9) rfl (tyX3_ok 5 (by decide)) rfl rfl (Nat.le_of_ble_eq_true rfl) dX3_seek_7 (fun H locs hP _ hS => ?_)
  have hP : va_P D vwCl (cw ad cI cL cZ c_sr t_n t_r t_w s_w s_h s_c s_p s_s p_nx p_sz 0 r_r r_p l_z q_z t_t b_l b_b b_n 0 l_l l_b l_n q_l q_b q_n t_le s_cs s_ps s_ha s_en pk ik s_ro s_me s_be s_se s_co pl pb pn il ib im l_a q_a) H := hP
  refine lv_aload_n hx hb dX3_seek_10 rfl (lv_at hl 0 rfl) ?_
  refine lv_iconst (v := 0) hx hb dX3_seek_11 (by decide) ?_
  refine va_put (D := D) (ci := 3) (v := .int 0) (ty := .int) (C := RX3) (T := TX3) (N := 6) hx hb hts u_X3 tyX3 tyX3_ok nmX3 hown hk.1 hP (cw_D hAd) hS 25 rfl rfl 3 (by decide) (hts _ q1_183) (fun _ h9 => h9) rfl (tyX3_ok 3 (by decide)) rfl rfl (Nat.le_of_ble_eq_true rfl) dX3_seek_12 (fun H locs hP _ hS => ?_)
  have hP : va_P D vwCl (cw ad cI cL cZ c_sr t_n t_r t_w s_w s_h s_c s_p s_s p_nx p_sz 0 0 r_p l_z q_z t_t b_l b_b b_n 0 l_l l_b l_n q_l q_b q_n t_le s_cs s_ps s_ha s_en pk ik s_ro s_me s_be s_se s_co pl pb pn il ib im l_a q_a) H := hP
  refine lv_iconst (v := 0) hx hb dX3_seek_15 (by decide) ?_
  refine lv_istore_n (lv' := [(1, .int 0), (0, .ref (ad 25))]) hx hb dX3_seek_16 rfl hl (by decide) rfl (fun ls hl => ?_)
  refine lp_X3_seek_17 l D cI cL cZ ad c_sr t_n t_r t_w s_w s_h s_c s_p s_s p_nx p_sz 0 l_z q_z t_t b_l b_b b_n l_l l_b l_n q_l q_b q_n t_le s_cs s_ps s_ha s_en pk ik s_ro s_me s_be s_se s_co pl pb pn il ib im l_a q_a ⟨hx, hb, hml, hrt, hlocks, hown, hts, hk⟩ hAd _ _ (fun z2 z3 z4 H locs ls hr hP hS hl => ?_) (fu s_c (0 : Int32)) 0 0 r_p 0 _ _ _ (fuU_0 (by decide)) hr hP hS (lv_sub hl [1, 0] rfl)
  refine lv_aload_n hx hb dX3_seek_66 rfl (lv_at hl 0 rfl) ?_
  refine va_get (D := D) (ci := 3) (v := .int z2) (C := RX3) (T := TX3) (N := 6) hx hb hts u_X3 hown hk.1 hP 25 rfl rfl 2 (by decide) (hts _ q1_181) (fun _ h9 => h9) rfl dX3_seek_67 ?_
  refine lv_if_ne (tgt := 78) hx hb dX3_seek_70 (by decide) (fun c70 => ?_) (fun c70 => ?_)
  · have hr := (if_neg c70).symm.trans hr
    refine lv_iconst (v := 0) hx hb dX3_seek_78 (by decide) ?_
    refine lv_istore_n (lv' := [(1, .int 0), (0, .ref (ad 25))]) hx hb dX3_seek_79 rfl hl (by decide) rfl (fun ls hl => ?_)
    refine lp_X3_seek_80 l D cI cL cZ ad c_sr t_n t_r t_w s_w s_h s_c s_p s_s p_nx p_sz 0 l_z q_z t_t b_l b_b b_n l_l l_b l_n q_l q_b q_n t_le s_cs s_ps s_ha s_en pk ik s_ro s_me s_be s_se s_co pl pb pn il ib im l_a q_a ⟨hx, hb, hml, hrt, hlocks, hown, hts, hk⟩ hAd _ _ (fun z6 z7 z8 H locs ls hr hP hS hl => ?_) (fu s_p (0 : Int32)) 0 z2 z3 z4 _ _ _ (fuU_0 (by decide)) hr hP hS (lv_sub hl [1, 0] rfl)
    refine lv_aload_n hx hb dX3_seek_121 rfl (lv_at hl 0 rfl) ?_
    refine va_get (D := D) (ci := 3) (v := .int z6) (C := RX3) (T := TX3) (N := 6) hx hb hts u_X3 hown hk.1 hP 25 rfl rfl 2 (by decide) (hts _ q1_181) (fun _ h9 => h9) rfl dX3_seek_122 ?_
    refine lv_if_ne (tgt := 133) hx hb dX3_seek_125 (by decide) (fun c125 => ?_) (fun c125 => ?_)
    · have hr := (if_neg c125).symm.trans hr
      refine lv_iconst (v := 0) hx hb dX3_seek_133 (by decide) ?_
      refine lv_istore_n (lv' := [(1, .int 0), (0, .ref (ad 25))]) hx hb dX3_seek_134 rfl hl (by decide) rfl (fun ls hl => ?_)
      refine lp_X3_seek_135 l D cI cL cZ ad c_sr t_n t_r t_w s_w s_h s_c s_p s_s p_nx p_sz 0 l_z q_z t_t b_l b_b b_n l_l l_b l_n q_l q_b q_n t_le s_cs s_ps s_ha s_en pk ik s_ro s_me s_be s_se s_co pl pb pn il ib im l_a q_a ⟨hx, hb, hml, hrt, hlocks, hown, hts, hk⟩ hAd _ _ (fun z10 z11 z12 H locs ls hr hP hS hl => ?_) (fu s_s (0 : Int32)) 0 z6 z7 z8 _ _ _ (fuU_0 (by decide)) hr hP hS (lv_sub hl [1, 0] rfl)
      refine lv_aload_n hx hb dX3_seek_177 rfl (lv_at hl 0 rfl) ?_
      refine va_get (D := D) (ci := 3) (v := .int z10) (C := RX3) (T := TX3) (N := 6) hx hb hts u_X3 hown hk.1 hP 25 rfl rfl 2 (by decide) (hts _ q1_181) (fun _ h9 => h9) rfl dX3_seek_178 ?_
      refine lv_if_ne (tgt := 189) hx hb dX3_seek_181 (by decide) (fun c181 => ?_) (fun c181 => ?_)
      · have hr := (if_neg c181).symm.trans hr
        refine lv_iconst (v := 0) hx hb dX3_seek_189 (by decide) ?_
        refine lv_istore_n (lv' := [(1, .int 0), (0, .ref (ad 25))]) hx hb dX3_seek_190 rfl hl (by decide) rfl (fun ls hl => ?_)
        refine lp_X3_seek_191 l D cI cL cZ ad c_sr t_n t_r t_w s_w s_h s_c s_p s_s p_nx p_sz 0 l_z q_z t_t b_l b_b b_n l_l l_b l_n q_l q_b q_n t_le s_cs s_ps s_ha s_en pk ik s_ro s_me s_be s_se s_co pl pb pn il ib im l_a q_a ⟨hx, hb, hml, hrt, hlocks, hown, hts, hk⟩ hAd _ _ (fun z14 z15 z16 H locs ls hr hP hS hl => ?_) (fu s_s (0 : Int32)) 0 z10 z11 z12 _ _ _ (fuU_0 (by decide)) hr hP hS (lv_sub hl [1, 0] rfl)
        subst hr
        exact ret_v hx hb hrt hlocks hP hS dX3_seek_233
      · have hr := (if_pos c181).symm.trans hr
        refine lv_aload_n hx hb dX3_seek_184 rfl (lv_at hl 0 rfl) ?_
        refine lv_iconst (v := 3) hx hb dX3_seek_185 (by decide) ?_
        refine va_put (D := D) (ci := 3) (v := .int 3) (ty := .int) (C := RX3) (T := TX3) (N := 6) hx hb hts u_X3 tyX3 tyX3_ok nmX3 hown hk.1 hP (cw_D hAd) hS 25 rfl rfl 3 (by decide) (hts _ q1_183) (fun _ h9 => h9) rfl (tyX3_ok 3 (by decide)) rfl rfl (Nat.le_of_ble_eq_true rfl) dX3_seek_186 (fun H locs hP _ hS => ?_)
        have hP : va_P D vwCl (cw ad cI cL cZ c_sr t_n t_r t_w s_w s_h s_c s_p s_s p_nx p_sz z10 3 z11 l_z q_z t_t b_l b_b b_n z12 l_l l_b l_n q_l q_b q_n t_le s_cs s_ps s_ha s_en pk ik s_ro s_me s_be s_se s_co pl pb pn il ib im l_a q_a) H := hP
        refine lv_iconst (v := 0) hx hb dX3_seek_189 (by decide) ?_
        refine lv_istore_n (lv' := [(1, .int 0), (0, .ref (ad 25))]) hx hb dX3_seek_190 rfl hl (by decide) rfl (fun ls hl => ?_)
        refine lp_X3_seek_191 l D cI cL cZ ad c_sr t_n t_r t_w s_w s_h s_c s_p s_s p_nx p_sz 3 l_z q_z t_t b_l b_b b_n l_l l_b l_n q_l q_b q_n t_le s_cs s_ps s_ha s_en pk ik s_ro s_me s_be s_se s_co pl pb pn il ib im l_a q_a ⟨hx, hb, hml, hrt, hlocks, hown, hts, hk⟩ hAd _ _ (fun z17 z18 z19 H locs ls hr hP hS hl => ?_) (fu s_s (0 : Int32)) 0 z10 z11 z12 _ _ _ (fuU_0 (by decide)) hr hP hS (lv_sub hl [1, 0] rfl)
        subst hr
        exact ret_v hx hb hrt hlocks hP hS dX3_seek_233
    · have hr := (if_pos c125).symm.trans hr
      refine lv_aload_n hx hb dX3_seek_128 rfl (lv_at hl 0 rfl) ?_
      refine lv_iconst (v := 2) hx hb dX3_seek_129 (by decide) ?_
      refine va_put (D := D) (ci := 3) (v := .int 2) (ty := .int) (C := RX3) (T := TX3) (N := 6) hx hb hts u_X3 tyX3 tyX3_ok nmX3 hown hk.1 hP (cw_D hAd) hS 25 rfl rfl 3 (by decide) (hts _ q1_183) (fun _ h9 => h9) rfl (tyX3_ok 3 (by decide)) rfl rfl (Nat.le_of_ble_eq_true rfl) dX3_seek_130 (fun H locs hP _ hS => ?_)
      have hP : va_P D vwCl (cw ad cI cL cZ c_sr t_n t_r t_w s_w s_h s_c s_p s_s p_nx p_sz z6 2 z7 l_z q_z t_t b_l b_b b_n z8 l_l l_b l_n q_l q_b q_n t_le s_cs s_ps s_ha s_en pk ik s_ro s_me s_be s_se s_co pl pb pn il ib im l_a q_a) H := hP
      refine lv_iconst (v := 0) hx hb dX3_seek_133 (by decide) ?_
      refine lv_istore_n (lv' := [(1, .int 0), (0, .ref (ad 25))]) hx hb dX3_seek_134 rfl hl (by decide) rfl (fun ls hl => ?_)
      refine lp_X3_seek_135 l D cI cL cZ ad c_sr t_n t_r t_w s_w s_h s_c s_p s_s p_nx p_sz 2 l_z q_z t_t b_l b_b b_n l_l l_b l_n q_l q_b q_n t_le s_cs s_ps s_ha s_en pk ik s_ro s_me s_be s_se s_co pl pb pn il ib im l_a q_a ⟨hx, hb, hml, hrt, hlocks, hown, hts, hk⟩ hAd _ _ (fun z20 z21 z22 H locs ls hr hP hS hl => ?_) (fu s_s (0 : Int32)) 0 z6 z7 z8 _ _ _ (fuU_0 (by decide)) hr hP hS (lv_sub hl [1, 0] rfl)
      refine lv_aload_n hx hb dX3_seek_177 rfl (lv_at hl 0 rfl) ?_
      refine va_get (D := D) (ci := 3) (v := .int z20) (C := RX3) (T := TX3) (N := 6) hx hb hts u_X3 hown hk.1 hP 25 rfl rfl 2 (by decide) (hts _ q1_181) (fun _ h9 => h9) rfl dX3_seek_178 ?_
      refine lv_if_ne (tgt := 189) hx hb dX3_seek_181 (by decide) (fun c181 => ?_) (fun c181 => ?_)
      · have hr := (if_neg c181).symm.trans hr
        refine lv_iconst (v := 0) hx hb dX3_seek_189 (by decide) ?_
        refine lv_istore_n (lv' := [(1, .int 0), (0, .ref (ad 25))]) hx hb dX3_seek_190 rfl hl (by decide) rfl (fun ls hl => ?_)
        refine lp_X3_seek_191 l D cI cL cZ ad c_sr t_n t_r t_w s_w s_h s_c s_p s_s p_nx p_sz 2 l_z q_z t_t b_l b_b b_n l_l l_b l_n q_l q_b q_n t_le s_cs s_ps s_ha s_en pk ik s_ro s_me s_be s_se s_co pl pb pn il ib im l_a q_a ⟨hx, hb, hml, hrt, hlocks, hown, hts, hk⟩ hAd _ _ (fun z23 z24 z25 H locs ls hr hP hS hl => ?_) (fu s_s (0 : Int32)) 0 z20 z21 z22 _ _ _ (fuU_0 (by decide)) hr hP hS (lv_sub hl [1, 0] rfl)
        subst hr
        exact ret_v hx hb hrt hlocks hP hS dX3_seek_233
      · have hr := (if_pos c181).symm.trans hr
        refine lv_aload_n hx hb dX3_seek_184 rfl (lv_at hl 0 rfl) ?_
        refine lv_iconst (v := 3) hx hb dX3_seek_185 (by decide) ?_
        refine va_put (D := D) (ci := 3) (v := .int 3) (ty := .int) (C := RX3) (T := TX3) (N := 6) hx hb hts u_X3 tyX3 tyX3_ok nmX3 hown hk.1 hP (cw_D hAd) hS 25 rfl rfl 3 (by decide) (hts _ q1_183) (fun _ h9 => h9) rfl (tyX3_ok 3 (by decide)) rfl rfl (Nat.le_of_ble_eq_true rfl) dX3_seek_186 (fun H locs hP _ hS => ?_)
        have hP : va_P D vwCl (cw ad cI cL cZ c_sr t_n t_r t_w s_w s_h s_c s_p s_s p_nx p_sz z20 3 z21 l_z q_z t_t b_l b_b b_n z22 l_l l_b l_n q_l q_b q_n t_le s_cs s_ps s_ha s_en pk ik s_ro s_me s_be s_se s_co pl pb pn il ib im l_a q_a) H := hP
        refine lv_iconst (v := 0) hx hb dX3_seek_189 (by decide) ?_
        refine lv_istore_n (lv' := [(1, .int 0), (0, .ref (ad 25))]) hx hb dX3_seek_190 rfl hl (by decide) rfl (fun ls hl => ?_)
        refine lp_X3_seek_191 l D cI cL cZ ad c_sr t_n t_r t_w s_w s_h s_c s_p s_s p_nx p_sz 3 l_z q_z t_t b_l b_b b_n l_l l_b l_n q_l q_b q_n t_le s_cs s_ps s_ha s_en pk ik s_ro s_me s_be s_se s_co pl pb pn il ib im l_a q_a ⟨hx, hb, hml, hrt, hlocks, hown, hts, hk⟩ hAd _ _ (fun z26 z27 z28 H locs ls hr hP hS hl => ?_) (fu s_s (0 : Int32)) 0 z20 z21 z22 _ _ _ (fuU_0 (by decide)) hr hP hS (lv_sub hl [1, 0] rfl)
        subst hr
        exact ret_v hx hb hrt hlocks hP hS dX3_seek_233
  · have hr := (if_pos c70).symm.trans hr
    refine lv_aload_n hx hb dX3_seek_73 rfl (lv_at hl 0 rfl) ?_
    refine lv_iconst (v := 1) hx hb dX3_seek_74 (by decide) ?_
    refine va_put (D := D) (ci := 3) (v := .int 1) (ty := .int) (C := RX3) (T := TX3) (N := 6) hx hb hts u_X3 tyX3 tyX3_ok nmX3 hown hk.1 hP (cw_D hAd) hS 25 rfl rfl 3 (by decide) (hts _ q1_183) (fun _ h9 => h9) rfl (tyX3_ok 3 (by decide)) rfl rfl (Nat.le_of_ble_eq_true rfl) dX3_seek_75 (fun H locs hP _ hS => ?_)
    have hP : va_P D vwCl (cw ad cI cL cZ c_sr t_n t_r t_w s_w s_h s_c s_p s_s p_nx p_sz z2 1 z3 l_z q_z t_t b_l b_b b_n z4 l_l l_b l_n q_l q_b q_n t_le s_cs s_ps s_ha s_en pk ik s_ro s_me s_be s_se s_co pl pb pn il ib im l_a q_a) H := hP
    refine lv_iconst (v := 0) hx hb dX3_seek_78 (by decide) ?_
    refine lv_istore_n (lv' := [(1, .int 0), (0, .ref (ad 25))]) hx hb dX3_seek_79 rfl hl (by decide) rfl (fun ls hl => ?_)
    refine lp_X3_seek_80 l D cI cL cZ ad c_sr t_n t_r t_w s_w s_h s_c s_p s_s p_nx p_sz 1 l_z q_z t_t b_l b_b b_n l_l l_b l_n q_l q_b q_n t_le s_cs s_ps s_ha s_en pk ik s_ro s_me s_be s_se s_co pl pb pn il ib im l_a q_a ⟨hx, hb, hml, hrt, hlocks, hown, hts, hk⟩ hAd _ _ (fun z29 z30 z31 H locs ls hr hP hS hl => ?_) (fu s_p (0 : Int32)) 0 z2 z3 z4 _ _ _ (fuU_0 (by decide)) hr hP hS (lv_sub hl [1, 0] rfl)
    refine lv_aload_n hx hb dX3_seek_121 rfl (lv_at hl 0 rfl) ?_
    refine va_get (D := D) (ci := 3) (v := .int z29) (C := RX3) (T := TX3) (N := 6) hx hb hts u_X3 hown hk.1 hP 25 rfl rfl 2 (by decide) (hts _ q1_181) (fun _ h9 => h9) rfl dX3_seek_122 ?_
    refine lv_if_ne (tgt := 133) hx hb dX3_seek_125 (by decide) (fun c125 => ?_) (fun c125 => ?_)
    · have hr := (if_neg c125).symm.trans hr
      refine lv_iconst (v := 0) hx hb dX3_seek_133 (by decide) ?_
      refine lv_istore_n (lv' := [(1, .int 0), (0, .ref (ad 25))]) hx hb dX3_seek_134 rfl hl (by decide) rfl (fun ls hl => ?_)
      refine lp_X3_seek_135 l D cI cL cZ ad c_sr t_n t_r t_w s_w s_h s_c s_p s_s p_nx p_sz 1 l_z q_z t_t b_l b_b b_n l_l l_b l_n q_l q_b q_n t_le s_cs s_ps s_ha s_en pk ik s_ro s_me s_be s_se s_co pl pb pn il ib im l_a q_a ⟨hx, hb, hml, hrt, hlocks, hown, hts, hk⟩ hAd _ _ (fun z32 z33 z34 H locs ls hr hP hS hl => ?_) (fu s_s (0 : Int32)) 0 z29 z30 z31 _ _ _ (fuU_0 (by decide)) hr hP hS (lv_sub hl [1, 0] rfl)
      refine lv_aload_n hx hb dX3_seek_177 rfl (lv_at hl 0 rfl) ?_
      refine va_get (D := D) (ci := 3) (v := .int z32) (C := RX3) (T := TX3) (N := 6) hx hb hts u_X3 hown hk.1 hP 25 rfl rfl 2 (by decide) (hts _ q1_181) (fun _ h9 => h9) rfl dX3_seek_178 ?_
      refine lv_if_ne (tgt := 189) hx hb dX3_seek_181 (by decide) (fun c181 => ?_) (fun c181 => ?_)
      · have hr := (if_neg c181).symm.trans hr
        refine lv_iconst (v := 0) hx hb dX3_seek_189 (by decide) ?_
        refine lv_istore_n (lv' := [(1, .int 0), (0, .ref (ad 25))]) hx hb dX3_seek_190 rfl hl (by decide) rfl (fun ls hl => ?_)
        refine lp_X3_seek_191 l D cI cL cZ ad c_sr t_n t_r t_w s_w s_h s_c s_p s_s p_nx p_sz 1 l_z q_z t_t b_l b_b b_n l_l l_b l_n q_l q_b q_n t_le s_cs s_ps s_ha s_en pk ik s_ro s_me s_be s_se s_co pl pb pn il ib im l_a q_a ⟨hx, hb, hml, hrt, hlocks, hown, hts, hk⟩ hAd _ _ (fun z35 z36 z37 H locs ls hr hP hS hl => ?_) (fu s_s (0 : Int32)) 0 z32 z33 z34 _ _ _ (fuU_0 (by decide)) hr hP hS (lv_sub hl [1, 0] rfl)
        subst hr
        exact ret_v hx hb hrt hlocks hP hS dX3_seek_233
      · have hr := (if_pos c181).symm.trans hr
        refine lv_aload_n hx hb dX3_seek_184 rfl (lv_at hl 0 rfl) ?_
        refine lv_iconst (v := 3) hx hb dX3_seek_185 (by decide) ?_
        refine va_put (D := D) (ci := 3) (v := .int 3) (ty := .int) (C := RX3) (T := TX3) (N := 6) hx hb hts u_X3 tyX3 tyX3_ok nmX3 hown hk.1 hP (cw_D hAd) hS 25 rfl rfl 3 (by decide) (hts _ q1_183) (fun _ h9 => h9) rfl (tyX3_ok 3 (by decide)) rfl rfl (Nat.le_of_ble_eq_true rfl) dX3_seek_186 (fun H locs hP _ hS => ?_)
        have hP : va_P D vwCl (cw ad cI cL cZ c_sr t_n t_r t_w s_w s_h s_c s_p s_s p_nx p_sz z32 3 z33 l_z q_z t_t b_l b_b b_n z34 l_l l_b l_n q_l q_b q_n t_le s_cs s_ps s_ha s_en pk ik s_ro s_me s_be s_se s_co pl pb pn il ib im l_a q_a) H := hP
        refine lv_iconst (v := 0) hx hb dX3_seek_189 (by decide) ?_
        refine lv_istore_n (lv' := [(1, .int 0), (0, .ref (ad 25))]) hx hb dX3_seek_190 rfl hl (by decide) rfl (fun ls hl => ?_)
        refine lp_X3_seek_191 l D cI cL cZ ad c_sr t_n t_r t_w s_w s_h s_c s_p s_s p_nx p_sz 3 l_z q_z t_t b_l b_b b_n l_l l_b l_n q_l q_b q_n t_le s_cs s_ps s_ha s_en pk ik s_ro s_me s_be s_se s_co pl pb pn il ib im l_a q_a ⟨hx, hb, hml, hrt, hlocks, hown, hts, hk⟩ hAd _ _ (fun z38 z39 z40 H locs ls hr hP hS hl => ?_) (fu s_s (0 : Int32)) 0 z32 z33 z34 _ _ _ (fuU_0 (by decide)) hr hP hS (lv_sub hl [1, 0] rfl)
        subst hr
        exact ret_v hx hb hrt hlocks hP hS dX3_seek_233
    · have hr := (if_pos c125).symm.trans hr
      refine lv_aload_n hx hb dX3_seek_128 rfl (lv_at hl 0 rfl) ?_
      refine lv_iconst (v := 2) hx hb dX3_seek_129 (by decide) ?_
      refine va_put (D := D) (ci := 3) (v := .int 2) (ty := .int) (C := RX3) (T := TX3) (N := 6) hx hb hts u_X3 tyX3 tyX3_ok nmX3 hown hk.1 hP (cw_D hAd) hS 25 rfl rfl 3 (by decide) (hts _ q1_183) (fun _ h9 => h9) rfl (tyX3_ok 3 (by decide)) rfl rfl (Nat.le_of_ble_eq_true rfl) dX3_seek_130 (fun H locs hP _ hS => ?_)
      have hP : va_P D vwCl (cw ad cI cL cZ c_sr t_n t_r t_w s_w s_h s_c s_p s_s p_nx p_sz z29 2 z30 l_z q_z t_t b_l b_b b_n z31 l_l l_b l_n q_l q_b q_n t_le s_cs s_ps s_ha s_en pk ik s_ro s_me s_be s_se s_co pl pb pn il ib im l_a q_a) H := hP
      refine lv_iconst (v := 0) hx hb dX3_seek_133 (by decide) ?_
      refine lv_istore_n (lv' := [(1, .int 0), (0, .ref (ad 25))]) hx hb dX3_seek_134 rfl hl (by decide) rfl (fun ls hl => ?_)
      refine lp_X3_seek_135 l D cI cL cZ ad c_sr t_n t_r t_w s_w s_h s_c s_p s_s p_nx p_sz 2 l_z q_z t_t b_l b_b b_n l_l l_b l_n q_l q_b q_n t_le s_cs s_ps s_ha s_en pk ik s_ro s_me s_be s_se s_co pl pb pn il ib im l_a q_a ⟨hx, hb, hml, hrt, hlocks, hown, hts, hk⟩ hAd _ _ (fun z41 z42 z43 H locs ls hr hP hS hl => ?_) (fu s_s (0 : Int32)) 0 z29 z30 z31 _ _ _ (fuU_0 (by decide)) hr hP hS (lv_sub hl [1, 0] rfl)
      refine lv_aload_n hx hb dX3_seek_177 rfl (lv_at hl 0 rfl) ?_
      refine va_get (D := D) (ci := 3) (v := .int z41) (C := RX3) (T := TX3) (N := 6) hx hb hts u_X3 hown hk.1 hP 25 rfl rfl 2 (by decide) (hts _ q1_181) (fun _ h9 => h9) rfl dX3_seek_178 ?_
      refine lv_if_ne (tgt := 189) hx hb dX3_seek_181 (by decide) (fun c181 => ?_) (fun c181 => ?_)
      · have hr := (if_neg c181).symm.trans hr
        refine lv_iconst (v := 0) hx hb dX3_seek_189 (by decide) ?_
        refine lv_istore_n (lv' := [(1, .int 0), (0, .ref (ad 25))]) hx hb dX3_seek_190 rfl hl (by decide) rfl (fun ls hl => ?_)
        refine lp_X3_seek_191 l D cI cL cZ ad c_sr t_n t_r t_w s_w s_h s_c s_p s_s p_nx p_sz 2 l_z q_z t_t b_l b_b b_n l_l l_b l_n q_l q_b q_n t_le s_cs s_ps s_ha s_en pk ik s_ro s_me s_be s_se s_co pl pb pn il ib im l_a q_a ⟨hx, hb, hml, hrt, hlocks, hown, hts, hk⟩ hAd _ _ (fun z44 z45 z46 H locs ls hr hP hS hl => ?_) (fu s_s (0 : Int32)) 0 z41 z42 z43 _ _ _ (fuU_0 (by decide)) hr hP hS (lv_sub hl [1, 0] rfl)
        subst hr
        exact ret_v hx hb hrt hlocks hP hS dX3_seek_233
      · have hr := (if_pos c181).symm.trans hr
        refine lv_aload_n hx hb dX3_seek_184 rfl (lv_at hl 0 rfl) ?_
        refine lv_iconst (v := 3) hx hb dX3_seek_185 (by decide) ?_
        refine va_put (D := D) (ci := 3) (v := .int 3) (ty := .int) (C := RX3) (T := TX3) (N := 6) hx hb hts u_X3 tyX3 tyX3_ok nmX3 hown hk.1 hP (cw_D hAd) hS 25 rfl rfl 3 (by decide) (hts _ q1_183) (fun _ h9 => h9) rfl (tyX3_ok 3 (by decide)) rfl rfl (Nat.le_of_ble_eq_true rfl) dX3_seek_186 (fun H locs hP _ hS => ?_)
        have hP : va_P D vwCl (cw ad cI cL cZ c_sr t_n t_r t_w s_w s_h s_c s_p s_s p_nx p_sz z41 3 z42 l_z q_z t_t b_l b_b b_n z43 l_l l_b l_n q_l q_b q_n t_le s_cs s_ps s_ha s_en pk ik s_ro s_me s_be s_se s_co pl pb pn il ib im l_a q_a) H := hP
        refine lv_iconst (v := 0) hx hb dX3_seek_189 (by decide) ?_
        refine lv_istore_n (lv' := [(1, .int 0), (0, .ref (ad 25))]) hx hb dX3_seek_190 rfl hl (by decide) rfl (fun ls hl => ?_)
        refine lp_X3_seek_191 l D cI cL cZ ad c_sr t_n t_r t_w s_w s_h s_c s_p s_s p_nx p_sz 3 l_z q_z t_t b_l b_b b_n l_l l_b l_n q_l q_b q_n t_le s_cs s_ps s_ha s_en pk ik s_ro s_me s_be s_se s_co pl pb pn il ib im l_a q_a ⟨hx, hb, hml, hrt, hlocks, hown, hts, hk⟩ hAd _ _ (fun z47 z48 z49 H locs ls hr hP hS hl => ?_) (fu s_s (0 : Int32)) 0 z41 z42 z43 _ _ _ (fuU_0 (by decide)) hr hP hS (lv_sub hl [1, 0] rfl)
        subst hr
        exact ret_v hx hb hrt hlocks hP hS dX3_seek_233
